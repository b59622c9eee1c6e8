theorem dX12_init_0 : decode cX12_init 0 = .ok (.aload_n 0, 1) := by decide +kernel
theorem dX12_init_1 : decode cX12_init 1 = .ok (.invokespecial 1, 3) := by decide +kernel
theorem dX12_init_4 : decode cX12_init 4 = .ok (.aload_n 0, 1) := by decide +kernel
theorem dX12_init_5 : decode cX12_init 5 = .ok (.sipush 300, 3) := by decide +kernel
theorem dX12_init_8 : decode cX12_init 8 = .ok (.newarray .int, 2) := by decide +kernel
theorem dX12_init_10 : decode cX12_init 10 = .ok (.putfield 7, 3) := by decide +kernel
theorem dX12_init_13 : decode cX12_init 13 = .ok (.aload_n 0, 1) := by decide +kernel
theorem dX12_init_14 : decode cX12_init 14 = .ok (.sipush 300, 3) := by decide +kernel
theorem dX12_init_17 : decode cX12_init 17 = .ok (.newarray .int, 2) := by decide +kernel
theorem dX12_init_19 : decode cX12_init 19 = .ok (.putfield 13, 3) := by decide +kernel
theorem dX12_init_22 : decode cX12_init 22 = .ok (.aload_n 0, 1) := by decide +kernel
theorem dX12_init_23 : decode cX12_init 23 = .ok (.sipush 300, 3) := by decide +kernel
theorem dX12_init_26 : decode cX12_init 26 = .ok (.newarray .int, 2) := by decide +kernel
theorem dX12_init_28 : decode cX12_init 28 = .ok (.putfield 16, 3) := by decide +kernel
theorem dX12_init_31 : decode cX12_init 31 = .ok (.aload_n 0, 1) := by decide +kernel
theorem dX12_init_32 : decode cX12_init 32 = .ok (.sipush 2400, 3) := by decide +kernel
theorem dX12_init_35 : decode cX12_init 35 = .ok (.newarray .int, 2) := by decide +kernel
theorem dX12_init_37 : decode cX12_init 37 = .ok (.putfield 19, 3) := by decide +kernel
theorem dX12_init_40 : decode cX12_init 40 = .ok (.aload_n 0, 1) := by decide +kernel
theorem dX12_init_41 : decode cX12_init 41 = .ok (.iconst 4, 1) := by decide +kernel
theorem dX12_init_42 : decode cX12_init 42 = .ok (.newarray .int, 2) := by decide +kernel
theorem dX12_init_44 : decode cX12_init 44 = .ok (.putfield 22, 3) := by decide +kernel
theorem dX12_init_47 : decode cX12_init 47 = .ok (.aload_n 0, 1) := by decide +kernel
theorem dX12_init_48 : decode cX12_init 48 = .ok (.iconst 4, 1) := by decide +kernel
theorem dX12_init_49 : decode cX12_init 49 = .ok (.newarray .int, 2) := by decide +kernel
theorem dX12_init_51 : decode cX12_init 51 = .ok (.putfield 25, 3) := by decide +kernel
theorem dX12_init_54 : decode cX12_init 54 = .ok (.aload_n 0, 1) := by decide +kernel
theorem dX12_init_55 : decode cX12_init 55 = .ok (.iconst 0, 1) := by decide +kernel
theorem dX12_init_56 : decode cX12_init 56 = .ok (.putfield 28, 3) := by decide +kernel
theorem dX12_init_59 : decode cX12_init 59 = .ok (.aload_n 0, 1) := by decide +kernel
theorem dX12_init_60 : decode cX12_init 60 = .ok (.iconst 0, 1) := by decide +kernel
theorem dX12_init_61 : decode cX12_init 61 = .ok (.putfield 32, 3) := by decide +kernel
theorem dX12_init_64 : decode cX12_init 64 = .ok (.aload_n 0, 1) := by decide +kernel
theorem dX12_init_65 : decode cX12_init 65 = .ok (.iconst (-1), 1) := by decide +kernel
theorem dX12_init_66 : decode cX12_init 66 = .ok (.putfield 35, 3) := by decide +kernel
theorem dX12_init_69 : decode cX12_init 69 = .ok (.aload_n 0, 1) := by decide +kernel
theorem dX12_init_70 : decode cX12_init 70 = .ok (.iconst (-1), 1) := by decide +kernel
theorem dX12_init_71 : decode cX12_init 71 = .ok (.putfield 38, 3) := by decide +kernel
theorem dX12_init_74 : decode cX12_init 74 = .ok (.aload_n 0, 1) := by decide +kernel
theorem dX12_init_75 : decode cX12_init 75 = .ok (.iconst 0, 1) := by decide +kernel
theorem dX12_init_76 : decode cX12_init 76 = .ok (.putfield 41, 3) := by decide +kernel
theorem dX12_init_79 : decode cX12_init 79 = .ok (.aload_n 0, 1) := by decide +kernel
theorem dX12_init_80 : decode cX12_init 80 = .ok (.bipush 80, 2) := by decide +kernel
theorem dX12_init_82 : decode cX12_init 82 = .ok (.newarray .int, 2) := by decide +kernel
theorem dX12_init_84 : decode cX12_init 84 = .ok (.putfield 45, 3) := by decide +kernel
theorem dX12_init_87 : decode cX12_init 87 = .ok (.aload_n 0, 1) := by decide +kernel
theorem dX12_init_88 : decode cX12_init 88 = .ok (.iconst 0, 1) := by decide +kernel
theorem dX12_init_89 : decode cX12_init 89 = .ok (.putfield 48, 3) := by decide +kernel
theorem dX12_init_92 : decode cX12_init 92 = .ok (.aload_n 0, 1) := by decide +kernel
theorem dX12_init_93 : decode cX12_init 93 = .ok (.bipush 60, 2) := by decide +kernel
theorem dX12_init_95 : decode cX12_init 95 = .ok (.newarray .int, 2) := by decide +kernel
theorem dX12_init_97 : decode cX12_init 97 = .ok (.putfield 51, 3) := by decide +kernel
theorem dX12_init_100 : decode cX12_init 100 = .ok (.aload_n 0, 1) := by decide +kernel
theorem dX12_init_101 : decode cX12_init 101 = .ok (.bipush 32, 2) := by decide +kernel
theorem dX12_init_103 : decode cX12_init 103 = .ok (.newarray .int, 2) := by decide +kernel
theorem dX12_init_105 : decode cX12_init 105 = .ok (.putfield 54, 3) := by decide +kernel
theorem dX12_init_108 : decode cX12_init 108 = .ok (.aload_n 0, 1) := by decide +kernel
theorem dX12_init_109 : decode cX12_init 109 = .ok (.sipush 128, 3) := by decide +kernel
theorem dX12_init_112 : decode cX12_init 112 = .ok (.newarray .int, 2) := by decide +kernel
theorem dX12_init_114 : decode cX12_init 114 = .ok (.putfield 57, 3) := by decide +kernel
theorem dX12_init_117 : decode cX12_init 117 = .ok (.aload_n 0, 1) := by decide +kernel
theorem dX12_init_118 : decode cX12_init 118 = .ok (.iconst 0, 1) := by decide +kernel
theorem dX12_init_119 : decode cX12_init 119 = .ok (.putfield 60, 3) := by decide +kernel
theorem dX12_init_122 : decode cX12_init 122 = .ok (.aload_n 0, 1) := by decide +kernel
theorem dX12_init_123 : decode cX12_init 123 = .ok (.iconst 0, 1) := by decide +kernel
theorem dX12_init_124 : decode cX12_init 124 = .ok (.putfield 63, 3) := by decide +kernel
theorem dX12_init_127 : decode cX12_init 127 = .ok (.aload_n 0, 1) := by decide +kernel
theorem dX12_init_128 : decode cX12_init 128 = .ok (.iconst 0, 1) := by decide +kernel
theorem dX12_init_129 : decode cX12_init 129 = .ok (.putfield 66, 3) := by decide +kernel
theorem dX12_init_132 : decode cX12_init 132 = .ok (.aload_n 0, 1) := by decide +kernel
theorem dX12_init_133 : decode cX12_init 133 = .ok (.iconst 0, 1) := by decide +kernel
theorem dX12_init_134 : decode cX12_init 134 = .ok (.putfield 69, 3) := by decide +kernel
theorem dX12_init_137 : decode cX12_init 137 = .ok (.aload_n 0, 1) := by decide +kernel
theorem dX12_init_138 : decode cX12_init 138 = .ok (.iconst 0, 1) := by decide +kernel
theorem dX12_init_139 : decode cX12_init 139 = .ok (.putfield 72, 3) := by decide +kernel
theorem dX12_init_142 : decode cX12_init 142 = .ok (.return_, 1) := by decide +kernel
theorem dX12_thrown_0 : decode cX12_thrown 0 = .ok (.aload_n 0, 1) := by decide +kernel
theorem dX12_thrown_1 : decode cX12_thrown 1 = .ok (.getfield 28, 3) := by decide +kernel
theorem dX12_thrown_4 : decode cX12_thrown 4 = .ok (.ireturn, 1) := by decide +kernel
theorem dX12_in_0 : decode cX12_in 0 = .ok (.iload_n 0, 1) := by decide +kernel
theorem dX12_in_1 : decode cX12_in 1 = .ok (.iload_n 1, 1) := by decide +kernel
theorem dX12_in_2 : decode cX12_in 2 = .ok (.if_icmp .lt 12, 3) := by decide +kernel
theorem dX12_in_5 : decode cX12_in 5 = .ok (.iload_n 0, 1) := by decide +kernel
theorem dX12_in_6 : decode cX12_in 6 = .ok (.iload_n 2, 1) := by decide +kernel
theorem dX12_in_7 : decode cX12_in 7 = .ok (.if_icmp .gt 7, 3) := by decide +kernel
theorem dX12_in_10 : decode cX12_in 10 = .ok (.iconst 1, 1) := by decide +kernel
theorem dX12_in_11 : decode cX12_in 11 = .ok (.goto 4, 3) := by decide +kernel
theorem dX12_in_14 : decode cX12_in 14 = .ok (.iconst 0, 1) := by decide +kernel
theorem dX12_in_15 : decode cX12_in 15 = .ok (.ireturn, 1) := by decide +kernel
theorem dX12_copy_0 : decode cX12_copy 0 = .ok (.iconst 0, 1) := by decide +kernel
theorem dX12_copy_1 : decode cX12_copy 1 = .ok (.istore 4, 2) := by decide +kernel
theorem dX12_copy_3 : decode cX12_copy 3 = .ok (.iload 4, 2) := by decide +kernel
theorem dX12_copy_5 : decode cX12_copy 5 = .ok (.sipush 300, 3) := by decide +kernel
theorem dX12_copy_8 : decode cX12_copy 8 = .ok (.if_icmp .ge 21, 3) := by decide +kernel
theorem dX12_copy_11 : decode cX12_copy 11 = .ok (.aload_n 2, 1) := by decide +kernel
theorem dX12_copy_12 : decode cX12_copy 12 = .ok (.iload_n 3, 1) := by decide +kernel
theorem dX12_copy_13 : decode cX12_copy 13 = .ok (.iload 4, 2) := by decide +kernel
theorem dX12_copy_15 : decode cX12_copy 15 = .ok (.iadd, 1) := by decide +kernel
theorem dX12_copy_16 : decode cX12_copy 16 = .ok (.aload_n 0, 1) := by decide +kernel
theorem dX12_copy_17 : decode cX12_copy 17 = .ok (.iload_n 1, 1) := by decide +kernel
theorem dX12_copy_18 : decode cX12_copy 18 = .ok (.iload 4, 2) := by decide +kernel
theorem dX12_copy_20 : decode cX12_copy 20 = .ok (.iadd, 1) := by decide +kernel
theorem dX12_copy_21 : decode cX12_copy 21 = .ok (.iaload, 1) := by decide +kernel
theorem dX12_copy_22 : decode cX12_copy 22 = .ok (.iastore, 1) := by decide +kernel
theorem dX12_copy_23 : decode cX12_copy 23 = .ok (.iinc 4 1, 3) := by decide +kernel
theorem dX12_copy_26 : decode cX12_copy 26 = .ok (.goto (-23), 3) := by decide +kernel
theorem dX12_copy_29 : decode cX12_copy 29 = .ok (.return_, 1) := by decide +kernel
theorem dX12_fail_0 : decode cX12_fail 0 = .ok (.aload_n 0, 1) := by decide +kernel
theorem dX12_fail_1 : decode cX12_fail 1 = .ok (.iload_n 1, 1) := by decide +kernel
theorem dX12_fail_2 : decode cX12_fail 2 = .ok (.putfield 28, 3) := by decide +kernel
theorem dX12_fail_5 : decode cX12_fail 5 = .ok (.iconst 0, 1) := by decide +kernel
theorem dX12_fail_6 : decode cX12_fail 6 = .ok (.ireturn, 1) := by decide +kernel
theorem dX12_begin_0 : decode cX12_begin 0 = .ok (.aload_n 0, 1) := by decide +kernel
theorem dX12_begin_1 : decode cX12_begin 1 = .ok (.iconst 0, 1) := by decide +kernel
theorem dX12_begin_2 : decode cX12_begin 2 = .ok (.putfield 28, 3) := by decide +kernel
theorem dX12_begin_5 : decode cX12_begin 5 = .ok (.aload_n 0, 1) := by decide +kernel
theorem dX12_begin_6 : decode cX12_begin 6 = .ok (.getfield 7, 3) := by decide +kernel
theorem dX12_begin_9 : decode cX12_begin 9 = .ok (.iconst 0, 1) := by decide +kernel
theorem dX12_begin_10 : decode cX12_begin 10 = .ok (.aload_n 0, 1) := by decide +kernel
theorem dX12_begin_11 : decode cX12_begin 11 = .ok (.getfield 13, 3) := by decide +kernel
theorem dX12_begin_14 : decode cX12_begin 14 = .ok (.iconst 0, 1) := by decide +kernel
theorem dX12_begin_15 : decode cX12_begin 15 = .ok (.invokestatic 75, 3) := by decide +kernel
theorem dX12_begin_18 : decode cX12_begin 18 = .ok (.return_, 1) := by decide +kernel
theorem dX12_commit_0 : decode cX12_commit 0 = .ok (.aload_n 0, 1) := by decide +kernel
theorem dX12_commit_1 : decode cX12_commit 1 = .ok (.getfield 32, 3) := by decide +kernel
theorem dX12_commit_4 : decode cX12_commit 4 = .ok (.bipush 8, 2) := by decide +kernel
theorem dX12_commit_6 : decode cX12_commit 6 = .ok (.if_icmp .ne 50, 3) := by decide +kernel
theorem dX12_commit_9 : decode cX12_commit 9 = .ok (.iconst 1, 1) := by decide +kernel
theorem dX12_commit_10 : decode cX12_commit 10 = .ok (.istore_n 2, 1) := by decide +kernel
theorem dX12_commit_11 : decode cX12_commit 11 = .ok (.iload_n 2, 1) := by decide +kernel
theorem dX12_commit_12 : decode cX12_commit 12 = .ok (.bipush 8, 2) := by decide +kernel
theorem dX12_commit_14 : decode cX12_commit 14 = .ok (.if_icmp .ge 32, 3) := by decide +kernel
theorem dX12_commit_17 : decode cX12_commit 17 = .ok (.aload_n 0, 1) := by decide +kernel
theorem dX12_commit_18 : decode cX12_commit 18 = .ok (.getfield 19, 3) := by decide +kernel
theorem dX12_commit_21 : decode cX12_commit 21 = .ok (.sipush 300, 3) := by decide +kernel
theorem dX12_commit_24 : decode cX12_commit 24 = .ok (.iload_n 2, 1) := by decide +kernel
theorem dX12_commit_25 : decode cX12_commit 25 = .ok (.imul, 1) := by decide +kernel
theorem dX12_commit_26 : decode cX12_commit 26 = .ok (.aload_n 0, 1) := by decide +kernel
theorem dX12_commit_27 : decode cX12_commit 27 = .ok (.getfield 19, 3) := by decide +kernel
theorem dX12_commit_30 : decode cX12_commit 30 = .ok (.sipush 300, 3) := by decide +kernel
theorem dX12_commit_33 : decode cX12_commit 33 = .ok (.iload_n 2, 1) := by decide +kernel
theorem dX12_commit_34 : decode cX12_commit 34 = .ok (.iconst 1, 1) := by decide +kernel
theorem dX12_commit_35 : decode cX12_commit 35 = .ok (.isub, 1) := by decide +kernel
theorem dX12_commit_36 : decode cX12_commit 36 = .ok (.imul, 1) := by decide +kernel
theorem dX12_commit_37 : decode cX12_commit 37 = .ok (.invokestatic 75, 3) := by decide +kernel
theorem dX12_commit_40 : decode cX12_commit 40 = .ok (.iinc 2 1, 3) := by decide +kernel
theorem dX12_commit_43 : decode cX12_commit 43 = .ok (.goto (-32), 3) := by decide +kernel
theorem dX12_commit_46 : decode cX12_commit 46 = .ok (.aload_n 0, 1) := by decide +kernel
theorem dX12_commit_47 : decode cX12_commit 47 = .ok (.dup, 1) := by decide +kernel
theorem dX12_commit_48 : decode cX12_commit 48 = .ok (.getfield 32, 3) := by decide +kernel
theorem dX12_commit_51 : decode cX12_commit 51 = .ok (.iconst 1, 1) := by decide +kernel
theorem dX12_commit_52 : decode cX12_commit 52 = .ok (.isub, 1) := by decide +kernel
theorem dX12_commit_53 : decode cX12_commit 53 = .ok (.putfield 32, 3) := by decide +kernel
theorem dX12_commit_56 : decode cX12_commit 56 = .ok (.aload_n 0, 1) := by decide +kernel
theorem dX12_commit_57 : decode cX12_commit 57 = .ok (.getfield 13, 3) := by decide +kernel
theorem dX12_commit_60 : decode cX12_commit 60 = .ok (.iconst 0, 1) := by decide +kernel
theorem dX12_commit_61 : decode cX12_commit 61 = .ok (.aload_n 0, 1) := by decide +kernel
theorem dX12_commit_62 : decode cX12_commit 62 = .ok (.getfield 19, 3) := by decide +kernel
theorem dX12_commit_65 : decode cX12_commit 65 = .ok (.sipush 300, 3) := by decide +kernel
theorem dX12_commit_68 : decode cX12_commit 68 = .ok (.aload_n 0, 1) := by decide +kernel
theorem dX12_commit_69 : decode cX12_commit 69 = .ok (.getfield 32, 3) := by decide +kernel
theorem dX12_commit_72 : decode cX12_commit 72 = .ok (.imul, 1) := by decide +kernel
theorem dX12_commit_73 : decode cX12_commit 73 = .ok (.invokestatic 75, 3) := by decide +kernel
theorem dX12_commit_76 : decode cX12_commit 76 = .ok (.aload_n 0, 1) := by decide +kernel
theorem dX12_commit_77 : decode cX12_commit 77 = .ok (.dup, 1) := by decide +kernel
theorem dX12_commit_78 : decode cX12_commit 78 = .ok (.getfield 32, 3) := by decide +kernel
theorem dX12_commit_81 : decode cX12_commit 81 = .ok (.iconst 1, 1) := by decide +kernel
theorem dX12_commit_82 : decode cX12_commit 82 = .ok (.iadd, 1) := by decide +kernel
theorem dX12_commit_83 : decode cX12_commit 83 = .ok (.putfield 32, 3) := by decide +kernel
theorem dX12_commit_86 : decode cX12_commit 86 = .ok (.iload_n 1, 1) := by decide +kernel
theorem dX12_commit_87 : decode cX12_commit 87 = .ok (.ireturn, 1) := by decide +kernel
theorem dX12_p_0 : decode cX12_p 0 = .ok (.aload_n 0, 1) := by decide +kernel
theorem dX12_p_1 : decode cX12_p 1 = .ok (.getfield 7, 3) := by decide +kernel
theorem dX12_p_4 : decode cX12_p 4 = .ok (.bipush 8, 2) := by decide +kernel
theorem dX12_p_6 : decode cX12_p 6 = .ok (.bipush 8, 2) := by decide +kernel
theorem dX12_p_8 : decode cX12_p 8 = .ok (.iload_n 1, 1) := by decide +kernel
theorem dX12_p_9 : decode cX12_p 9 = .ok (.imul, 1) := by decide +kernel
theorem dX12_p_10 : decode cX12_p 10 = .ok (.iadd, 1) := by decide +kernel
theorem dX12_p_11 : decode cX12_p 11 = .ok (.iload_n 2, 1) := by decide +kernel
theorem dX12_p_12 : decode cX12_p 12 = .ok (.iadd, 1) := by decide +kernel
theorem dX12_p_13 : decode cX12_p 13 = .ok (.iaload, 1) := by decide +kernel
theorem dX12_p_14 : decode cX12_p 14 = .ok (.ireturn, 1) := by decide +kernel
theorem dX12_policy_0 : decode cX12_policy 0 = .ok (.iconst 0, 1) := by decide +kernel
theorem dX12_policy_1 : decode cX12_policy 1 = .ok (.istore_n 2, 1) := by decide +kernel
theorem dX12_policy_2 : decode cX12_policy 2 = .ok (.iload_n 2, 1) := by decide +kernel
theorem dX12_policy_3 : decode cX12_policy 3 = .ok (.aload_n 0, 1) := by decide +kernel
theorem dX12_policy_4 : decode cX12_policy 4 = .ok (.getfield 7, 3) := by decide +kernel
theorem dX12_policy_7 : decode cX12_policy 7 = .ok (.iconst 0, 1) := by decide +kernel
theorem dX12_policy_8 : decode cX12_policy 8 = .ok (.iaload, 1) := by decide +kernel
theorem dX12_policy_9 : decode cX12_policy 9 = .ok (.if_icmp .ge 21, 3) := by decide +kernel
theorem dX12_policy_12 : decode cX12_policy 12 = .ok (.aload_n 0, 1) := by decide +kernel
theorem dX12_policy_13 : decode cX12_policy 13 = .ok (.iload_n 2, 1) := by decide +kernel
theorem dX12_policy_14 : decode cX12_policy 14 = .ok (.iconst 0, 1) := by decide +kernel
theorem dX12_policy_15 : decode cX12_policy 15 = .ok (.invokevirtual 79, 3) := by decide +kernel
theorem dX12_policy_18 : decode cX12_policy 18 = .ok (.iload_n 1, 1) := by decide +kernel
theorem dX12_policy_19 : decode cX12_policy 19 = .ok (.if_icmp .ne 5, 3) := by decide +kernel
theorem dX12_policy_22 : decode cX12_policy 22 = .ok (.iload_n 2, 1) := by decide +kernel
theorem dX12_policy_23 : decode cX12_policy 23 = .ok (.ireturn, 1) := by decide +kernel
theorem dX12_policy_24 : decode cX12_policy 24 = .ok (.iinc 2 1, 3) := by decide +kernel
theorem dX12_policy_27 : decode cX12_policy 27 = .ok (.goto (-25), 3) := by decide +kernel
theorem dX12_policy_30 : decode cX12_policy 30 = .ok (.iconst (-1), 1) := by decide +kernel
theorem dX12_policy_31 : decode cX12_policy 31 = .ok (.ireturn, 1) := by decide +kernel
theorem dX12_isActiveAt_0 : decode cX12_isActiveAt 0 = .ok (.aload_n 0, 1) := by decide +kernel
theorem dX12_isActiveAt_1 : decode cX12_isActiveAt 1 = .ok (.getfield 7, 3) := by decide +kernel
theorem dX12_isActiveAt_4 : decode cX12_isActiveAt 4 = .ok (.bipush 6, 2) := by decide +kernel
theorem dX12_isActiveAt_6 : decode cX12_isActiveAt 6 = .ok (.iaload, 1) := by decide +kernel
theorem dX12_isActiveAt_7 : decode cX12_isActiveAt 7 = .ok (.aload_n 0, 1) := by decide +kernel
theorem dX12_isActiveAt_8 : decode cX12_isActiveAt 8 = .ok (.iload_n 1, 1) := by decide +kernel
theorem dX12_isActiveAt_9 : decode cX12_isActiveAt 9 = .ok (.iconst 4, 1) := by decide +kernel
theorem dX12_isActiveAt_10 : decode cX12_isActiveAt 10 = .ok (.invokevirtual 79, 3) := by decide +kernel
theorem dX12_isActiveAt_13 : decode cX12_isActiveAt 13 = .ok (.if_icmp .ge 7, 3) := by decide +kernel
theorem dX12_isActiveAt_16 : decode cX12_isActiveAt 16 = .ok (.iconst 1, 1) := by decide +kernel
theorem dX12_isActiveAt_17 : decode cX12_isActiveAt 17 = .ok (.goto 4, 3) := by decide +kernel
theorem dX12_isActiveAt_20 : decode cX12_isActiveAt 20 = .ok (.iconst 0, 1) := by decide +kernel
theorem dX12_isActiveAt_21 : decode cX12_isActiveAt 21 = .ok (.ireturn, 1) := by decide +kernel
theorem dX12_cannotInsure_0 : decode cX12_cannotInsure 0 = .ok (.iload_n 1, 1) := by decide +kernel
theorem dX12_cannotInsure_1 : decode cX12_cannotInsure 1 = .ok (.iconst 1, 1) := by decide +kernel
theorem dX12_cannotInsure_2 : decode cX12_cannotInsure 2 = .ok (.bipush 30, 2) := by decide +kernel
theorem dX12_cannotInsure_4 : decode cX12_cannotInsure 4 = .ok (.invokestatic 83, 3) := by decide +kernel
theorem dX12_cannotInsure_7 : decode cX12_cannotInsure 7 = .ok (.ifCond .eq 23, 3) := by decide +kernel
theorem dX12_cannotInsure_10 : decode cX12_cannotInsure 10 = .ok (.iload_n 2, 1) := by decide +kernel
theorem dX12_cannotInsure_11 : decode cX12_cannotInsure 11 = .ok (.iconst 0, 1) := by decide +kernel
theorem dX12_cannotInsure_12 : decode cX12_cannotInsure 12 = .ok (.bipush 8, 2) := by decide +kernel
theorem dX12_cannotInsure_14 : decode cX12_cannotInsure 14 = .ok (.invokestatic 83, 3) := by decide +kernel
theorem dX12_cannotInsure_17 : decode cX12_cannotInsure 17 = .ok (.ifCond .eq 13, 3) := by decide +kernel
theorem dX12_cannotInsure_20 : decode cX12_cannotInsure 20 = .ok (.iload_n 3, 1) := by decide +kernel
theorem dX12_cannotInsure_21 : decode cX12_cannotInsure 21 = .ok (.iconst 1, 1) := by decide +kernel
theorem dX12_cannotInsure_22 : decode cX12_cannotInsure 22 = .ok (.bipush 60, 2) := by decide +kernel
theorem dX12_cannotInsure_24 : decode cX12_cannotInsure 24 = .ok (.invokestatic 83, 3) := by decide +kernel
theorem dX12_cannotInsure_27 : decode cX12_cannotInsure 27 = .ok (.ifCond .ne 5, 3) := by decide +kernel
theorem dX12_cannotInsure_30 : decode cX12_cannotInsure 30 = .ok (.iconst 1, 1) := by decide +kernel
theorem dX12_cannotInsure_31 : decode cX12_cannotInsure 31 = .ok (.ireturn, 1) := by decide +kernel
theorem dX12_cannotInsure_32 : decode cX12_cannotInsure 32 = .ok (.aload_n 0, 1) := by decide +kernel
theorem dX12_cannotInsure_33 : decode cX12_cannotInsure 33 = .ok (.getfield 7, 3) := by decide +kernel
theorem dX12_cannotInsure_36 : decode cX12_cannotInsure 36 = .ok (.iconst 0, 1) := by decide +kernel
theorem dX12_cannotInsure_37 : decode cX12_cannotInsure 37 = .ok (.iaload, 1) := by decide +kernel
theorem dX12_cannotInsure_38 : decode cX12_cannotInsure 38 = .ok (.bipush 8, 2) := by decide +kernel
theorem dX12_cannotInsure_40 : decode cX12_cannotInsure 40 = .ok (.if_icmp .ne 7, 3) := by decide +kernel
theorem dX12_cannotInsure_43 : decode cX12_cannotInsure 43 = .ok (.iconst 2, 1) := by decide +kernel
theorem dX12_cannotInsure_44 : decode cX12_cannotInsure 44 = .ok (.goto 4, 3) := by decide +kernel
theorem dX12_cannotInsure_47 : decode cX12_cannotInsure 47 = .ok (.iconst 0, 1) := by decide +kernel
theorem dX12_cannotInsure_48 : decode cX12_cannotInsure 48 = .ok (.ireturn, 1) := by decide +kernel
theorem dX12_insures_0 : decode cX12_insures 0 = .ok (.bipush 8, 2) := by decide +kernel
theorem dX12_insures_2 : decode cX12_insures 2 = .ok (.bipush 8, 2) := by decide +kernel
theorem dX12_insures_4 : decode cX12_insures 4 = .ok (.aload_n 0, 1) := by decide +kernel
theorem dX12_insures_5 : decode cX12_insures 5 = .ok (.getfield 7, 3) := by decide +kernel
theorem dX12_insures_8 : decode cX12_insures 8 = .ok (.iconst 0, 1) := by decide +kernel
theorem dX12_insures_9 : decode cX12_insures 9 = .ok (.iaload, 1) := by decide +kernel
theorem dX12_insures_10 : decode cX12_insures 10 = .ok (.imul, 1) := by decide +kernel
theorem dX12_insures_11 : decode cX12_insures 11 = .ok (.iadd, 1) := by decide +kernel
theorem dX12_insures_12 : decode cX12_insures 12 = .ok (.istore 4, 2) := by decide +kernel
theorem dX12_insures_14 : decode cX12_insures 14 = .ok (.iload_n 1, 1) := by decide +kernel
theorem dX12_insures_15 : decode cX12_insures 15 = .ok (.iload_n 2, 1) := by decide +kernel
theorem dX12_insures_16 : decode cX12_insures 16 = .ok (.imul, 1) := by decide +kernel
theorem dX12_insures_17 : decode cX12_insures 17 = .ok (.iload_n 3, 1) := by decide +kernel
theorem dX12_insures_18 : decode cX12_insures 18 = .ok (.imul, 1) := by decide +kernel
theorem dX12_insures_19 : decode cX12_insures 19 = .ok (.bipush 79, 2) := by decide +kernel
theorem dX12_insures_21 : decode cX12_insures 21 = .ok (.iadd, 1) := by decide +kernel
theorem dX12_insures_22 : decode cX12_insures 22 = .ok (.bipush 80, 2) := by decide +kernel
theorem dX12_insures_24 : decode cX12_insures 24 = .ok (.idiv, 1) := by decide +kernel
theorem dX12_insures_25 : decode cX12_insures 25 = .ok (.istore 5, 2) := by decide +kernel
theorem dX12_insures_27 : decode cX12_insures 27 = .ok (.aload_n 0, 1) := by decide +kernel
theorem dX12_insures_28 : decode cX12_insures 28 = .ok (.getfield 7, 3) := by decide +kernel
theorem dX12_insures_31 : decode cX12_insures 31 = .ok (.iload 4, 2) := by decide +kernel
theorem dX12_insures_33 : decode cX12_insures 33 = .ok (.iconst 0, 1) := by decide +kernel
theorem dX12_insures_34 : decode cX12_insures 34 = .ok (.iadd, 1) := by decide +kernel
theorem dX12_insures_35 : decode cX12_insures 35 = .ok (.aload_n 0, 1) := by decide +kernel
theorem dX12_insures_36 : decode cX12_insures 36 = .ok (.getfield 7, 3) := by decide +kernel
theorem dX12_insures_39 : decode cX12_insures 39 = .ok (.iconst 4, 1) := by decide +kernel
theorem dX12_insures_40 : decode cX12_insures 40 = .ok (.iaload, 1) := by decide +kernel
theorem dX12_insures_41 : decode cX12_insures 41 = .ok (.iastore, 1) := by decide +kernel
theorem dX12_insures_42 : decode cX12_insures 42 = .ok (.aload_n 0, 1) := by decide +kernel
theorem dX12_insures_43 : decode cX12_insures 43 = .ok (.getfield 7, 3) := by decide +kernel
theorem dX12_insures_46 : decode cX12_insures 46 = .ok (.iload 4, 2) := by decide +kernel
theorem dX12_insures_48 : decode cX12_insures 48 = .ok (.iconst 1, 1) := by decide +kernel
theorem dX12_insures_49 : decode cX12_insures 49 = .ok (.iadd, 1) := by decide +kernel
theorem dX12_insures_50 : decode cX12_insures 50 = .ok (.iload_n 1, 1) := by decide +kernel
theorem dX12_insures_51 : decode cX12_insures 51 = .ok (.iastore, 1) := by decide +kernel
theorem dX12_insures_52 : decode cX12_insures 52 = .ok (.aload_n 0, 1) := by decide +kernel
theorem dX12_insures_53 : decode cX12_insures 53 = .ok (.getfield 7, 3) := by decide +kernel
theorem dX12_insures_56 : decode cX12_insures 56 = .ok (.iload 4, 2) := by decide +kernel
theorem dX12_insures_58 : decode cX12_insures 58 = .ok (.iconst 2, 1) := by decide +kernel
theorem dX12_insures_59 : decode cX12_insures 59 = .ok (.iadd, 1) := by decide +kernel
theorem dX12_insures_60 : decode cX12_insures 60 = .ok (.iload_n 2, 1) := by decide +kernel
theorem dX12_insures_61 : decode cX12_insures 61 = .ok (.iastore, 1) := by decide +kernel
theorem dX12_insures_62 : decode cX12_insures 62 = .ok (.aload_n 0, 1) := by decide +kernel
theorem dX12_insures_63 : decode cX12_insures 63 = .ok (.getfield 7, 3) := by decide +kernel
theorem dX12_insures_66 : decode cX12_insures 66 = .ok (.iload 4, 2) := by decide +kernel
theorem dX12_insures_68 : decode cX12_insures 68 = .ok (.iconst 3, 1) := by decide +kernel
theorem dX12_insures_69 : decode cX12_insures 69 = .ok (.iadd, 1) := by decide +kernel
theorem dX12_insures_70 : decode cX12_insures 70 = .ok (.iload_n 3, 1) := by decide +kernel
theorem dX12_insures_71 : decode cX12_insures 71 = .ok (.iastore, 1) := by decide +kernel
theorem dX12_insures_72 : decode cX12_insures 72 = .ok (.aload_n 0, 1) := by decide +kernel
theorem dX12_insures_73 : decode cX12_insures 73 = .ok (.getfield 7, 3) := by decide +kernel
theorem dX12_insures_76 : decode cX12_insures 76 = .ok (.iload 4, 2) := by decide +kernel
theorem dX12_insures_78 : decode cX12_insures 78 = .ok (.iconst 4, 1) := by decide +kernel
theorem dX12_insures_79 : decode cX12_insures 79 = .ok (.iadd, 1) := by decide +kernel
theorem dX12_insures_80 : decode cX12_insures 80 = .ok (.aload_n 0, 1) := by decide +kernel
theorem dX12_insures_81 : decode cX12_insures 81 = .ok (.getfield 7, 3) := by decide +kernel
theorem dX12_insures_84 : decode cX12_insures 84 = .ok (.bipush 6, 2) := by decide +kernel
theorem dX12_insures_86 : decode cX12_insures 86 = .ok (.iaload, 1) := by decide +kernel
theorem dX12_insures_87 : decode cX12_insures 87 = .ok (.iload_n 3, 1) := by decide +kernel
theorem dX12_insures_88 : decode cX12_insures 88 = .ok (.iadd, 1) := by decide +kernel
theorem dX12_insures_89 : decode cX12_insures 89 = .ok (.iastore, 1) := by decide +kernel
theorem dX12_insures_90 : decode cX12_insures 90 = .ok (.aload_n 0, 1) := by decide +kernel
theorem dX12_insures_91 : decode cX12_insures 91 = .ok (.getfield 7, 3) := by decide +kernel
theorem dX12_insures_94 : decode cX12_insures 94 = .ok (.iload 4, 2) := by decide +kernel
theorem dX12_insures_96 : decode cX12_insures 96 = .ok (.iconst 5, 1) := by decide +kernel
theorem dX12_insures_97 : decode cX12_insures 97 = .ok (.iadd, 1) := by decide +kernel
theorem dX12_insures_98 : decode cX12_insures 98 = .ok (.iload 5, 2) := by decide +kernel
theorem dX12_insures_100 : decode cX12_insures 100 = .ok (.iconst 1, 1) := by decide +kernel
theorem dX12_insures_101 : decode cX12_insures 101 = .ok (.if_icmp .ge 7, 3) := by decide +kernel
theorem dX12_insures_104 : decode cX12_insures 104 = .ok (.iconst 1, 1) := by decide +kernel
theorem dX12_insures_105 : decode cX12_insures 105 = .ok (.goto 5, 3) := by decide +kernel
theorem dX12_insures_108 : decode cX12_insures 108 = .ok (.iload 5, 2) := by decide +kernel
theorem dX12_insures_110 : decode cX12_insures 110 = .ok (.iastore, 1) := by decide +kernel
theorem dX12_insures_111 : decode cX12_insures 111 = .ok (.aload_n 0, 1) := by decide +kernel
theorem dX12_insures_112 : decode cX12_insures 112 = .ok (.getfield 7, 3) := by decide +kernel
theorem dX12_insures_115 : decode cX12_insures 115 = .ok (.iload 4, 2) := by decide +kernel
theorem dX12_insures_117 : decode cX12_insures 117 = .ok (.bipush 6, 2) := by decide +kernel
theorem dX12_insures_119 : decode cX12_insures 119 = .ok (.iadd, 1) := by decide +kernel
theorem dX12_insures_120 : decode cX12_insures 120 = .ok (.iconst 0, 1) := by decide +kernel
theorem dX12_insures_121 : decode cX12_insures 121 = .ok (.iastore, 1) := by decide +kernel
theorem dX12_insures_122 : decode cX12_insures 122 = .ok (.aload_n 0, 1) := by decide +kernel
theorem dX12_insures_123 : decode cX12_insures 123 = .ok (.getfield 7, 3) := by decide +kernel
theorem dX12_insures_126 : decode cX12_insures 126 = .ok (.bipush 7, 2) := by decide +kernel
theorem dX12_insures_128 : decode cX12_insures 128 = .ok (.dup2, 1) := by decide +kernel
theorem dX12_insures_129 : decode cX12_insures 129 = .ok (.iaload, 1) := by decide +kernel
theorem dX12_insures_130 : decode cX12_insures 130 = .ok (.aload_n 0, 1) := by decide +kernel
theorem dX12_insures_131 : decode cX12_insures 131 = .ok (.getfield 7, 3) := by decide +kernel
theorem dX12_insures_134 : decode cX12_insures 134 = .ok (.iload 4, 2) := by decide +kernel
theorem dX12_insures_136 : decode cX12_insures 136 = .ok (.iconst 5, 1) := by decide +kernel
theorem dX12_insures_137 : decode cX12_insures 137 = .ok (.iadd, 1) := by decide +kernel
theorem dX12_insures_138 : decode cX12_insures 138 = .ok (.iaload, 1) := by decide +kernel
theorem dX12_insures_139 : decode cX12_insures 139 = .ok (.iadd, 1) := by decide +kernel
theorem dX12_insures_140 : decode cX12_insures 140 = .ok (.iastore, 1) := by decide +kernel
theorem dX12_insures_141 : decode cX12_insures 141 = .ok (.aload_n 0, 1) := by decide +kernel
theorem dX12_insures_142 : decode cX12_insures 142 = .ok (.getfield 7, 3) := by decide +kernel
theorem dX12_insures_145 : decode cX12_insures 145 = .ok (.iconst 0, 1) := by decide +kernel
theorem dX12_insures_146 : decode cX12_insures 146 = .ok (.dup2, 1) := by decide +kernel
theorem dX12_insures_147 : decode cX12_insures 147 = .ok (.iaload, 1) := by decide +kernel
theorem dX12_insures_148 : decode cX12_insures 148 = .ok (.iconst 1, 1) := by decide +kernel
theorem dX12_insures_149 : decode cX12_insures 149 = .ok (.iadd, 1) := by decide +kernel
theorem dX12_insures_150 : decode cX12_insures 150 = .ok (.iastore, 1) := by decide +kernel
theorem dX12_insures_151 : decode cX12_insures 151 = .ok (.aload_n 0, 1) := by decide +kernel
theorem dX12_insures_152 : decode cX12_insures 152 = .ok (.getfield 7, 3) := by decide +kernel
theorem dX12_insures_155 : decode cX12_insures 155 = .ok (.iconst 4, 1) := by decide +kernel
theorem dX12_insures_156 : decode cX12_insures 156 = .ok (.dup2, 1) := by decide +kernel
theorem dX12_insures_157 : decode cX12_insures 157 = .ok (.iaload, 1) := by decide +kernel
theorem dX12_insures_158 : decode cX12_insures 158 = .ok (.iconst 1, 1) := by decide +kernel
theorem dX12_insures_159 : decode cX12_insures 159 = .ok (.iadd, 1) := by decide +kernel
theorem dX12_insures_160 : decode cX12_insures 160 = .ok (.iastore, 1) := by decide +kernel
theorem dX12_insures_161 : decode cX12_insures 161 = .ok (.aload_n 0, 1) := by decide +kernel
theorem dX12_insures_162 : decode cX12_insures 162 = .ok (.getfield 7, 3) := by decide +kernel
theorem dX12_insures_165 : decode cX12_insures 165 = .ok (.iconst 4, 1) := by decide +kernel
theorem dX12_insures_166 : decode cX12_insures 166 = .ok (.iaload, 1) := by decide +kernel
theorem dX12_insures_167 : decode cX12_insures 167 = .ok (.iconst 1, 1) := by decide +kernel
theorem dX12_insures_168 : decode cX12_insures 168 = .ok (.isub, 1) := by decide +kernel
theorem dX12_insures_169 : decode cX12_insures 169 = .ok (.ireturn, 1) := by decide +kernel
theorem dX12_insure_0 : decode cX12_insure 0 = .ok (.aload_n 0, 1) := by decide +kernel
theorem dX12_insure_1 : decode cX12_insure 1 = .ok (.invokevirtual 87, 3) := by decide +kernel
theorem dX12_insure_4 : decode cX12_insure 4 = .ok (.aload_n 0, 1) := by decide +kernel
theorem dX12_insure_5 : decode cX12_insure 5 = .ok (.iload_n 1, 1) := by decide +kernel
theorem dX12_insure_6 : decode cX12_insure 6 = .ok (.iload_n 2, 1) := by decide +kernel
theorem dX12_insure_7 : decode cX12_insure 7 = .ok (.iload_n 3, 1) := by decide +kernel
theorem dX12_insure_8 : decode cX12_insure 8 = .ok (.invokevirtual 90, 3) := by decide +kernel
theorem dX12_insure_11 : decode cX12_insure 11 = .ok (.istore 4, 2) := by decide +kernel
theorem dX12_insure_13 : decode cX12_insure 13 = .ok (.iload 4, 2) := by decide +kernel
theorem dX12_insure_15 : decode cX12_insure 15 = .ok (.ifCond .le 12, 3) := by decide +kernel
theorem dX12_insure_18 : decode cX12_insure 18 = .ok (.aload_n 0, 1) := by decide +kernel
theorem dX12_insure_19 : decode cX12_insure 19 = .ok (.iload 4, 2) := by decide +kernel
theorem dX12_insure_21 : decode cX12_insure 21 = .ok (.invokevirtual 94, 3) := by decide +kernel
theorem dX12_insure_24 : decode cX12_insure 24 = .ok (.goto 14, 3) := by decide +kernel
theorem dX12_insure_27 : decode cX12_insure 27 = .ok (.aload_n 0, 1) := by decide +kernel
theorem dX12_insure_28 : decode cX12_insure 28 = .ok (.aload_n 0, 1) := by decide +kernel
theorem dX12_insure_29 : decode cX12_insure 29 = .ok (.iload_n 1, 1) := by decide +kernel
theorem dX12_insure_30 : decode cX12_insure 30 = .ok (.iload_n 2, 1) := by decide +kernel
theorem dX12_insure_31 : decode cX12_insure 31 = .ok (.iload_n 3, 1) := by decide +kernel
theorem dX12_insure_32 : decode cX12_insure 32 = .ok (.invokevirtual 98, 3) := by decide +kernel
theorem dX12_insure_35 : decode cX12_insure 35 = .ok (.invokevirtual 101, 3) := by decide +kernel
theorem dX12_insure_38 : decode cX12_insure 38 = .ok (.ireturn, 1) := by decide +kernel
theorem dX12_hasClaim_0 : decode cX12_hasClaim 0 = .ok (.iconst 0, 1) := by decide +kernel
theorem dX12_hasClaim_1 : decode cX12_hasClaim 1 = .ok (.istore_n 2, 1) := by decide +kernel
theorem dX12_hasClaim_2 : decode cX12_hasClaim 2 = .ok (.iload_n 2, 1) := by decide +kernel
theorem dX12_hasClaim_3 : decode cX12_hasClaim 3 = .ok (.aload_n 0, 1) := by decide +kernel
theorem dX12_hasClaim_4 : decode cX12_hasClaim 4 = .ok (.getfield 7, 3) := by decide +kernel
theorem dX12_hasClaim_7 : decode cX12_hasClaim 7 = .ok (.iconst 1, 1) := by decide +kernel
theorem dX12_hasClaim_8 : decode cX12_hasClaim 8 = .ok (.iaload, 1) := by decide +kernel
theorem dX12_hasClaim_9 : decode cX12_hasClaim 9 = .ok (.if_icmp .ge 21, 3) := by decide +kernel
theorem dX12_hasClaim_12 : decode cX12_hasClaim 12 = .ok (.aload_n 0, 1) := by decide +kernel
theorem dX12_hasClaim_13 : decode cX12_hasClaim 13 = .ok (.iload_n 2, 1) := by decide +kernel
theorem dX12_hasClaim_14 : decode cX12_hasClaim 14 = .ok (.iconst 1, 1) := by decide +kernel
theorem dX12_hasClaim_15 : decode cX12_hasClaim 15 = .ok (.invokevirtual 104, 3) := by decide +kernel
theorem dX12_hasClaim_18 : decode cX12_hasClaim 18 = .ok (.iload_n 1, 1) := by decide +kernel
theorem dX12_hasClaim_19 : decode cX12_hasClaim 19 = .ok (.if_icmp .ne 5, 3) := by decide +kernel
theorem dX12_hasClaim_22 : decode cX12_hasClaim 22 = .ok (.iconst 1, 1) := by decide +kernel
theorem dX12_hasClaim_23 : decode cX12_hasClaim 23 = .ok (.ireturn, 1) := by decide +kernel
theorem dX12_hasClaim_24 : decode cX12_hasClaim 24 = .ok (.iinc 2 1, 3) := by decide +kernel
theorem dX12_hasClaim_27 : decode cX12_hasClaim 27 = .ok (.goto (-25), 3) := by decide +kernel
theorem dX12_hasClaim_30 : decode cX12_hasClaim 30 = .ok (.iconst 0, 1) := by decide +kernel
theorem dX12_hasClaim_31 : decode cX12_hasClaim 31 = .ok (.ireturn, 1) := by decide +kernel
theorem dX12_cannotEnd_0 : decode cX12_cannotEnd 0 = .ok (.aload_n 0, 1) := by decide +kernel
theorem dX12_cannotEnd_1 : decode cX12_cannotEnd 1 = .ok (.iload_n 1, 1) := by decide +kernel
theorem dX12_cannotEnd_2 : decode cX12_cannotEnd 2 = .ok (.invokevirtual 107, 3) := by decide +kernel
theorem dX12_cannotEnd_5 : decode cX12_cannotEnd 5 = .ok (.ifCond .ge 7, 3) := by decide +kernel
theorem dX12_cannotEnd_8 : decode cX12_cannotEnd 8 = .ok (.iconst 1, 1) := by decide +kernel
theorem dX12_cannotEnd_9 : decode cX12_cannotEnd 9 = .ok (.goto 16, 3) := by decide +kernel
theorem dX12_cannotEnd_12 : decode cX12_cannotEnd 12 = .ok (.aload_n 0, 1) := by decide +kernel
theorem dX12_cannotEnd_13 : decode cX12_cannotEnd 13 = .ok (.iload_n 1, 1) := by decide +kernel
theorem dX12_cannotEnd_14 : decode cX12_cannotEnd 14 = .ok (.invokevirtual 110, 3) := by decide +kernel
theorem dX12_cannotEnd_17 : decode cX12_cannotEnd 17 = .ok (.ifCond .eq 7, 3) := by decide +kernel
theorem dX12_cannotEnd_20 : decode cX12_cannotEnd 20 = .ok (.iconst 2, 1) := by decide +kernel
theorem dX12_cannotEnd_21 : decode cX12_cannotEnd 21 = .ok (.goto 4, 3) := by decide +kernel
theorem dX12_cannotEnd_24 : decode cX12_cannotEnd 24 = .ok (.iconst 0, 1) := by decide +kernel
theorem dX12_cannotEnd_25 : decode cX12_cannotEnd 25 = .ok (.ireturn, 1) := by decide +kernel
theorem dX12_removeRow_0 : decode cX12_removeRow 0 = .ok (.iload_n 1, 1) := by decide +kernel
theorem dX12_removeRow_1 : decode cX12_removeRow 1 = .ok (.iload_n 2, 1) := by decide +kernel
theorem dX12_removeRow_2 : decode cX12_removeRow 2 = .ok (.iload_n 3, 1) := by decide +kernel
theorem dX12_removeRow_3 : decode cX12_removeRow 3 = .ok (.imul, 1) := by decide +kernel
theorem dX12_removeRow_4 : decode cX12_removeRow 4 = .ok (.iadd, 1) := by decide +kernel
theorem dX12_removeRow_5 : decode cX12_removeRow 5 = .ok (.istore 5, 2) := by decide +kernel
theorem dX12_removeRow_7 : decode cX12_removeRow 7 = .ok (.iload 5, 2) := by decide +kernel
theorem dX12_removeRow_9 : decode cX12_removeRow 9 = .ok (.iload_n 1, 1) := by decide +kernel
theorem dX12_removeRow_10 : decode cX12_removeRow 10 = .ok (.iload_n 2, 1) := by decide +kernel
theorem dX12_removeRow_11 : decode cX12_removeRow 11 = .ok (.iload 4, 2) := by decide +kernel
theorem dX12_removeRow_13 : decode cX12_removeRow 13 = .ok (.imul, 1) := by decide +kernel
theorem dX12_removeRow_14 : decode cX12_removeRow 14 = .ok (.iadd, 1) := by decide +kernel
theorem dX12_removeRow_15 : decode cX12_removeRow 15 = .ok (.if_icmp .ge 25, 3) := by decide +kernel
theorem dX12_removeRow_18 : decode cX12_removeRow 18 = .ok (.aload_n 0, 1) := by decide +kernel
theorem dX12_removeRow_19 : decode cX12_removeRow 19 = .ok (.getfield 7, 3) := by decide +kernel
theorem dX12_removeRow_22 : decode cX12_removeRow 22 = .ok (.iload 5, 2) := by decide +kernel
theorem dX12_removeRow_24 : decode cX12_removeRow 24 = .ok (.aload_n 0, 1) := by decide +kernel
theorem dX12_removeRow_25 : decode cX12_removeRow 25 = .ok (.getfield 7, 3) := by decide +kernel
theorem dX12_removeRow_28 : decode cX12_removeRow 28 = .ok (.iload 5, 2) := by decide +kernel
theorem dX12_removeRow_30 : decode cX12_removeRow 30 = .ok (.iload_n 2, 1) := by decide +kernel
theorem dX12_removeRow_31 : decode cX12_removeRow 31 = .ok (.iadd, 1) := by decide +kernel
theorem dX12_removeRow_32 : decode cX12_removeRow 32 = .ok (.iaload, 1) := by decide +kernel
theorem dX12_removeRow_33 : decode cX12_removeRow 33 = .ok (.iastore, 1) := by decide +kernel
theorem dX12_removeRow_34 : decode cX12_removeRow 34 = .ok (.iinc 5 1, 3) := by decide +kernel
theorem dX12_removeRow_37 : decode cX12_removeRow 37 = .ok (.goto (-30), 3) := by decide +kernel
theorem dX12_removeRow_40 : decode cX12_removeRow 40 = .ok (.iconst 0, 1) := by decide +kernel
theorem dX12_removeRow_41 : decode cX12_removeRow 41 = .ok (.istore 5, 2) := by decide +kernel
theorem dX12_removeRow_43 : decode cX12_removeRow 43 = .ok (.iload 5, 2) := by decide +kernel
theorem dX12_removeRow_45 : decode cX12_removeRow 45 = .ok (.iload_n 2, 1) := by decide +kernel
theorem dX12_removeRow_46 : decode cX12_removeRow 46 = .ok (.if_icmp .ge 24, 3) := by decide +kernel
theorem dX12_removeRow_49 : decode cX12_removeRow 49 = .ok (.aload_n 0, 1) := by decide +kernel
theorem dX12_removeRow_50 : decode cX12_removeRow 50 = .ok (.getfield 7, 3) := by decide +kernel
theorem dX12_removeRow_53 : decode cX12_removeRow 53 = .ok (.iload_n 1, 1) := by decide +kernel
theorem dX12_removeRow_54 : decode cX12_removeRow 54 = .ok (.iload_n 2, 1) := by decide +kernel
theorem dX12_removeRow_55 : decode cX12_removeRow 55 = .ok (.iload 4, 2) := by decide +kernel
theorem dX12_removeRow_57 : decode cX12_removeRow 57 = .ok (.imul, 1) := by decide +kernel
theorem dX12_removeRow_58 : decode cX12_removeRow 58 = .ok (.iadd, 1) := by decide +kernel
theorem dX12_removeRow_59 : decode cX12_removeRow 59 = .ok (.iload 5, 2) := by decide +kernel
theorem dX12_removeRow_61 : decode cX12_removeRow 61 = .ok (.iadd, 1) := by decide +kernel
theorem dX12_removeRow_62 : decode cX12_removeRow 62 = .ok (.iconst 0, 1) := by decide +kernel
theorem dX12_removeRow_63 : decode cX12_removeRow 63 = .ok (.iastore, 1) := by decide +kernel
theorem dX12_removeRow_64 : decode cX12_removeRow 64 = .ok (.iinc 5 1, 3) := by decide +kernel
theorem dX12_removeRow_67 : decode cX12_removeRow 67 = .ok (.goto (-24), 3) := by decide +kernel
theorem dX12_removeRow_70 : decode cX12_removeRow 70 = .ok (.return_, 1) := by decide +kernel
theorem dX12_ends_0 : decode cX12_ends 0 = .ok (.aload_n 0, 1) := by decide +kernel
theorem dX12_ends_1 : decode cX12_ends 1 = .ok (.iload_n 1, 1) := by decide +kernel
theorem dX12_ends_2 : decode cX12_ends 2 = .ok (.invokevirtual 107, 3) := by decide +kernel
theorem dX12_ends_5 : decode cX12_ends 5 = .ok (.istore_n 2, 1) := by decide +kernel
theorem dX12_ends_6 : decode cX12_ends 6 = .ok (.aload_n 0, 1) := by decide +kernel
theorem dX12_ends_7 : decode cX12_ends 7 = .ok (.iload_n 2, 1) := by decide +kernel
theorem dX12_ends_8 : decode cX12_ends 8 = .ok (.invokevirtual 114, 3) := by decide +kernel
theorem dX12_ends_11 : decode cX12_ends 11 = .ok (.ifCond .eq 34, 3) := by decide +kernel
theorem dX12_ends_14 : decode cX12_ends 14 = .ok (.aload_n 0, 1) := by decide +kernel
theorem dX12_ends_15 : decode cX12_ends 15 = .ok (.iload_n 2, 1) := by decide +kernel
theorem dX12_ends_16 : decode cX12_ends 16 = .ok (.iconst 5, 1) := by decide +kernel
theorem dX12_ends_17 : decode cX12_ends 17 = .ok (.invokevirtual 79, 3) := by decide +kernel
theorem dX12_ends_20 : decode cX12_ends 20 = .ok (.aload_n 0, 1) := by decide +kernel
theorem dX12_ends_21 : decode cX12_ends 21 = .ok (.iload_n 2, 1) := by decide +kernel
theorem dX12_ends_22 : decode cX12_ends 22 = .ok (.iconst 4, 1) := by decide +kernel
theorem dX12_ends_23 : decode cX12_ends 23 = .ok (.invokevirtual 79, 3) := by decide +kernel
theorem dX12_ends_26 : decode cX12_ends 26 = .ok (.aload_n 0, 1) := by decide +kernel
theorem dX12_ends_27 : decode cX12_ends 27 = .ok (.getfield 7, 3) := by decide +kernel
theorem dX12_ends_30 : decode cX12_ends 30 = .ok (.bipush 6, 2) := by decide +kernel
theorem dX12_ends_32 : decode cX12_ends 32 = .ok (.iaload, 1) := by decide +kernel
theorem dX12_ends_33 : decode cX12_ends 33 = .ok (.isub, 1) := by decide +kernel
theorem dX12_ends_34 : decode cX12_ends 34 = .ok (.imul, 1) := by decide +kernel
theorem dX12_ends_35 : decode cX12_ends 35 = .ok (.aload_n 0, 1) := by decide +kernel
theorem dX12_ends_36 : decode cX12_ends 36 = .ok (.iload_n 2, 1) := by decide +kernel
theorem dX12_ends_37 : decode cX12_ends 37 = .ok (.iconst 3, 1) := by decide +kernel
theorem dX12_ends_38 : decode cX12_ends 38 = .ok (.invokevirtual 79, 3) := by decide +kernel
theorem dX12_ends_41 : decode cX12_ends 41 = .ok (.idiv, 1) := by decide +kernel
theorem dX12_ends_42 : decode cX12_ends 42 = .ok (.goto 4, 3) := by decide +kernel
theorem dX12_ends_45 : decode cX12_ends 45 = .ok (.iconst 0, 1) := by decide +kernel
theorem dX12_ends_46 : decode cX12_ends 46 = .ok (.istore_n 3, 1) := by decide +kernel
theorem dX12_ends_47 : decode cX12_ends 47 = .ok (.aload_n 0, 1) := by decide +kernel
theorem dX12_ends_48 : decode cX12_ends 48 = .ok (.getfield 7, 3) := by decide +kernel
theorem dX12_ends_51 : decode cX12_ends 51 = .ok (.bipush 7, 2) := by decide +kernel
theorem dX12_ends_53 : decode cX12_ends 53 = .ok (.dup2, 1) := by decide +kernel
theorem dX12_ends_54 : decode cX12_ends 54 = .ok (.iaload, 1) := by decide +kernel
theorem dX12_ends_55 : decode cX12_ends 55 = .ok (.iload_n 3, 1) := by decide +kernel
theorem dX12_ends_56 : decode cX12_ends 56 = .ok (.isub, 1) := by decide +kernel
theorem dX12_ends_57 : decode cX12_ends 57 = .ok (.iastore, 1) := by decide +kernel
theorem dX12_ends_58 : decode cX12_ends 58 = .ok (.aload_n 0, 1) := by decide +kernel
theorem dX12_ends_59 : decode cX12_ends 59 = .ok (.getfield 7, 3) := by decide +kernel
theorem dX12_ends_62 : decode cX12_ends 62 = .ok (.iconst 0, 1) := by decide +kernel
theorem dX12_ends_63 : decode cX12_ends 63 = .ok (.dup2, 1) := by decide +kernel
theorem dX12_ends_64 : decode cX12_ends 64 = .ok (.iaload, 1) := by decide +kernel
theorem dX12_ends_65 : decode cX12_ends 65 = .ok (.iconst 1, 1) := by decide +kernel
theorem dX12_ends_66 : decode cX12_ends 66 = .ok (.isub, 1) := by decide +kernel
theorem dX12_ends_67 : decode cX12_ends 67 = .ok (.iastore, 1) := by decide +kernel
theorem dX12_ends_68 : decode cX12_ends 68 = .ok (.aload_n 0, 1) := by decide +kernel
theorem dX12_ends_69 : decode cX12_ends 69 = .ok (.bipush 8, 2) := by decide +kernel
theorem dX12_ends_71 : decode cX12_ends 71 = .ok (.bipush 8, 2) := by decide +kernel
theorem dX12_ends_73 : decode cX12_ends 73 = .ok (.iload_n 2, 1) := by decide +kernel
theorem dX12_ends_74 : decode cX12_ends 74 = .ok (.aload_n 0, 1) := by decide +kernel
theorem dX12_ends_75 : decode cX12_ends 75 = .ok (.getfield 7, 3) := by decide +kernel
theorem dX12_ends_78 : decode cX12_ends 78 = .ok (.iconst 0, 1) := by decide +kernel
theorem dX12_ends_79 : decode cX12_ends 79 = .ok (.iaload, 1) := by decide +kernel
theorem dX12_ends_80 : decode cX12_ends 80 = .ok (.invokevirtual 117, 3) := by decide +kernel
theorem dX12_ends_83 : decode cX12_ends 83 = .ok (.iload_n 3, 1) := by decide +kernel
theorem dX12_ends_84 : decode cX12_ends 84 = .ok (.ireturn, 1) := by decide +kernel
theorem dX12_endPolicy_0 : decode cX12_endPolicy 0 = .ok (.aload_n 0, 1) := by decide +kernel
theorem dX12_endPolicy_1 : decode cX12_endPolicy 1 = .ok (.invokevirtual 87, 3) := by decide +kernel
theorem dX12_endPolicy_4 : decode cX12_endPolicy 4 = .ok (.aload_n 0, 1) := by decide +kernel
theorem dX12_endPolicy_5 : decode cX12_endPolicy 5 = .ok (.iload_n 1, 1) := by decide +kernel
theorem dX12_endPolicy_6 : decode cX12_endPolicy 6 = .ok (.invokevirtual 121, 3) := by decide +kernel
theorem dX12_endPolicy_9 : decode cX12_endPolicy 9 = .ok (.istore_n 2, 1) := by decide +kernel
theorem dX12_endPolicy_10 : decode cX12_endPolicy 10 = .ok (.iload_n 2, 1) := by decide +kernel
theorem dX12_endPolicy_11 : decode cX12_endPolicy 11 = .ok (.ifCond .le 11, 3) := by decide +kernel
theorem dX12_endPolicy_14 : decode cX12_endPolicy 14 = .ok (.aload_n 0, 1) := by decide +kernel
theorem dX12_endPolicy_15 : decode cX12_endPolicy 15 = .ok (.iload_n 2, 1) := by decide +kernel
theorem dX12_endPolicy_16 : decode cX12_endPolicy 16 = .ok (.invokevirtual 94, 3) := by decide +kernel
theorem dX12_endPolicy_19 : decode cX12_endPolicy 19 = .ok (.goto 12, 3) := by decide +kernel
theorem dX12_endPolicy_22 : decode cX12_endPolicy 22 = .ok (.aload_n 0, 1) := by decide +kernel
theorem dX12_endPolicy_23 : decode cX12_endPolicy 23 = .ok (.aload_n 0, 1) := by decide +kernel
theorem dX12_endPolicy_24 : decode cX12_endPolicy 24 = .ok (.iload_n 1, 1) := by decide +kernel
theorem dX12_endPolicy_25 : decode cX12_endPolicy 25 = .ok (.invokevirtual 124, 3) := by decide +kernel
theorem dX12_endPolicy_28 : decode cX12_endPolicy 28 = .ok (.invokevirtual 101, 3) := by decide +kernel
theorem dX12_endPolicy_31 : decode cX12_endPolicy 31 = .ok (.ireturn, 1) := by decide +kernel
theorem dX12_t_0 : decode cX12_t 0 = .ok (.aload_n 0, 1) := by decide +kernel
theorem dX12_t_1 : decode cX12_t 1 = .ok (.getfield 7, 3) := by decide +kernel
theorem dX12_t_4 : decode cX12_t 4 = .ok (.sipush 216, 3) := by decide +kernel
theorem dX12_t_7 : decode cX12_t 7 = .ok (.iconst 4, 1) := by decide +kernel
theorem dX12_t_8 : decode cX12_t 8 = .ok (.iload_n 1, 1) := by decide +kernel
theorem dX12_t_9 : decode cX12_t 9 = .ok (.imul, 1) := by decide +kernel
theorem dX12_t_10 : decode cX12_t 10 = .ok (.iadd, 1) := by decide +kernel
theorem dX12_t_11 : decode cX12_t 11 = .ok (.iload_n 2, 1) := by decide +kernel
theorem dX12_t_12 : decode cX12_t 12 = .ok (.iadd, 1) := by decide +kernel
theorem dX12_t_13 : decode cX12_t 13 = .ok (.iaload, 1) := by decide +kernel
theorem dX12_t_14 : decode cX12_t 14 = .ok (.ireturn, 1) := by decide +kernel
theorem dX12_isTreaty_0 : decode cX12_isTreaty 0 = .ok (.iload_n 1, 1) := by decide +kernel
theorem dX12_isTreaty_1 : decode cX12_isTreaty 1 = .ok (.iconst 0, 1) := by decide +kernel
theorem dX12_isTreaty_2 : decode cX12_isTreaty 2 = .ok (.aload_n 0, 1) := by decide +kernel
theorem dX12_isTreaty_3 : decode cX12_isTreaty 3 = .ok (.getfield 7, 3) := by decide +kernel
theorem dX12_isTreaty_6 : decode cX12_isTreaty 6 = .ok (.iconst 2, 1) := by decide +kernel
theorem dX12_isTreaty_7 : decode cX12_isTreaty 7 = .ok (.iaload, 1) := by decide +kernel
theorem dX12_isTreaty_8 : decode cX12_isTreaty 8 = .ok (.iconst 1, 1) := by decide +kernel
theorem dX12_isTreaty_9 : decode cX12_isTreaty 9 = .ok (.isub, 1) := by decide +kernel
theorem dX12_isTreaty_10 : decode cX12_isTreaty 10 = .ok (.invokestatic 83, 3) := by decide +kernel
theorem dX12_isTreaty_13 : decode cX12_isTreaty 13 = .ok (.ireturn, 1) := by decide +kernel
theorem dX12_cannotTreat_0 : decode cX12_cannotTreat 0 = .ok (.iload_n 1, 1) := by decide +kernel
theorem dX12_cannotTreat_1 : decode cX12_cannotTreat 1 = .ok (.iconst 0, 1) := by decide +kernel
theorem dX12_cannotTreat_2 : decode cX12_cannotTreat 2 = .ok (.bipush 29, 2) := by decide +kernel
theorem dX12_cannotTreat_4 : decode cX12_cannotTreat 4 = .ok (.invokestatic 83, 3) := by decide +kernel
theorem dX12_cannotTreat_7 : decode cX12_cannotTreat 7 = .ok (.ifCond .eq 34, 3) := by decide +kernel
theorem dX12_cannotTreat_10 : decode cX12_cannotTreat 10 = .ok (.iload_n 2, 1) := by decide +kernel
theorem dX12_cannotTreat_11 : decode cX12_cannotTreat 11 = .ok (.iconst 1, 1) := by decide +kernel
theorem dX12_cannotTreat_12 : decode cX12_cannotTreat 12 = .ok (.bipush 30, 2) := by decide +kernel
theorem dX12_cannotTreat_14 : decode cX12_cannotTreat 14 = .ok (.invokestatic 83, 3) := by decide +kernel
theorem dX12_cannotTreat_17 : decode cX12_cannotTreat 17 = .ok (.ifCond .eq 24, 3) := by decide +kernel
theorem dX12_cannotTreat_20 : decode cX12_cannotTreat 20 = .ok (.iload_n 3, 1) := by decide +kernel
theorem dX12_cannotTreat_21 : decode cX12_cannotTreat 21 = .ok (.iconst 1, 1) := by decide +kernel
theorem dX12_cannotTreat_22 : decode cX12_cannotTreat 22 = .ok (.bipush 99, 2) := by decide +kernel
theorem dX12_cannotTreat_24 : decode cX12_cannotTreat 24 = .ok (.invokestatic 83, 3) := by decide +kernel
theorem dX12_cannotTreat_27 : decode cX12_cannotTreat 27 = .ok (.ifCond .eq 14, 3) := by decide +kernel
theorem dX12_cannotTreat_30 : decode cX12_cannotTreat 30 = .ok (.iload 4, 2) := by decide +kernel
theorem dX12_cannotTreat_32 : decode cX12_cannotTreat 32 = .ok (.iconst 0, 1) := by decide +kernel
theorem dX12_cannotTreat_33 : decode cX12_cannotTreat 33 = .ok (.bipush 99, 2) := by decide +kernel
theorem dX12_cannotTreat_35 : decode cX12_cannotTreat 35 = .ok (.invokestatic 83, 3) := by decide +kernel
theorem dX12_cannotTreat_38 : decode cX12_cannotTreat 38 = .ok (.ifCond .ne 5, 3) := by decide +kernel
theorem dX12_cannotTreat_41 : decode cX12_cannotTreat 41 = .ok (.iconst 1, 1) := by decide +kernel
theorem dX12_cannotTreat_42 : decode cX12_cannotTreat 42 = .ok (.ireturn, 1) := by decide +kernel
theorem dX12_cannotTreat_43 : decode cX12_cannotTreat 43 = .ok (.aload_n 0, 1) := by decide +kernel
theorem dX12_cannotTreat_44 : decode cX12_cannotTreat 44 = .ok (.getfield 7, 3) := by decide +kernel
theorem dX12_cannotTreat_47 : decode cX12_cannotTreat 47 = .ok (.iconst 2, 1) := by decide +kernel
theorem dX12_cannotTreat_48 : decode cX12_cannotTreat 48 = .ok (.iaload, 1) := by decide +kernel
theorem dX12_cannotTreat_49 : decode cX12_cannotTreat 49 = .ok (.iconst 4, 1) := by decide +kernel
theorem dX12_cannotTreat_50 : decode cX12_cannotTreat 50 = .ok (.if_icmp .ne 7, 3) := by decide +kernel
theorem dX12_cannotTreat_53 : decode cX12_cannotTreat 53 = .ok (.iconst 2, 1) := by decide +kernel
theorem dX12_cannotTreat_54 : decode cX12_cannotTreat 54 = .ok (.goto 4, 3) := by decide +kernel
theorem dX12_cannotTreat_57 : decode cX12_cannotTreat 57 = .ok (.iconst 0, 1) := by decide +kernel
theorem dX12_cannotTreat_58 : decode cX12_cannotTreat 58 = .ok (.ireturn, 1) := by decide +kernel
theorem dX12_treats_0 : decode cX12_treats 0 = .ok (.sipush 216, 3) := by decide +kernel
theorem dX12_treats_3 : decode cX12_treats 3 = .ok (.iconst 4, 1) := by decide +kernel
theorem dX12_treats_4 : decode cX12_treats 4 = .ok (.aload_n 0, 1) := by decide +kernel
theorem dX12_treats_5 : decode cX12_treats 5 = .ok (.getfield 7, 3) := by decide +kernel
theorem dX12_treats_8 : decode cX12_treats 8 = .ok (.iconst 2, 1) := by decide +kernel
theorem dX12_treats_9 : decode cX12_treats 9 = .ok (.iaload, 1) := by decide +kernel
theorem dX12_treats_10 : decode cX12_treats 10 = .ok (.imul, 1) := by decide +kernel
theorem dX12_treats_11 : decode cX12_treats 11 = .ok (.iadd, 1) := by decide +kernel
theorem dX12_treats_12 : decode cX12_treats 12 = .ok (.istore 5, 2) := by decide +kernel
theorem dX12_treats_14 : decode cX12_treats 14 = .ok (.aload_n 0, 1) := by decide +kernel
theorem dX12_treats_15 : decode cX12_treats 15 = .ok (.getfield 7, 3) := by decide +kernel
theorem dX12_treats_18 : decode cX12_treats 18 = .ok (.iload 5, 2) := by decide +kernel
theorem dX12_treats_20 : decode cX12_treats 20 = .ok (.iconst 0, 1) := by decide +kernel
theorem dX12_treats_21 : decode cX12_treats 21 = .ok (.iadd, 1) := by decide +kernel
theorem dX12_treats_22 : decode cX12_treats 22 = .ok (.iload_n 1, 1) := by decide +kernel
theorem dX12_treats_23 : decode cX12_treats 23 = .ok (.iastore, 1) := by decide +kernel
theorem dX12_treats_24 : decode cX12_treats 24 = .ok (.aload_n 0, 1) := by decide +kernel
theorem dX12_treats_25 : decode cX12_treats 25 = .ok (.getfield 7, 3) := by decide +kernel
theorem dX12_treats_28 : decode cX12_treats 28 = .ok (.iload 5, 2) := by decide +kernel
theorem dX12_treats_30 : decode cX12_treats 30 = .ok (.iconst 1, 1) := by decide +kernel
theorem dX12_treats_31 : decode cX12_treats 31 = .ok (.iadd, 1) := by decide +kernel
theorem dX12_treats_32 : decode cX12_treats 32 = .ok (.iload_n 2, 1) := by decide +kernel
theorem dX12_treats_33 : decode cX12_treats 33 = .ok (.iastore, 1) := by decide +kernel
theorem dX12_treats_34 : decode cX12_treats 34 = .ok (.aload_n 0, 1) := by decide +kernel
theorem dX12_treats_35 : decode cX12_treats 35 = .ok (.getfield 7, 3) := by decide +kernel
theorem dX12_treats_38 : decode cX12_treats 38 = .ok (.iload 5, 2) := by decide +kernel
theorem dX12_treats_40 : decode cX12_treats 40 = .ok (.iconst 2, 1) := by decide +kernel
theorem dX12_treats_41 : decode cX12_treats 41 = .ok (.iadd, 1) := by decide +kernel
theorem dX12_treats_42 : decode cX12_treats 42 = .ok (.iload_n 3, 1) := by decide +kernel
theorem dX12_treats_43 : decode cX12_treats 43 = .ok (.iastore, 1) := by decide +kernel
theorem dX12_treats_44 : decode cX12_treats 44 = .ok (.aload_n 0, 1) := by decide +kernel
theorem dX12_treats_45 : decode cX12_treats 45 = .ok (.getfield 7, 3) := by decide +kernel
theorem dX12_treats_48 : decode cX12_treats 48 = .ok (.bipush 7, 2) := by decide +kernel
theorem dX12_treats_50 : decode cX12_treats 50 = .ok (.dup2, 1) := by decide +kernel
theorem dX12_treats_51 : decode cX12_treats 51 = .ok (.iaload, 1) := by decide +kernel
theorem dX12_treats_52 : decode cX12_treats 52 = .ok (.iload 4, 2) := by decide +kernel
theorem dX12_treats_54 : decode cX12_treats 54 = .ok (.isub, 1) := by decide +kernel
theorem dX12_treats_55 : decode cX12_treats 55 = .ok (.iastore, 1) := by decide +kernel
theorem dX12_treats_56 : decode cX12_treats 56 = .ok (.aload_n 0, 1) := by decide +kernel
theorem dX12_treats_57 : decode cX12_treats 57 = .ok (.getfield 7, 3) := by decide +kernel
theorem dX12_treats_60 : decode cX12_treats 60 = .ok (.iconst 2, 1) := by decide +kernel
theorem dX12_treats_61 : decode cX12_treats 61 = .ok (.dup2, 1) := by decide +kernel
theorem dX12_treats_62 : decode cX12_treats 62 = .ok (.iaload, 1) := by decide +kernel
theorem dX12_treats_63 : decode cX12_treats 63 = .ok (.iconst 1, 1) := by decide +kernel
theorem dX12_treats_64 : decode cX12_treats 64 = .ok (.iadd, 1) := by decide +kernel
theorem dX12_treats_65 : decode cX12_treats 65 = .ok (.iastore, 1) := by decide +kernel
theorem dX12_treats_66 : decode cX12_treats 66 = .ok (.aload_n 0, 1) := by decide +kernel
theorem dX12_treats_67 : decode cX12_treats 67 = .ok (.getfield 7, 3) := by decide +kernel
theorem dX12_treats_70 : decode cX12_treats 70 = .ok (.iconst 2, 1) := by decide +kernel
theorem dX12_treats_71 : decode cX12_treats 71 = .ok (.iaload, 1) := by decide +kernel
theorem dX12_treats_72 : decode cX12_treats 72 = .ok (.iconst 1, 1) := by decide +kernel
theorem dX12_treats_73 : decode cX12_treats 73 = .ok (.isub, 1) := by decide +kernel
theorem dX12_treats_74 : decode cX12_treats 74 = .ok (.ireturn, 1) := by decide +kernel
theorem dX12_addTreaty_0 : decode cX12_addTreaty 0 = .ok (.aload_n 0, 1) := by decide +kernel
theorem dX12_addTreaty_1 : decode cX12_addTreaty 1 = .ok (.invokevirtual 87, 3) := by decide +kernel
theorem dX12_addTreaty_4 : decode cX12_addTreaty 4 = .ok (.aload_n 0, 1) := by decide +kernel
theorem dX12_addTreaty_5 : decode cX12_addTreaty 5 = .ok (.iload_n 1, 1) := by decide +kernel
theorem dX12_addTreaty_6 : decode cX12_addTreaty 6 = .ok (.iload_n 2, 1) := by decide +kernel
theorem dX12_addTreaty_7 : decode cX12_addTreaty 7 = .ok (.iload_n 3, 1) := by decide +kernel
theorem dX12_addTreaty_8 : decode cX12_addTreaty 8 = .ok (.iload 4, 2) := by decide +kernel
theorem dX12_addTreaty_10 : decode cX12_addTreaty 10 = .ok (.invokevirtual 127, 3) := by decide +kernel
theorem dX12_addTreaty_13 : decode cX12_addTreaty 13 = .ok (.istore 5, 2) := by decide +kernel
theorem dX12_addTreaty_15 : decode cX12_addTreaty 15 = .ok (.iload 5, 2) := by decide +kernel
theorem dX12_addTreaty_17 : decode cX12_addTreaty 17 = .ok (.ifCond .le 12, 3) := by decide +kernel
theorem dX12_addTreaty_20 : decode cX12_addTreaty 20 = .ok (.aload_n 0, 1) := by decide +kernel
theorem dX12_addTreaty_21 : decode cX12_addTreaty 21 = .ok (.iload 5, 2) := by decide +kernel
theorem dX12_addTreaty_23 : decode cX12_addTreaty 23 = .ok (.invokevirtual 94, 3) := by decide +kernel
theorem dX12_addTreaty_26 : decode cX12_addTreaty 26 = .ok (.goto 16, 3) := by decide +kernel
theorem dX12_addTreaty_29 : decode cX12_addTreaty 29 = .ok (.aload_n 0, 1) := by decide +kernel
theorem dX12_addTreaty_30 : decode cX12_addTreaty 30 = .ok (.aload_n 0, 1) := by decide +kernel
theorem dX12_addTreaty_31 : decode cX12_addTreaty 31 = .ok (.iload_n 1, 1) := by decide +kernel
theorem dX12_addTreaty_32 : decode cX12_addTreaty 32 = .ok (.iload_n 2, 1) := by decide +kernel
theorem dX12_addTreaty_33 : decode cX12_addTreaty 33 = .ok (.iload_n 3, 1) := by decide +kernel
theorem dX12_addTreaty_34 : decode cX12_addTreaty 34 = .ok (.iload 4, 2) := by decide +kernel
theorem dX12_addTreaty_36 : decode cX12_addTreaty 36 = .ok (.invokevirtual 131, 3) := by decide +kernel
theorem dX12_addTreaty_39 : decode cX12_addTreaty 39 = .ok (.invokevirtual 101, 3) := by decide +kernel
theorem dX12_addTreaty_42 : decode cX12_addTreaty 42 = .ok (.ireturn, 1) := by decide +kernel
theorem dX12_cannotVoid_0 : decode cX12_cannotVoid 0 = .ok (.aload_n 0, 1) := by decide +kernel
theorem dX12_cannotVoid_1 : decode cX12_cannotVoid 1 = .ok (.iload_n 1, 1) := by decide +kernel
theorem dX12_cannotVoid_2 : decode cX12_cannotVoid 2 = .ok (.invokevirtual 134, 3) := by decide +kernel
theorem dX12_cannotVoid_5 : decode cX12_cannotVoid 5 = .ok (.ifCond .ne 5, 3) := by decide +kernel
theorem dX12_cannotVoid_8 : decode cX12_cannotVoid 8 = .ok (.iconst 1, 1) := by decide +kernel
theorem dX12_cannotVoid_9 : decode cX12_cannotVoid 9 = .ok (.ireturn, 1) := by decide +kernel
theorem dX12_cannotVoid_10 : decode cX12_cannotVoid 10 = .ok (.iconst 0, 1) := by decide +kernel
theorem dX12_cannotVoid_11 : decode cX12_cannotVoid 11 = .ok (.istore_n 2, 1) := by decide +kernel
theorem dX12_cannotVoid_12 : decode cX12_cannotVoid 12 = .ok (.iload_n 2, 1) := by decide +kernel
theorem dX12_cannotVoid_13 : decode cX12_cannotVoid 13 = .ok (.aload_n 0, 1) := by decide +kernel
theorem dX12_cannotVoid_14 : decode cX12_cannotVoid 14 = .ok (.getfield 7, 3) := by decide +kernel
theorem dX12_cannotVoid_17 : decode cX12_cannotVoid 17 = .ok (.iconst 1, 1) := by decide +kernel
theorem dX12_cannotVoid_18 : decode cX12_cannotVoid 18 = .ok (.iaload, 1) := by decide +kernel
theorem dX12_cannotVoid_19 : decode cX12_cannotVoid 19 = .ok (.if_icmp .ge 23, 3) := by decide +kernel
theorem dX12_cannotVoid_22 : decode cX12_cannotVoid 22 = .ok (.aload_n 0, 1) := by decide +kernel
theorem dX12_cannotVoid_23 : decode cX12_cannotVoid 23 = .ok (.iload_n 2, 1) := by decide +kernel
theorem dX12_cannotVoid_24 : decode cX12_cannotVoid 24 = .ok (.bipush 6, 2) := by decide +kernel
theorem dX12_cannotVoid_26 : decode cX12_cannotVoid 26 = .ok (.iload_n 1, 1) := by decide +kernel
theorem dX12_cannotVoid_27 : decode cX12_cannotVoid 27 = .ok (.iadd, 1) := by decide +kernel
theorem dX12_cannotVoid_28 : decode cX12_cannotVoid 28 = .ok (.invokevirtual 104, 3) := by decide +kernel
theorem dX12_cannotVoid_31 : decode cX12_cannotVoid 31 = .ok (.ifCond .le 5, 3) := by decide +kernel
theorem dX12_cannotVoid_34 : decode cX12_cannotVoid 34 = .ok (.iconst 2, 1) := by decide +kernel
theorem dX12_cannotVoid_35 : decode cX12_cannotVoid 35 = .ok (.ireturn, 1) := by decide +kernel
theorem dX12_cannotVoid_36 : decode cX12_cannotVoid 36 = .ok (.iinc 2 1, 3) := by decide +kernel
theorem dX12_cannotVoid_39 : decode cX12_cannotVoid 39 = .ok (.goto (-27), 3) := by decide +kernel
theorem dX12_cannotVoid_42 : decode cX12_cannotVoid 42 = .ok (.iconst 0, 1) := by decide +kernel
theorem dX12_cannotVoid_43 : decode cX12_cannotVoid 43 = .ok (.ireturn, 1) := by decide +kernel
theorem dX12_voids_0 : decode cX12_voids 0 = .ok (.aload_n 0, 1) := by decide +kernel
theorem dX12_voids_1 : decode cX12_voids 1 = .ok (.iload_n 1, 1) := by decide +kernel
theorem dX12_voids_2 : decode cX12_voids 2 = .ok (.iconst 2, 1) := by decide +kernel
theorem dX12_voids_3 : decode cX12_voids 3 = .ok (.invokevirtual 137, 3) := by decide +kernel
theorem dX12_voids_6 : decode cX12_voids 6 = .ok (.istore_n 2, 1) := by decide +kernel
theorem dX12_voids_7 : decode cX12_voids 7 = .ok (.aload_n 0, 1) := by decide +kernel
theorem dX12_voids_8 : decode cX12_voids 8 = .ok (.getfield 7, 3) := by decide +kernel
theorem dX12_voids_11 : decode cX12_voids 11 = .ok (.iconst 2, 1) := by decide +kernel
theorem dX12_voids_12 : decode cX12_voids 12 = .ok (.dup2, 1) := by decide +kernel
theorem dX12_voids_13 : decode cX12_voids 13 = .ok (.iaload, 1) := by decide +kernel
theorem dX12_voids_14 : decode cX12_voids 14 = .ok (.iconst 1, 1) := by decide +kernel
theorem dX12_voids_15 : decode cX12_voids 15 = .ok (.isub, 1) := by decide +kernel
theorem dX12_voids_16 : decode cX12_voids 16 = .ok (.iastore, 1) := by decide +kernel
theorem dX12_voids_17 : decode cX12_voids 17 = .ok (.aload_n 0, 1) := by decide +kernel
theorem dX12_voids_18 : decode cX12_voids 18 = .ok (.sipush 216, 3) := by decide +kernel
theorem dX12_voids_21 : decode cX12_voids 21 = .ok (.iconst 4, 1) := by decide +kernel
theorem dX12_voids_22 : decode cX12_voids 22 = .ok (.iload_n 1, 1) := by decide +kernel
theorem dX12_voids_23 : decode cX12_voids 23 = .ok (.aload_n 0, 1) := by decide +kernel
theorem dX12_voids_24 : decode cX12_voids 24 = .ok (.getfield 7, 3) := by decide +kernel
theorem dX12_voids_27 : decode cX12_voids 27 = .ok (.iconst 2, 1) := by decide +kernel
theorem dX12_voids_28 : decode cX12_voids 28 = .ok (.iaload, 1) := by decide +kernel
theorem dX12_voids_29 : decode cX12_voids 29 = .ok (.invokevirtual 117, 3) := by decide +kernel
theorem dX12_voids_32 : decode cX12_voids 32 = .ok (.iconst 0, 1) := by decide +kernel
theorem dX12_voids_33 : decode cX12_voids 33 = .ok (.istore_n 3, 1) := by decide +kernel
theorem dX12_voids_34 : decode cX12_voids 34 = .ok (.iload_n 3, 1) := by decide +kernel
theorem dX12_voids_35 : decode cX12_voids 35 = .ok (.aload_n 0, 1) := by decide +kernel
theorem dX12_voids_36 : decode cX12_voids 36 = .ok (.getfield 7, 3) := by decide +kernel
theorem dX12_voids_39 : decode cX12_voids 39 = .ok (.iconst 1, 1) := by decide +kernel
theorem dX12_voids_40 : decode cX12_voids 40 = .ok (.iaload, 1) := by decide +kernel
theorem dX12_voids_41 : decode cX12_voids 41 = .ok (.if_icmp .ge 78, 3) := by decide +kernel
theorem dX12_voids_44 : decode cX12_voids 44 = .ok (.bipush 72, 2) := by decide +kernel
theorem dX12_voids_46 : decode cX12_voids 46 = .ok (.bipush 12, 2) := by decide +kernel
theorem dX12_voids_48 : decode cX12_voids 48 = .ok (.iload_n 3, 1) := by decide +kernel
theorem dX12_voids_49 : decode cX12_voids 49 = .ok (.imul, 1) := by decide +kernel
theorem dX12_voids_50 : decode cX12_voids 50 = .ok (.iadd, 1) := by decide +kernel
theorem dX12_voids_51 : decode cX12_voids 51 = .ok (.bipush 6, 2) := by decide +kernel
theorem dX12_voids_53 : decode cX12_voids 53 = .ok (.iadd, 1) := by decide +kernel
theorem dX12_voids_54 : decode cX12_voids 54 = .ok (.istore 4, 2) := by decide +kernel
theorem dX12_voids_56 : decode cX12_voids 56 = .ok (.iload_n 1, 1) := by decide +kernel
theorem dX12_voids_57 : decode cX12_voids 57 = .ok (.istore 5, 2) := by decide +kernel
theorem dX12_voids_59 : decode cX12_voids 59 = .ok (.iload 5, 2) := by decide +kernel
theorem dX12_voids_61 : decode cX12_voids 61 = .ok (.aload_n 0, 1) := by decide +kernel
theorem dX12_voids_62 : decode cX12_voids 62 = .ok (.getfield 7, 3) := by decide +kernel
theorem dX12_voids_65 : decode cX12_voids 65 = .ok (.iconst 2, 1) := by decide +kernel
theorem dX12_voids_66 : decode cX12_voids 66 = .ok (.iaload, 1) := by decide +kernel
theorem dX12_voids_67 : decode cX12_voids 67 = .ok (.if_icmp .ge 31, 3) := by decide +kernel
theorem dX12_voids_70 : decode cX12_voids 70 = .ok (.aload_n 0, 1) := by decide +kernel
theorem dX12_voids_71 : decode cX12_voids 71 = .ok (.getfield 7, 3) := by decide +kernel
theorem dX12_voids_74 : decode cX12_voids 74 = .ok (.iload 4, 2) := by decide +kernel
theorem dX12_voids_76 : decode cX12_voids 76 = .ok (.iload 5, 2) := by decide +kernel
theorem dX12_voids_78 : decode cX12_voids 78 = .ok (.iadd, 1) := by decide +kernel
theorem dX12_voids_79 : decode cX12_voids 79 = .ok (.aload_n 0, 1) := by decide +kernel
theorem dX12_voids_80 : decode cX12_voids 80 = .ok (.getfield 7, 3) := by decide +kernel
theorem dX12_voids_83 : decode cX12_voids 83 = .ok (.iload 4, 2) := by decide +kernel
theorem dX12_voids_85 : decode cX12_voids 85 = .ok (.iload 5, 2) := by decide +kernel
theorem dX12_voids_87 : decode cX12_voids 87 = .ok (.iadd, 1) := by decide +kernel
theorem dX12_voids_88 : decode cX12_voids 88 = .ok (.iconst 1, 1) := by decide +kernel
theorem dX12_voids_89 : decode cX12_voids 89 = .ok (.iadd, 1) := by decide +kernel
theorem dX12_voids_90 : decode cX12_voids 90 = .ok (.iaload, 1) := by decide +kernel
theorem dX12_voids_91 : decode cX12_voids 91 = .ok (.iastore, 1) := by decide +kernel
theorem dX12_voids_92 : decode cX12_voids 92 = .ok (.iinc 5 1, 3) := by decide +kernel
theorem dX12_voids_95 : decode cX12_voids 95 = .ok (.goto (-36), 3) := by decide +kernel
theorem dX12_voids_98 : decode cX12_voids 98 = .ok (.aload_n 0, 1) := by decide +kernel
theorem dX12_voids_99 : decode cX12_voids 99 = .ok (.getfield 7, 3) := by decide +kernel
theorem dX12_voids_102 : decode cX12_voids 102 = .ok (.iload 4, 2) := by decide +kernel
theorem dX12_voids_104 : decode cX12_voids 104 = .ok (.aload_n 0, 1) := by decide +kernel
theorem dX12_voids_105 : decode cX12_voids 105 = .ok (.getfield 7, 3) := by decide +kernel
theorem dX12_voids_108 : decode cX12_voids 108 = .ok (.iconst 2, 1) := by decide +kernel
theorem dX12_voids_109 : decode cX12_voids 109 = .ok (.iaload, 1) := by decide +kernel
theorem dX12_voids_110 : decode cX12_voids 110 = .ok (.iadd, 1) := by decide +kernel
theorem dX12_voids_111 : decode cX12_voids 111 = .ok (.iconst 0, 1) := by decide +kernel
theorem dX12_voids_112 : decode cX12_voids 112 = .ok (.iastore, 1) := by decide +kernel
theorem dX12_voids_113 : decode cX12_voids 113 = .ok (.iinc 3 1, 3) := by decide +kernel
theorem dX12_voids_116 : decode cX12_voids 116 = .ok (.goto (-82), 3) := by decide +kernel
theorem dX12_voids_119 : decode cX12_voids 119 = .ok (.iload_n 2, 1) := by decide +kernel
theorem dX12_voids_120 : decode cX12_voids 120 = .ok (.ireturn, 1) := by decide +kernel
theorem dX12_dropTreaty_0 : decode cX12_dropTreaty 0 = .ok (.aload_n 0, 1) := by decide +kernel
theorem dX12_dropTreaty_1 : decode cX12_dropTreaty 1 = .ok (.invokevirtual 87, 3) := by decide +kernel
theorem dX12_dropTreaty_4 : decode cX12_dropTreaty 4 = .ok (.aload_n 0, 1) := by decide +kernel
theorem dX12_dropTreaty_5 : decode cX12_dropTreaty 5 = .ok (.iload_n 1, 1) := by decide +kernel
theorem dX12_dropTreaty_6 : decode cX12_dropTreaty 6 = .ok (.invokevirtual 140, 3) := by decide +kernel
theorem dX12_dropTreaty_9 : decode cX12_dropTreaty 9 = .ok (.istore_n 2, 1) := by decide +kernel
theorem dX12_dropTreaty_10 : decode cX12_dropTreaty 10 = .ok (.iload_n 2, 1) := by decide +kernel
theorem dX12_dropTreaty_11 : decode cX12_dropTreaty 11 = .ok (.ifCond .le 11, 3) := by decide +kernel
theorem dX12_dropTreaty_14 : decode cX12_dropTreaty 14 = .ok (.aload_n 0, 1) := by decide +kernel
theorem dX12_dropTreaty_15 : decode cX12_dropTreaty 15 = .ok (.iload_n 2, 1) := by decide +kernel
theorem dX12_dropTreaty_16 : decode cX12_dropTreaty 16 = .ok (.invokevirtual 94, 3) := by decide +kernel
theorem dX12_dropTreaty_19 : decode cX12_dropTreaty 19 = .ok (.goto 12, 3) := by decide +kernel
theorem dX12_dropTreaty_22 : decode cX12_dropTreaty 22 = .ok (.aload_n 0, 1) := by decide +kernel
theorem dX12_dropTreaty_23 : decode cX12_dropTreaty 23 = .ok (.aload_n 0, 1) := by decide +kernel
theorem dX12_dropTreaty_24 : decode cX12_dropTreaty 24 = .ok (.iload_n 1, 1) := by decide +kernel
theorem dX12_dropTreaty_25 : decode cX12_dropTreaty 25 = .ok (.invokevirtual 143, 3) := by decide +kernel
theorem dX12_dropTreaty_28 : decode cX12_dropTreaty 28 = .ok (.invokevirtual 101, 3) := by decide +kernel
theorem dX12_dropTreaty_31 : decode cX12_dropTreaty 31 = .ok (.ireturn, 1) := by decide +kernel
theorem dX12_bears_0 : decode cX12_bears 0 = .ok (.iconst 0, 1) := by decide +kernel
theorem dX12_bears_1 : decode cX12_bears 1 = .ok (.istore_n 2, 1) := by decide +kernel
theorem dX12_bears_2 : decode cX12_bears 2 = .ok (.iconst 0, 1) := by decide +kernel
theorem dX12_bears_3 : decode cX12_bears 3 = .ok (.istore_n 3, 1) := by decide +kernel
theorem dX12_bears_4 : decode cX12_bears 4 = .ok (.iload_n 3, 1) := by decide +kernel
theorem dX12_bears_5 : decode cX12_bears 5 = .ok (.iconst 4, 1) := by decide +kernel
theorem dX12_bears_6 : decode cX12_bears 6 = .ok (.if_icmp .ge 40, 3) := by decide +kernel
theorem dX12_bears_9 : decode cX12_bears 9 = .ok (.aload_n 0, 1) := by decide +kernel
theorem dX12_bears_10 : decode cX12_bears 10 = .ok (.getfield 22, 3) := by decide +kernel
theorem dX12_bears_13 : decode cX12_bears 13 = .ok (.iload_n 3, 1) := by decide +kernel
theorem dX12_bears_14 : decode cX12_bears 14 = .ok (.iconst 0, 1) := by decide +kernel
theorem dX12_bears_15 : decode cX12_bears 15 = .ok (.iastore, 1) := by decide +kernel
theorem dX12_bears_16 : decode cX12_bears 16 = .ok (.aload_n 0, 1) := by decide +kernel
theorem dX12_bears_17 : decode cX12_bears 17 = .ok (.getfield 25, 3) := by decide +kernel
theorem dX12_bears_20 : decode cX12_bears 20 = .ok (.iload_n 3, 1) := by decide +kernel
theorem dX12_bears_21 : decode cX12_bears 21 = .ok (.aload_n 0, 1) := by decide +kernel
theorem dX12_bears_22 : decode cX12_bears 22 = .ok (.iload_n 3, 1) := by decide +kernel
theorem dX12_bears_23 : decode cX12_bears 23 = .ok (.invokevirtual 134, 3) := by decide +kernel
theorem dX12_bears_26 : decode cX12_bears 26 = .ok (.ifCond .eq 12, 3) := by decide +kernel
theorem dX12_bears_29 : decode cX12_bears 29 = .ok (.aload_n 0, 1) := by decide +kernel
theorem dX12_bears_30 : decode cX12_bears 30 = .ok (.iload_n 3, 1) := by decide +kernel
theorem dX12_bears_31 : decode cX12_bears 31 = .ok (.iconst 2, 1) := by decide +kernel
theorem dX12_bears_32 : decode cX12_bears 32 = .ok (.invokevirtual 137, 3) := by decide +kernel
theorem dX12_bears_35 : decode cX12_bears 35 = .ok (.goto 4, 3) := by decide +kernel
theorem dX12_bears_38 : decode cX12_bears 38 = .ok (.iconst 0, 1) := by decide +kernel
theorem dX12_bears_39 : decode cX12_bears 39 = .ok (.iastore, 1) := by decide +kernel
theorem dX12_bears_40 : decode cX12_bears 40 = .ok (.iinc 3 1, 3) := by decide +kernel
theorem dX12_bears_43 : decode cX12_bears 43 = .ok (.goto (-39), 3) := by decide +kernel
theorem dX12_bears_46 : decode cX12_bears 46 = .ok (.iconst 1, 1) := by decide +kernel
theorem dX12_bears_47 : decode cX12_bears 47 = .ok (.istore_n 3, 1) := by decide +kernel
theorem dX12_bears_48 : decode cX12_bears 48 = .ok (.iload_n 3, 1) := by decide +kernel
theorem dX12_bears_49 : decode cX12_bears 49 = .ok (.iload_n 1, 1) := by decide +kernel
theorem dX12_bears_50 : decode cX12_bears 50 = .ok (.if_icmp .gt 100, 3) := by decide +kernel
theorem dX12_bears_53 : decode cX12_bears 53 = .ok (.iconst 0, 1) := by decide +kernel
theorem dX12_bears_54 : decode cX12_bears 54 = .ok (.istore 4, 2) := by decide +kernel
theorem dX12_bears_56 : decode cX12_bears 56 = .ok (.iload 4, 2) := by decide +kernel
theorem dX12_bears_58 : decode cX12_bears 58 = .ok (.aload_n 0, 1) := by decide +kernel
theorem dX12_bears_59 : decode cX12_bears 59 = .ok (.getfield 7, 3) := by decide +kernel
theorem dX12_bears_62 : decode cX12_bears 62 = .ok (.iconst 2, 1) := by decide +kernel
theorem dX12_bears_63 : decode cX12_bears 63 = .ok (.iaload, 1) := by decide +kernel
theorem dX12_bears_64 : decode cX12_bears 64 = .ok (.if_icmp .ge 80, 3) := by decide +kernel
theorem dX12_bears_67 : decode cX12_bears 67 = .ok (.iload_n 3, 1) := by decide +kernel
theorem dX12_bears_68 : decode cX12_bears 68 = .ok (.aload_n 0, 1) := by decide +kernel
theorem dX12_bears_69 : decode cX12_bears 69 = .ok (.iload 4, 2) := by decide +kernel
theorem dX12_bears_71 : decode cX12_bears 71 = .ok (.iconst 0, 1) := by decide +kernel
theorem dX12_bears_72 : decode cX12_bears 72 = .ok (.invokevirtual 137, 3) := by decide +kernel
theorem dX12_bears_75 : decode cX12_bears 75 = .ok (.if_icmp .le 63, 3) := by decide +kernel
theorem dX12_bears_78 : decode cX12_bears 78 = .ok (.iload_n 3, 1) := by decide +kernel
theorem dX12_bears_79 : decode cX12_bears 79 = .ok (.aload_n 0, 1) := by decide +kernel
theorem dX12_bears_80 : decode cX12_bears 80 = .ok (.iload 4, 2) := by decide +kernel
theorem dX12_bears_82 : decode cX12_bears 82 = .ok (.iconst 0, 1) := by decide +kernel
theorem dX12_bears_83 : decode cX12_bears 83 = .ok (.invokevirtual 137, 3) := by decide +kernel
theorem dX12_bears_86 : decode cX12_bears 86 = .ok (.aload_n 0, 1) := by decide +kernel
theorem dX12_bears_87 : decode cX12_bears 87 = .ok (.iload 4, 2) := by decide +kernel
theorem dX12_bears_89 : decode cX12_bears 89 = .ok (.iconst 1, 1) := by decide +kernel
theorem dX12_bears_90 : decode cX12_bears 90 = .ok (.invokevirtual 137, 3) := by decide +kernel
theorem dX12_bears_93 : decode cX12_bears 93 = .ok (.iadd, 1) := by decide +kernel
theorem dX12_bears_94 : decode cX12_bears 94 = .ok (.if_icmp .gt 44, 3) := by decide +kernel
theorem dX12_bears_97 : decode cX12_bears 97 = .ok (.aload_n 0, 1) := by decide +kernel
theorem dX12_bears_98 : decode cX12_bears 98 = .ok (.getfield 25, 3) := by decide +kernel
theorem dX12_bears_101 : decode cX12_bears 101 = .ok (.iload 4, 2) := by decide +kernel
theorem dX12_bears_103 : decode cX12_bears 103 = .ok (.iaload, 1) := by decide +kernel
theorem dX12_bears_104 : decode cX12_bears 104 = .ok (.ifCond .ne 6, 3) := by decide +kernel
theorem dX12_bears_107 : decode cX12_bears 107 = .ok (.goto 31, 3) := by decide +kernel
theorem dX12_bears_110 : decode cX12_bears 110 = .ok (.aload_n 0, 1) := by decide +kernel
theorem dX12_bears_111 : decode cX12_bears 111 = .ok (.getfield 22, 3) := by decide +kernel
theorem dX12_bears_114 : decode cX12_bears 114 = .ok (.iload 4, 2) := by decide +kernel
theorem dX12_bears_116 : decode cX12_bears 116 = .ok (.dup2, 1) := by decide +kernel
theorem dX12_bears_117 : decode cX12_bears 117 = .ok (.iaload, 1) := by decide +kernel
theorem dX12_bears_118 : decode cX12_bears 118 = .ok (.iconst 1, 1) := by decide +kernel
theorem dX12_bears_119 : decode cX12_bears 119 = .ok (.iadd, 1) := by decide +kernel
theorem dX12_bears_120 : decode cX12_bears 120 = .ok (.iastore, 1) := by decide +kernel
theorem dX12_bears_121 : decode cX12_bears 121 = .ok (.aload_n 0, 1) := by decide +kernel
theorem dX12_bears_122 : decode cX12_bears 122 = .ok (.getfield 25, 3) := by decide +kernel
theorem dX12_bears_125 : decode cX12_bears 125 = .ok (.iload 4, 2) := by decide +kernel
theorem dX12_bears_127 : decode cX12_bears 127 = .ok (.dup2, 1) := by decide +kernel
theorem dX12_bears_128 : decode cX12_bears 128 = .ok (.iaload, 1) := by decide +kernel
theorem dX12_bears_129 : decode cX12_bears 129 = .ok (.iconst 1, 1) := by decide +kernel
theorem dX12_bears_130 : decode cX12_bears 130 = .ok (.isub, 1) := by decide +kernel
theorem dX12_bears_131 : decode cX12_bears 131 = .ok (.iastore, 1) := by decide +kernel
theorem dX12_bears_132 : decode cX12_bears 132 = .ok (.iinc 2 1, 3) := by decide +kernel
theorem dX12_bears_135 : decode cX12_bears 135 = .ok (.goto 9, 3) := by decide +kernel
theorem dX12_bears_138 : decode cX12_bears 138 = .ok (.iinc 4 1, 3) := by decide +kernel
theorem dX12_bears_141 : decode cX12_bears 141 = .ok (.goto (-85), 3) := by decide +kernel
theorem dX12_bears_144 : decode cX12_bears 144 = .ok (.iinc 3 1, 3) := by decide +kernel
theorem dX12_bears_147 : decode cX12_bears 147 = .ok (.goto (-99), 3) := by decide +kernel
theorem dX12_bears_150 : decode cX12_bears 150 = .ok (.iload_n 2, 1) := by decide +kernel
theorem dX12_bears_151 : decode cX12_bears 151 = .ok (.ireturn, 1) := by decide +kernel
theorem dX12_c_0 : decode cX12_c 0 = .ok (.aload_n 0, 1) := by decide +kernel
theorem dX12_c_1 : decode cX12_c 1 = .ok (.getfield 7, 3) := by decide +kernel
theorem dX12_c_4 : decode cX12_c 4 = .ok (.bipush 72, 2) := by decide +kernel
theorem dX12_c_6 : decode cX12_c 6 = .ok (.bipush 12, 2) := by decide +kernel
theorem dX12_c_8 : decode cX12_c 8 = .ok (.iload_n 1, 1) := by decide +kernel
theorem dX12_c_9 : decode cX12_c 9 = .ok (.imul, 1) := by decide +kernel
theorem dX12_c_10 : decode cX12_c 10 = .ok (.iadd, 1) := by decide +kernel
theorem dX12_c_11 : decode cX12_c 11 = .ok (.iload_n 2, 1) := by decide +kernel
theorem dX12_c_12 : decode cX12_c 12 = .ok (.iadd, 1) := by decide +kernel
theorem dX12_c_13 : decode cX12_c 13 = .ok (.iaload, 1) := by decide +kernel
theorem dX12_c_14 : decode cX12_c 14 = .ok (.ireturn, 1) := by decide +kernel
theorem dX12_claim_0 : decode cX12_claim 0 = .ok (.iconst 0, 1) := by decide +kernel
theorem dX12_claim_1 : decode cX12_claim 1 = .ok (.istore_n 2, 1) := by decide +kernel
theorem dX12_claim_2 : decode cX12_claim 2 = .ok (.iload_n 2, 1) := by decide +kernel
theorem dX12_claim_3 : decode cX12_claim 3 = .ok (.aload_n 0, 1) := by decide +kernel
theorem dX12_claim_4 : decode cX12_claim 4 = .ok (.getfield 7, 3) := by decide +kernel
theorem dX12_claim_7 : decode cX12_claim 7 = .ok (.iconst 1, 1) := by decide +kernel
theorem dX12_claim_8 : decode cX12_claim 8 = .ok (.iaload, 1) := by decide +kernel
theorem dX12_claim_9 : decode cX12_claim 9 = .ok (.if_icmp .ge 21, 3) := by decide +kernel
theorem dX12_claim_12 : decode cX12_claim 12 = .ok (.aload_n 0, 1) := by decide +kernel
theorem dX12_claim_13 : decode cX12_claim 13 = .ok (.iload_n 2, 1) := by decide +kernel
theorem dX12_claim_14 : decode cX12_claim 14 = .ok (.iconst 0, 1) := by decide +kernel
theorem dX12_claim_15 : decode cX12_claim 15 = .ok (.invokevirtual 104, 3) := by decide +kernel
theorem dX12_claim_18 : decode cX12_claim 18 = .ok (.iload_n 1, 1) := by decide +kernel
theorem dX12_claim_19 : decode cX12_claim 19 = .ok (.if_icmp .ne 5, 3) := by decide +kernel
theorem dX12_claim_22 : decode cX12_claim 22 = .ok (.iload_n 2, 1) := by decide +kernel
theorem dX12_claim_23 : decode cX12_claim 23 = .ok (.ireturn, 1) := by decide +kernel
theorem dX12_claim_24 : decode cX12_claim 24 = .ok (.iinc 2 1, 3) := by decide +kernel
theorem dX12_claim_27 : decode cX12_claim 27 = .ok (.goto (-25), 3) := by decide +kernel
theorem dX12_claim_30 : decode cX12_claim 30 = .ok (.iconst (-1), 1) := by decide +kernel
theorem dX12_claim_31 : decode cX12_claim 31 = .ok (.ireturn, 1) := by decide +kernel
theorem dX12_borneOf_0 : decode cX12_borneOf 0 = .ok (.iconst 0, 1) := by decide +kernel
theorem dX12_borneOf_1 : decode cX12_borneOf 1 = .ok (.istore_n 2, 1) := by decide +kernel
theorem dX12_borneOf_2 : decode cX12_borneOf 2 = .ok (.iconst 0, 1) := by decide +kernel
theorem dX12_borneOf_3 : decode cX12_borneOf 3 = .ok (.istore_n 3, 1) := by decide +kernel
theorem dX12_borneOf_4 : decode cX12_borneOf 4 = .ok (.iload_n 3, 1) := by decide +kernel
theorem dX12_borneOf_5 : decode cX12_borneOf 5 = .ok (.iconst 4, 1) := by decide +kernel
theorem dX12_borneOf_6 : decode cX12_borneOf 6 = .ok (.if_icmp .ge 21, 3) := by decide +kernel
theorem dX12_borneOf_9 : decode cX12_borneOf 9 = .ok (.iload_n 2, 1) := by decide +kernel
theorem dX12_borneOf_10 : decode cX12_borneOf 10 = .ok (.aload_n 0, 1) := by decide +kernel
theorem dX12_borneOf_11 : decode cX12_borneOf 11 = .ok (.iload_n 1, 1) := by decide +kernel
theorem dX12_borneOf_12 : decode cX12_borneOf 12 = .ok (.bipush 6, 2) := by decide +kernel
theorem dX12_borneOf_14 : decode cX12_borneOf 14 = .ok (.iload_n 3, 1) := by decide +kernel
theorem dX12_borneOf_15 : decode cX12_borneOf 15 = .ok (.iadd, 1) := by decide +kernel
theorem dX12_borneOf_16 : decode cX12_borneOf 16 = .ok (.invokevirtual 104, 3) := by decide +kernel
theorem dX12_borneOf_19 : decode cX12_borneOf 19 = .ok (.iadd, 1) := by decide +kernel
theorem dX12_borneOf_20 : decode cX12_borneOf 20 = .ok (.istore_n 2, 1) := by decide +kernel
theorem dX12_borneOf_21 : decode cX12_borneOf 21 = .ok (.iinc 3 1, 3) := by decide +kernel
theorem dX12_borneOf_24 : decode cX12_borneOf 24 = .ok (.goto (-20), 3) := by decide +kernel
theorem dX12_borneOf_27 : decode cX12_borneOf 27 = .ok (.iload_n 2, 1) := by decide +kernel
theorem dX12_borneOf_28 : decode cX12_borneOf 28 = .ok (.ireturn, 1) := by decide +kernel
theorem dX12_recoveredOf_0 : decode cX12_recoveredOf 0 = .ok (.aload_n 0, 1) := by decide +kernel
theorem dX12_recoveredOf_1 : decode cX12_recoveredOf 1 = .ok (.iload_n 1, 1) := by decide +kernel
theorem dX12_recoveredOf_2 : decode cX12_recoveredOf 2 = .ok (.invokevirtual 146, 3) := by decide +kernel
theorem dX12_recoveredOf_5 : decode cX12_recoveredOf 5 = .ok (.aload_n 0, 1) := by decide +kernel
theorem dX12_recoveredOf_6 : decode cX12_recoveredOf 6 = .ok (.iload_n 1, 1) := by decide +kernel
theorem dX12_recoveredOf_7 : decode cX12_recoveredOf 7 = .ok (.iconst 4, 1) := by decide +kernel
theorem dX12_recoveredOf_8 : decode cX12_recoveredOf 8 = .ok (.invokevirtual 104, 3) := by decide +kernel
theorem dX12_recoveredOf_11 : decode cX12_recoveredOf 11 = .ok (.imul, 1) := by decide +kernel
theorem dX12_recoveredOf_12 : decode cX12_recoveredOf 12 = .ok (.aload_n 0, 1) := by decide +kernel
theorem dX12_recoveredOf_13 : decode cX12_recoveredOf 13 = .ok (.iload_n 1, 1) := by decide +kernel
theorem dX12_recoveredOf_14 : decode cX12_recoveredOf 14 = .ok (.iconst 3, 1) := by decide +kernel
theorem dX12_recoveredOf_15 : decode cX12_recoveredOf 15 = .ok (.invokevirtual 104, 3) := by decide +kernel
theorem dX12_recoveredOf_18 : decode cX12_recoveredOf 18 = .ok (.idiv, 1) := by decide +kernel
theorem dX12_recoveredOf_19 : decode cX12_recoveredOf 19 = .ok (.ireturn, 1) := by decide +kernel
theorem dX12_isCause_0 : decode cX12_isCause 0 = .ok (.iload_n 0, 1) := by decide +kernel
theorem dX12_isCause_1 : decode cX12_isCause 1 = .ok (.bipush 114, 2) := by decide +kernel
theorem dX12_isCause_3 : decode cX12_isCause 3 = .ok (.if_icmp .eq 21, 3) := by decide +kernel
theorem dX12_isCause_6 : decode cX12_isCause 6 = .ok (.iload_n 0, 1) := by decide +kernel
theorem dX12_isCause_7 : decode cX12_isCause 7 = .ok (.bipush 103, 2) := by decide +kernel
theorem dX12_isCause_9 : decode cX12_isCause 9 = .ok (.if_icmp .eq 15, 3) := by decide +kernel
theorem dX12_isCause_12 : decode cX12_isCause 12 = .ok (.iload_n 0, 1) := by decide +kernel
theorem dX12_isCause_13 : decode cX12_isCause 13 = .ok (.bipush 119, 2) := by decide +kernel
theorem dX12_isCause_15 : decode cX12_isCause 15 = .ok (.if_icmp .eq 9, 3) := by decide +kernel
theorem dX12_isCause_18 : decode cX12_isCause 18 = .ok (.iload_n 0, 1) := by decide +kernel
theorem dX12_isCause_19 : decode cX12_isCause 19 = .ok (.bipush 102, 2) := by decide +kernel
theorem dX12_isCause_21 : decode cX12_isCause 21 = .ok (.if_icmp .ne 7, 3) := by decide +kernel
theorem dX12_isCause_24 : decode cX12_isCause 24 = .ok (.iconst 1, 1) := by decide +kernel
theorem dX12_isCause_25 : decode cX12_isCause 25 = .ok (.goto 4, 3) := by decide +kernel
theorem dX12_isCause_28 : decode cX12_isCause 28 = .ok (.iconst 0, 1) := by decide +kernel
theorem dX12_isCause_29 : decode cX12_isCause 29 = .ok (.ireturn, 1) := by decide +kernel
theorem dX12_deductible_0 : decode cX12_deductible 0 = .ok (.iload_n 0, 1) := by decide +kernel
theorem dX12_deductible_1 : decode cX12_deductible 1 = .ok (.lookupswitch 47 #[(103, 37), (114, 35), (119, 39)], 35) := by decide +kernel
theorem dX12_deductible_36 : decode cX12_deductible 36 = .ok (.iconst 0, 1) := by decide +kernel
theorem dX12_deductible_37 : decode cX12_deductible 37 = .ok (.ireturn, 1) := by decide +kernel
theorem dX12_deductible_38 : decode cX12_deductible 38 = .ok (.iconst 2, 1) := by decide +kernel
theorem dX12_deductible_39 : decode cX12_deductible 39 = .ok (.ireturn, 1) := by decide +kernel
theorem dX12_deductible_40 : decode cX12_deductible 40 = .ok (.iload_n 1, 1) := by decide +kernel
theorem dX12_deductible_41 : decode cX12_deductible 41 = .ok (.bipush 9, 2) := by decide +kernel
theorem dX12_deductible_43 : decode cX12_deductible 43 = .ok (.iadd, 1) := by decide +kernel
theorem dX12_deductible_44 : decode cX12_deductible 44 = .ok (.bipush 10, 2) := by decide +kernel
theorem dX12_deductible_46 : decode cX12_deductible 46 = .ok (.idiv, 1) := by decide +kernel
theorem dX12_deductible_47 : decode cX12_deductible 47 = .ok (.ireturn, 1) := by decide +kernel
theorem dX12_deductible_48 : decode cX12_deductible 48 = .ok (.iload_n 1, 1) := by decide +kernel
theorem dX12_deductible_49 : decode cX12_deductible 49 = .ok (.iconst 4, 1) := by decide +kernel
theorem dX12_deductible_50 : decode cX12_deductible 50 = .ok (.idiv, 1) := by decide +kernel
theorem dX12_deductible_51 : decode cX12_deductible 51 = .ok (.iconst 1, 1) := by decide +kernel
theorem dX12_deductible_52 : decode cX12_deductible 52 = .ok (.iadd, 1) := by decide +kernel
theorem dX12_deductible_53 : decode cX12_deductible 53 = .ok (.ireturn, 1) := by decide +kernel
theorem dX12_amountFor_0 : decode cX12_amountFor 0 = .ok (.iload_n 3, 1) := by decide +kernel
theorem dX12_amountFor_1 : decode cX12_amountFor 1 = .ok (.iload_n 2, 1) := by decide +kernel
theorem dX12_amountFor_2 : decode cX12_amountFor 2 = .ok (.iload_n 3, 1) := by decide +kernel
theorem dX12_amountFor_3 : decode cX12_amountFor 3 = .ok (.invokestatic 149, 3) := by decide +kernel
theorem dX12_amountFor_6 : decode cX12_amountFor 6 = .ok (.isub, 1) := by decide +kernel
theorem dX12_amountFor_7 : decode cX12_amountFor 7 = .ok (.istore 4, 2) := by decide +kernel
theorem dX12_amountFor_9 : decode cX12_amountFor 9 = .ok (.aload_n 0, 1) := by decide +kernel
theorem dX12_amountFor_10 : decode cX12_amountFor 10 = .ok (.iload_n 1, 1) := by decide +kernel
theorem dX12_amountFor_11 : decode cX12_amountFor 11 = .ok (.iconst 1, 1) := by decide +kernel
theorem dX12_amountFor_12 : decode cX12_amountFor 12 = .ok (.invokevirtual 79, 3) := by decide +kernel
theorem dX12_amountFor_15 : decode cX12_amountFor 15 = .ok (.aload_n 0, 1) := by decide +kernel
theorem dX12_amountFor_16 : decode cX12_amountFor 16 = .ok (.iload_n 1, 1) := by decide +kernel
theorem dX12_amountFor_17 : decode cX12_amountFor 17 = .ok (.bipush 6, 2) := by decide +kernel
theorem dX12_amountFor_19 : decode cX12_amountFor 19 = .ok (.invokevirtual 79, 3) := by decide +kernel
theorem dX12_amountFor_22 : decode cX12_amountFor 22 = .ok (.isub, 1) := by decide +kernel
theorem dX12_amountFor_23 : decode cX12_amountFor 23 = .ok (.istore 5, 2) := by decide +kernel
theorem dX12_amountFor_25 : decode cX12_amountFor 25 = .ok (.iload 4, 2) := by decide +kernel
theorem dX12_amountFor_27 : decode cX12_amountFor 27 = .ok (.iload 5, 2) := by decide +kernel
theorem dX12_amountFor_29 : decode cX12_amountFor 29 = .ok (.if_icmp .le 8, 3) := by decide +kernel
theorem dX12_amountFor_32 : decode cX12_amountFor 32 = .ok (.iload 5, 2) := by decide +kernel
theorem dX12_amountFor_34 : decode cX12_amountFor 34 = .ok (.goto 5, 3) := by decide +kernel
theorem dX12_amountFor_37 : decode cX12_amountFor 37 = .ok (.iload 4, 2) := by decide +kernel
theorem dX12_amountFor_39 : decode cX12_amountFor 39 = .ok (.ireturn, 1) := by decide +kernel
theorem dX12_cannotClaim_0 : decode cX12_cannotClaim 0 = .ok (.aload_n 0, 1) := by decide +kernel
theorem dX12_cannotClaim_1 : decode cX12_cannotClaim 1 = .ok (.iload_n 1, 1) := by decide +kernel
theorem dX12_cannotClaim_2 : decode cX12_cannotClaim 2 = .ok (.invokevirtual 107, 3) := by decide +kernel
theorem dX12_cannotClaim_5 : decode cX12_cannotClaim 5 = .ok (.istore 4, 2) := by decide +kernel
theorem dX12_cannotClaim_7 : decode cX12_cannotClaim 7 = .ok (.iload 4, 2) := by decide +kernel
theorem dX12_cannotClaim_9 : decode cX12_cannotClaim 9 = .ok (.ifCond .ge 5, 3) := by decide +kernel
theorem dX12_cannotClaim_12 : decode cX12_cannotClaim 12 = .ok (.iconst 1, 1) := by decide +kernel
theorem dX12_cannotClaim_13 : decode cX12_cannotClaim 13 = .ok (.ireturn, 1) := by decide +kernel
theorem dX12_cannotClaim_14 : decode cX12_cannotClaim 14 = .ok (.iload_n 2, 1) := by decide +kernel
theorem dX12_cannotClaim_15 : decode cX12_cannotClaim 15 = .ok (.invokestatic 152, 3) := by decide +kernel
theorem dX12_cannotClaim_18 : decode cX12_cannotClaim 18 = .ok (.ifCond .eq 13, 3) := by decide +kernel
theorem dX12_cannotClaim_21 : decode cX12_cannotClaim 21 = .ok (.iload_n 3, 1) := by decide +kernel
theorem dX12_cannotClaim_22 : decode cX12_cannotClaim 22 = .ok (.iconst 1, 1) := by decide +kernel
theorem dX12_cannotClaim_23 : decode cX12_cannotClaim 23 = .ok (.bipush 99, 2) := by decide +kernel
theorem dX12_cannotClaim_25 : decode cX12_cannotClaim 25 = .ok (.invokestatic 83, 3) := by decide +kernel
theorem dX12_cannotClaim_28 : decode cX12_cannotClaim 28 = .ok (.ifCond .ne 5, 3) := by decide +kernel
theorem dX12_cannotClaim_31 : decode cX12_cannotClaim 31 = .ok (.iconst 2, 1) := by decide +kernel
theorem dX12_cannotClaim_32 : decode cX12_cannotClaim 32 = .ok (.ireturn, 1) := by decide +kernel
theorem dX12_cannotClaim_33 : decode cX12_cannotClaim 33 = .ok (.aload_n 0, 1) := by decide +kernel
theorem dX12_cannotClaim_34 : decode cX12_cannotClaim 34 = .ok (.iload 4, 2) := by decide +kernel
theorem dX12_cannotClaim_36 : decode cX12_cannotClaim 36 = .ok (.invokevirtual 114, 3) := by decide +kernel
theorem dX12_cannotClaim_39 : decode cX12_cannotClaim 39 = .ok (.ifCond .eq 14, 3) := by decide +kernel
theorem dX12_cannotClaim_42 : decode cX12_cannotClaim 42 = .ok (.aload_n 0, 1) := by decide +kernel
theorem dX12_cannotClaim_43 : decode cX12_cannotClaim 43 = .ok (.getfield 7, 3) := by decide +kernel
theorem dX12_cannotClaim_46 : decode cX12_cannotClaim 46 = .ok (.iconst 1, 1) := by decide +kernel
theorem dX12_cannotClaim_47 : decode cX12_cannotClaim 47 = .ok (.iaload, 1) := by decide +kernel
theorem dX12_cannotClaim_48 : decode cX12_cannotClaim 48 = .ok (.bipush 12, 2) := by decide +kernel
theorem dX12_cannotClaim_50 : decode cX12_cannotClaim 50 = .ok (.if_icmp .ne 5, 3) := by decide +kernel
theorem dX12_cannotClaim_53 : decode cX12_cannotClaim 53 = .ok (.iconst 3, 1) := by decide +kernel
theorem dX12_cannotClaim_54 : decode cX12_cannotClaim 54 = .ok (.ireturn, 1) := by decide +kernel
theorem dX12_cannotClaim_55 : decode cX12_cannotClaim 55 = .ok (.aload_n 0, 1) := by decide +kernel
theorem dX12_cannotClaim_56 : decode cX12_cannotClaim 56 = .ok (.iload 4, 2) := by decide +kernel
theorem dX12_cannotClaim_58 : decode cX12_cannotClaim 58 = .ok (.iload_n 2, 1) := by decide +kernel
theorem dX12_cannotClaim_59 : decode cX12_cannotClaim 59 = .ok (.iload_n 3, 1) := by decide +kernel
theorem dX12_cannotClaim_60 : decode cX12_cannotClaim 60 = .ok (.invokevirtual 155, 3) := by decide +kernel
theorem dX12_cannotClaim_63 : decode cX12_cannotClaim 63 = .ok (.ifCond .gt 7, 3) := by decide +kernel
theorem dX12_cannotClaim_66 : decode cX12_cannotClaim 66 = .ok (.iconst 4, 1) := by decide +kernel
theorem dX12_cannotClaim_67 : decode cX12_cannotClaim 67 = .ok (.goto 4, 3) := by decide +kernel
theorem dX12_cannotClaim_70 : decode cX12_cannotClaim 70 = .ok (.iconst 0, 1) := by decide +kernel
theorem dX12_cannotClaim_71 : decode cX12_cannotClaim 71 = .ok (.ireturn, 1) := by decide +kernel
theorem dX12_claims_0 : decode cX12_claims 0 = .ok (.aload_n 0, 1) := by decide +kernel
theorem dX12_claims_1 : decode cX12_claims 1 = .ok (.iload_n 1, 1) := by decide +kernel
theorem dX12_claims_2 : decode cX12_claims 2 = .ok (.invokevirtual 107, 3) := by decide +kernel
theorem dX12_claims_5 : decode cX12_claims 5 = .ok (.istore 4, 2) := by decide +kernel
theorem dX12_claims_7 : decode cX12_claims 7 = .ok (.aload_n 0, 1) := by decide +kernel
theorem dX12_claims_8 : decode cX12_claims 8 = .ok (.iload 4, 2) := by decide +kernel
theorem dX12_claims_10 : decode cX12_claims 10 = .ok (.iload_n 2, 1) := by decide +kernel
theorem dX12_claims_11 : decode cX12_claims 11 = .ok (.iload_n 3, 1) := by decide +kernel
theorem dX12_claims_12 : decode cX12_claims 12 = .ok (.invokevirtual 155, 3) := by decide +kernel
theorem dX12_claims_15 : decode cX12_claims 15 = .ok (.istore 5, 2) := by decide +kernel
theorem dX12_claims_17 : decode cX12_claims 17 = .ok (.bipush 72, 2) := by decide +kernel
theorem dX12_claims_19 : decode cX12_claims 19 = .ok (.bipush 12, 2) := by decide +kernel
theorem dX12_claims_21 : decode cX12_claims 21 = .ok (.aload_n 0, 1) := by decide +kernel
theorem dX12_claims_22 : decode cX12_claims 22 = .ok (.getfield 7, 3) := by decide +kernel
theorem dX12_claims_25 : decode cX12_claims 25 = .ok (.iconst 1, 1) := by decide +kernel
theorem dX12_claims_26 : decode cX12_claims 26 = .ok (.iaload, 1) := by decide +kernel
theorem dX12_claims_27 : decode cX12_claims 27 = .ok (.imul, 1) := by decide +kernel
theorem dX12_claims_28 : decode cX12_claims 28 = .ok (.iadd, 1) := by decide +kernel
theorem dX12_claims_29 : decode cX12_claims 29 = .ok (.istore 6, 2) := by decide +kernel
theorem dX12_claims_31 : decode cX12_claims 31 = .ok (.aload_n 0, 1) := by decide +kernel
theorem dX12_claims_32 : decode cX12_claims 32 = .ok (.iload 5, 2) := by decide +kernel
theorem dX12_claims_34 : decode cX12_claims 34 = .ok (.invokevirtual 158, 3) := by decide +kernel
theorem dX12_claims_37 : decode cX12_claims 37 = .ok (.istore 7, 2) := by decide +kernel
theorem dX12_claims_39 : decode cX12_claims 39 = .ok (.aload_n 0, 1) := by decide +kernel
theorem dX12_claims_40 : decode cX12_claims 40 = .ok (.getfield 7, 3) := by decide +kernel
theorem dX12_claims_43 : decode cX12_claims 43 = .ok (.iload 6, 2) := by decide +kernel
theorem dX12_claims_45 : decode cX12_claims 45 = .ok (.iconst 0, 1) := by decide +kernel
theorem dX12_claims_46 : decode cX12_claims 46 = .ok (.iadd, 1) := by decide +kernel
theorem dX12_claims_47 : decode cX12_claims 47 = .ok (.aload_n 0, 1) := by decide +kernel
theorem dX12_claims_48 : decode cX12_claims 48 = .ok (.getfield 7, 3) := by decide +kernel
theorem dX12_claims_51 : decode cX12_claims 51 = .ok (.iconst 5, 1) := by decide +kernel
theorem dX12_claims_52 : decode cX12_claims 52 = .ok (.iaload, 1) := by decide +kernel
theorem dX12_claims_53 : decode cX12_claims 53 = .ok (.iastore, 1) := by decide +kernel
theorem dX12_claims_54 : decode cX12_claims 54 = .ok (.aload_n 0, 1) := by decide +kernel
theorem dX12_claims_55 : decode cX12_claims 55 = .ok (.getfield 7, 3) := by decide +kernel
theorem dX12_claims_58 : decode cX12_claims 58 = .ok (.iload 6, 2) := by decide +kernel
theorem dX12_claims_60 : decode cX12_claims 60 = .ok (.iconst 1, 1) := by decide +kernel
theorem dX12_claims_61 : decode cX12_claims 61 = .ok (.iadd, 1) := by decide +kernel
theorem dX12_claims_62 : decode cX12_claims 62 = .ok (.iload_n 1, 1) := by decide +kernel
theorem dX12_claims_63 : decode cX12_claims 63 = .ok (.iastore, 1) := by decide +kernel
theorem dX12_claims_64 : decode cX12_claims 64 = .ok (.aload_n 0, 1) := by decide +kernel
theorem dX12_claims_65 : decode cX12_claims 65 = .ok (.getfield 7, 3) := by decide +kernel
theorem dX12_claims_68 : decode cX12_claims 68 = .ok (.iload 6, 2) := by decide +kernel
theorem dX12_claims_70 : decode cX12_claims 70 = .ok (.iconst 2, 1) := by decide +kernel
theorem dX12_claims_71 : decode cX12_claims 71 = .ok (.iadd, 1) := by decide +kernel
theorem dX12_claims_72 : decode cX12_claims 72 = .ok (.iload_n 2, 1) := by decide +kernel
theorem dX12_claims_73 : decode cX12_claims 73 = .ok (.iastore, 1) := by decide +kernel
theorem dX12_claims_74 : decode cX12_claims 74 = .ok (.aload_n 0, 1) := by decide +kernel
theorem dX12_claims_75 : decode cX12_claims 75 = .ok (.getfield 7, 3) := by decide +kernel
theorem dX12_claims_78 : decode cX12_claims 78 = .ok (.iload 6, 2) := by decide +kernel
theorem dX12_claims_80 : decode cX12_claims 80 = .ok (.iconst 3, 1) := by decide +kernel
theorem dX12_claims_81 : decode cX12_claims 81 = .ok (.iadd, 1) := by decide +kernel
theorem dX12_claims_82 : decode cX12_claims 82 = .ok (.iload 5, 2) := by decide +kernel
theorem dX12_claims_84 : decode cX12_claims 84 = .ok (.iastore, 1) := by decide +kernel
theorem dX12_claims_85 : decode cX12_claims 85 = .ok (.aload_n 0, 1) := by decide +kernel
theorem dX12_claims_86 : decode cX12_claims 86 = .ok (.getfield 7, 3) := by decide +kernel
theorem dX12_claims_89 : decode cX12_claims 89 = .ok (.iload 6, 2) := by decide +kernel
theorem dX12_claims_91 : decode cX12_claims 91 = .ok (.iconst 4, 1) := by decide +kernel
theorem dX12_claims_92 : decode cX12_claims 92 = .ok (.iadd, 1) := by decide +kernel
theorem dX12_claims_93 : decode cX12_claims 93 = .ok (.iconst 0, 1) := by decide +kernel
theorem dX12_claims_94 : decode cX12_claims 94 = .ok (.iastore, 1) := by decide +kernel
theorem dX12_claims_95 : decode cX12_claims 95 = .ok (.aload_n 0, 1) := by decide +kernel
theorem dX12_claims_96 : decode cX12_claims 96 = .ok (.getfield 7, 3) := by decide +kernel
theorem dX12_claims_99 : decode cX12_claims 99 = .ok (.iload 6, 2) := by decide +kernel
theorem dX12_claims_101 : decode cX12_claims 101 = .ok (.iconst 5, 1) := by decide +kernel
theorem dX12_claims_102 : decode cX12_claims 102 = .ok (.iadd, 1) := by decide +kernel
theorem dX12_claims_103 : decode cX12_claims 103 = .ok (.aload_n 0, 1) := by decide +kernel
theorem dX12_claims_104 : decode cX12_claims 104 = .ok (.getfield 7, 3) := by decide +kernel
theorem dX12_claims_107 : decode cX12_claims 107 = .ok (.bipush 6, 2) := by decide +kernel
theorem dX12_claims_109 : decode cX12_claims 109 = .ok (.iaload, 1) := by decide +kernel
theorem dX12_claims_110 : decode cX12_claims 110 = .ok (.iastore, 1) := by decide +kernel
theorem dX12_claims_111 : decode cX12_claims 111 = .ok (.iconst 0, 1) := by decide +kernel
theorem dX12_claims_112 : decode cX12_claims 112 = .ok (.istore 8, 2) := by decide +kernel
theorem dX12_claims_114 : decode cX12_claims 114 = .ok (.iload 8, 2) := by decide +kernel
theorem dX12_claims_116 : decode cX12_claims 116 = .ok (.iconst 4, 1) := by decide +kernel
theorem dX12_claims_117 : decode cX12_claims 117 = .ok (.if_icmp .ge 29, 3) := by decide +kernel
theorem dX12_claims_120 : decode cX12_claims 120 = .ok (.aload_n 0, 1) := by decide +kernel
theorem dX12_claims_121 : decode cX12_claims 121 = .ok (.getfield 7, 3) := by decide +kernel
theorem dX12_claims_124 : decode cX12_claims 124 = .ok (.iload 6, 2) := by decide +kernel
theorem dX12_claims_126 : decode cX12_claims 126 = .ok (.bipush 6, 2) := by decide +kernel
theorem dX12_claims_128 : decode cX12_claims 128 = .ok (.iadd, 1) := by decide +kernel
theorem dX12_claims_129 : decode cX12_claims 129 = .ok (.iload 8, 2) := by decide +kernel
theorem dX12_claims_131 : decode cX12_claims 131 = .ok (.iadd, 1) := by decide +kernel
theorem dX12_claims_132 : decode cX12_claims 132 = .ok (.aload_n 0, 1) := by decide +kernel
theorem dX12_claims_133 : decode cX12_claims 133 = .ok (.getfield 22, 3) := by decide +kernel
theorem dX12_claims_136 : decode cX12_claims 136 = .ok (.iload 8, 2) := by decide +kernel
theorem dX12_claims_138 : decode cX12_claims 138 = .ok (.iaload, 1) := by decide +kernel
theorem dX12_claims_139 : decode cX12_claims 139 = .ok (.iastore, 1) := by decide +kernel
theorem dX12_claims_140 : decode cX12_claims 140 = .ok (.iinc 8 1, 3) := by decide +kernel
theorem dX12_claims_143 : decode cX12_claims 143 = .ok (.goto (-29), 3) := by decide +kernel
theorem dX12_claims_146 : decode cX12_claims 146 = .ok (.iconst 0, 1) := by decide +kernel
theorem dX12_claims_147 : decode cX12_claims 147 = .ok (.istore 8, 2) := by decide +kernel
theorem dX12_claims_149 : decode cX12_claims 149 = .ok (.iload 8, 2) := by decide +kernel
theorem dX12_claims_151 : decode cX12_claims 151 = .ok (.aload_n 0, 1) := by decide +kernel
theorem dX12_claims_152 : decode cX12_claims 152 = .ok (.getfield 7, 3) := by decide +kernel
theorem dX12_claims_155 : decode cX12_claims 155 = .ok (.iconst 2, 1) := by decide +kernel
theorem dX12_claims_156 : decode cX12_claims 156 = .ok (.iaload, 1) := by decide +kernel
theorem dX12_claims_157 : decode cX12_claims 157 = .ok (.if_icmp .ge 31, 3) := by decide +kernel
theorem dX12_claims_160 : decode cX12_claims 160 = .ok (.aload_n 0, 1) := by decide +kernel
theorem dX12_claims_161 : decode cX12_claims 161 = .ok (.getfield 7, 3) := by decide +kernel
theorem dX12_claims_164 : decode cX12_claims 164 = .ok (.sipush 216, 3) := by decide +kernel
theorem dX12_claims_167 : decode cX12_claims 167 = .ok (.iconst 4, 1) := by decide +kernel
theorem dX12_claims_168 : decode cX12_claims 168 = .ok (.iload 8, 2) := by decide +kernel
theorem dX12_claims_170 : decode cX12_claims 170 = .ok (.imul, 1) := by decide +kernel
theorem dX12_claims_171 : decode cX12_claims 171 = .ok (.iadd, 1) := by decide +kernel
theorem dX12_claims_172 : decode cX12_claims 172 = .ok (.iconst 2, 1) := by decide +kernel
theorem dX12_claims_173 : decode cX12_claims 173 = .ok (.iadd, 1) := by decide +kernel
theorem dX12_claims_174 : decode cX12_claims 174 = .ok (.aload_n 0, 1) := by decide +kernel
theorem dX12_claims_175 : decode cX12_claims 175 = .ok (.getfield 25, 3) := by decide +kernel
theorem dX12_claims_178 : decode cX12_claims 178 = .ok (.iload 8, 2) := by decide +kernel
theorem dX12_claims_180 : decode cX12_claims 180 = .ok (.iaload, 1) := by decide +kernel
theorem dX12_claims_181 : decode cX12_claims 181 = .ok (.iastore, 1) := by decide +kernel
theorem dX12_claims_182 : decode cX12_claims 182 = .ok (.iinc 8 1, 3) := by decide +kernel
theorem dX12_claims_185 : decode cX12_claims 185 = .ok (.goto (-36), 3) := by decide +kernel
theorem dX12_claims_188 : decode cX12_claims 188 = .ok (.aload_n 0, 1) := by decide +kernel
theorem dX12_claims_189 : decode cX12_claims 189 = .ok (.getfield 7, 3) := by decide +kernel
theorem dX12_claims_192 : decode cX12_claims 192 = .ok (.bipush 8, 2) := by decide +kernel
theorem dX12_claims_194 : decode cX12_claims 194 = .ok (.bipush 8, 2) := by decide +kernel
theorem dX12_claims_196 : decode cX12_claims 196 = .ok (.iload 4, 2) := by decide +kernel
theorem dX12_claims_198 : decode cX12_claims 198 = .ok (.imul, 1) := by decide +kernel
theorem dX12_claims_199 : decode cX12_claims 199 = .ok (.iadd, 1) := by decide +kernel
theorem dX12_claims_200 : decode cX12_claims 200 = .ok (.bipush 6, 2) := by decide +kernel
theorem dX12_claims_202 : decode cX12_claims 202 = .ok (.iadd, 1) := by decide +kernel
theorem dX12_claims_203 : decode cX12_claims 203 = .ok (.dup2, 1) := by decide +kernel
theorem dX12_claims_204 : decode cX12_claims 204 = .ok (.iaload, 1) := by decide +kernel
theorem dX12_claims_205 : decode cX12_claims 205 = .ok (.iload 5, 2) := by decide +kernel
theorem dX12_claims_207 : decode cX12_claims 207 = .ok (.iadd, 1) := by decide +kernel
theorem dX12_claims_208 : decode cX12_claims 208 = .ok (.iastore, 1) := by decide +kernel
theorem dX12_claims_209 : decode cX12_claims 209 = .ok (.aload_n 0, 1) := by decide +kernel
theorem dX12_claims_210 : decode cX12_claims 210 = .ok (.getfield 7, 3) := by decide +kernel
theorem dX12_claims_213 : decode cX12_claims 213 = .ok (.iconst 1, 1) := by decide +kernel
theorem dX12_claims_214 : decode cX12_claims 214 = .ok (.dup2, 1) := by decide +kernel
theorem dX12_claims_215 : decode cX12_claims 215 = .ok (.iaload, 1) := by decide +kernel
theorem dX12_claims_216 : decode cX12_claims 216 = .ok (.iconst 1, 1) := by decide +kernel
theorem dX12_claims_217 : decode cX12_claims 217 = .ok (.iadd, 1) := by decide +kernel
theorem dX12_claims_218 : decode cX12_claims 218 = .ok (.iastore, 1) := by decide +kernel
theorem dX12_claims_219 : decode cX12_claims 219 = .ok (.aload_n 0, 1) := by decide +kernel
theorem dX12_claims_220 : decode cX12_claims 220 = .ok (.getfield 7, 3) := by decide +kernel
theorem dX12_claims_223 : decode cX12_claims 223 = .ok (.iconst 5, 1) := by decide +kernel
theorem dX12_claims_224 : decode cX12_claims 224 = .ok (.dup2, 1) := by decide +kernel
theorem dX12_claims_225 : decode cX12_claims 225 = .ok (.iaload, 1) := by decide +kernel
theorem dX12_claims_226 : decode cX12_claims 226 = .ok (.iconst 1, 1) := by decide +kernel
theorem dX12_claims_227 : decode cX12_claims 227 = .ok (.iadd, 1) := by decide +kernel
theorem dX12_claims_228 : decode cX12_claims 228 = .ok (.iastore, 1) := by decide +kernel
theorem dX12_claims_229 : decode cX12_claims 229 = .ok (.aload_n 0, 1) := by decide +kernel
theorem dX12_claims_230 : decode cX12_claims 230 = .ok (.getfield 7, 3) := by decide +kernel
theorem dX12_claims_233 : decode cX12_claims 233 = .ok (.iconst 5, 1) := by decide +kernel
theorem dX12_claims_234 : decode cX12_claims 234 = .ok (.iaload, 1) := by decide +kernel
theorem dX12_claims_235 : decode cX12_claims 235 = .ok (.iconst 1, 1) := by decide +kernel
theorem dX12_claims_236 : decode cX12_claims 236 = .ok (.isub, 1) := by decide +kernel
theorem dX12_claims_237 : decode cX12_claims 237 = .ok (.ireturn, 1) := by decide +kernel
theorem dX12_claim__0 : decode cX12_claim_ 0 = .ok (.aload_n 0, 1) := by decide +kernel
theorem dX12_claim__1 : decode cX12_claim_ 1 = .ok (.invokevirtual 87, 3) := by decide +kernel
theorem dX12_claim__4 : decode cX12_claim_ 4 = .ok (.aload_n 0, 1) := by decide +kernel
theorem dX12_claim__5 : decode cX12_claim_ 5 = .ok (.iload_n 1, 1) := by decide +kernel
theorem dX12_claim__6 : decode cX12_claim_ 6 = .ok (.iload_n 2, 1) := by decide +kernel
theorem dX12_claim__7 : decode cX12_claim_ 7 = .ok (.iload_n 3, 1) := by decide +kernel
theorem dX12_claim__8 : decode cX12_claim_ 8 = .ok (.invokevirtual 161, 3) := by decide +kernel
theorem dX12_claim__11 : decode cX12_claim_ 11 = .ok (.istore 4, 2) := by decide +kernel
theorem dX12_claim__13 : decode cX12_claim_ 13 = .ok (.iload 4, 2) := by decide +kernel
theorem dX12_claim__15 : decode cX12_claim_ 15 = .ok (.ifCond .le 12, 3) := by decide +kernel
theorem dX12_claim__18 : decode cX12_claim_ 18 = .ok (.aload_n 0, 1) := by decide +kernel
theorem dX12_claim__19 : decode cX12_claim_ 19 = .ok (.iload 4, 2) := by decide +kernel
theorem dX12_claim__21 : decode cX12_claim_ 21 = .ok (.invokevirtual 94, 3) := by decide +kernel
theorem dX12_claim__24 : decode cX12_claim_ 24 = .ok (.goto 14, 3) := by decide +kernel
theorem dX12_claim__27 : decode cX12_claim_ 27 = .ok (.aload_n 0, 1) := by decide +kernel
theorem dX12_claim__28 : decode cX12_claim_ 28 = .ok (.aload_n 0, 1) := by decide +kernel
theorem dX12_claim__29 : decode cX12_claim_ 29 = .ok (.iload_n 1, 1) := by decide +kernel
theorem dX12_claim__30 : decode cX12_claim_ 30 = .ok (.iload_n 2, 1) := by decide +kernel
theorem dX12_claim__31 : decode cX12_claim_ 31 = .ok (.iload_n 3, 1) := by decide +kernel
theorem dX12_claim__32 : decode cX12_claim_ 32 = .ok (.invokevirtual 164, 3) := by decide +kernel
theorem dX12_claim__35 : decode cX12_claim_ 35 = .ok (.invokevirtual 101, 3) := by decide +kernel
theorem dX12_claim__38 : decode cX12_claim_ 38 = .ok (.ireturn, 1) := by decide +kernel
theorem dX12_cannotPay_0 : decode cX12_cannotPay 0 = .ok (.aload_n 0, 1) := by decide +kernel
theorem dX12_cannotPay_1 : decode cX12_cannotPay 1 = .ok (.iload_n 1, 1) := by decide +kernel
theorem dX12_cannotPay_2 : decode cX12_cannotPay 2 = .ok (.invokevirtual 167, 3) := by decide +kernel
theorem dX12_cannotPay_5 : decode cX12_cannotPay 5 = .ok (.istore_n 3, 1) := by decide +kernel
theorem dX12_cannotPay_6 : decode cX12_cannotPay 6 = .ok (.iload_n 3, 1) := by decide +kernel
theorem dX12_cannotPay_7 : decode cX12_cannotPay 7 = .ok (.ifCond .ge 5, 3) := by decide +kernel
theorem dX12_cannotPay_10 : decode cX12_cannotPay 10 = .ok (.iconst 1, 1) := by decide +kernel
theorem dX12_cannotPay_11 : decode cX12_cannotPay 11 = .ok (.ireturn, 1) := by decide +kernel
theorem dX12_cannotPay_12 : decode cX12_cannotPay 12 = .ok (.iload_n 2, 1) := by decide +kernel
theorem dX12_cannotPay_13 : decode cX12_cannotPay 13 = .ok (.iconst 1, 1) := by decide +kernel
theorem dX12_cannotPay_14 : decode cX12_cannotPay 14 = .ok (.bipush 99, 2) := by decide +kernel
theorem dX12_cannotPay_16 : decode cX12_cannotPay 16 = .ok (.invokestatic 83, 3) := by decide +kernel
theorem dX12_cannotPay_19 : decode cX12_cannotPay 19 = .ok (.ifCond .ne 5, 3) := by decide +kernel
theorem dX12_cannotPay_22 : decode cX12_cannotPay 22 = .ok (.iconst 2, 1) := by decide +kernel
theorem dX12_cannotPay_23 : decode cX12_cannotPay 23 = .ok (.ireturn, 1) := by decide +kernel
theorem dX12_cannotPay_24 : decode cX12_cannotPay 24 = .ok (.aload_n 0, 1) := by decide +kernel
theorem dX12_cannotPay_25 : decode cX12_cannotPay 25 = .ok (.iload_n 3, 1) := by decide +kernel
theorem dX12_cannotPay_26 : decode cX12_cannotPay 26 = .ok (.iconst 3, 1) := by decide +kernel
theorem dX12_cannotPay_27 : decode cX12_cannotPay 27 = .ok (.invokevirtual 104, 3) := by decide +kernel
theorem dX12_cannotPay_30 : decode cX12_cannotPay 30 = .ok (.aload_n 0, 1) := by decide +kernel
theorem dX12_cannotPay_31 : decode cX12_cannotPay 31 = .ok (.iload_n 3, 1) := by decide +kernel
theorem dX12_cannotPay_32 : decode cX12_cannotPay 32 = .ok (.iconst 4, 1) := by decide +kernel
theorem dX12_cannotPay_33 : decode cX12_cannotPay 33 = .ok (.invokevirtual 104, 3) := by decide +kernel
theorem dX12_cannotPay_36 : decode cX12_cannotPay 36 = .ok (.isub, 1) := by decide +kernel
theorem dX12_cannotPay_37 : decode cX12_cannotPay 37 = .ok (.iload_n 2, 1) := by decide +kernel
theorem dX12_cannotPay_38 : decode cX12_cannotPay 38 = .ok (.if_icmp .ge 7, 3) := by decide +kernel
theorem dX12_cannotPay_41 : decode cX12_cannotPay 41 = .ok (.iconst 3, 1) := by decide +kernel
theorem dX12_cannotPay_42 : decode cX12_cannotPay 42 = .ok (.goto 4, 3) := by decide +kernel
theorem dX12_cannotPay_45 : decode cX12_cannotPay 45 = .ok (.iconst 0, 1) := by decide +kernel
theorem dX12_cannotPay_46 : decode cX12_cannotPay 46 = .ok (.ireturn, 1) := by decide +kernel
theorem dX12_pays_0 : decode cX12_pays 0 = .ok (.aload_n 0, 1) := by decide +kernel
theorem dX12_pays_1 : decode cX12_pays 1 = .ok (.iload_n 1, 1) := by decide +kernel
theorem dX12_pays_2 : decode cX12_pays 2 = .ok (.invokevirtual 167, 3) := by decide +kernel
theorem dX12_pays_5 : decode cX12_pays 5 = .ok (.istore_n 3, 1) := by decide +kernel
theorem dX12_pays_6 : decode cX12_pays 6 = .ok (.aload_n 0, 1) := by decide +kernel
theorem dX12_pays_7 : decode cX12_pays 7 = .ok (.iload_n 3, 1) := by decide +kernel
theorem dX12_pays_8 : decode cX12_pays 8 = .ok (.invokevirtual 170, 3) := by decide +kernel
theorem dX12_pays_11 : decode cX12_pays 11 = .ok (.istore 4, 2) := by decide +kernel
theorem dX12_pays_13 : decode cX12_pays 13 = .ok (.aload_n 0, 1) := by decide +kernel
theorem dX12_pays_14 : decode cX12_pays 14 = .ok (.getfield 7, 3) := by decide +kernel
theorem dX12_pays_17 : decode cX12_pays 17 = .ok (.bipush 72, 2) := by decide +kernel
theorem dX12_pays_19 : decode cX12_pays 19 = .ok (.bipush 12, 2) := by decide +kernel
theorem dX12_pays_21 : decode cX12_pays 21 = .ok (.iload_n 3, 1) := by decide +kernel
theorem dX12_pays_22 : decode cX12_pays 22 = .ok (.imul, 1) := by decide +kernel
theorem dX12_pays_23 : decode cX12_pays 23 = .ok (.iadd, 1) := by decide +kernel
theorem dX12_pays_24 : decode cX12_pays 24 = .ok (.iconst 4, 1) := by decide +kernel
theorem dX12_pays_25 : decode cX12_pays 25 = .ok (.iadd, 1) := by decide +kernel
theorem dX12_pays_26 : decode cX12_pays 26 = .ok (.dup2, 1) := by decide +kernel
theorem dX12_pays_27 : decode cX12_pays 27 = .ok (.iaload, 1) := by decide +kernel
theorem dX12_pays_28 : decode cX12_pays 28 = .ok (.iload_n 2, 1) := by decide +kernel
theorem dX12_pays_29 : decode cX12_pays 29 = .ok (.iadd, 1) := by decide +kernel
theorem dX12_pays_30 : decode cX12_pays 30 = .ok (.iastore, 1) := by decide +kernel
theorem dX12_pays_31 : decode cX12_pays 31 = .ok (.aload_n 0, 1) := by decide +kernel
theorem dX12_pays_32 : decode cX12_pays 32 = .ok (.iload_n 3, 1) := by decide +kernel
theorem dX12_pays_33 : decode cX12_pays 33 = .ok (.invokevirtual 170, 3) := by decide +kernel
theorem dX12_pays_36 : decode cX12_pays 36 = .ok (.iload 4, 2) := by decide +kernel
theorem dX12_pays_38 : decode cX12_pays 38 = .ok (.isub, 1) := by decide +kernel
theorem dX12_pays_39 : decode cX12_pays 39 = .ok (.istore 5, 2) := by decide +kernel
theorem dX12_pays_41 : decode cX12_pays 41 = .ok (.aload_n 0, 1) := by decide +kernel
theorem dX12_pays_42 : decode cX12_pays 42 = .ok (.getfield 7, 3) := by decide +kernel
theorem dX12_pays_45 : decode cX12_pays 45 = .ok (.bipush 7, 2) := by decide +kernel
theorem dX12_pays_47 : decode cX12_pays 47 = .ok (.dup2, 1) := by decide +kernel
theorem dX12_pays_48 : decode cX12_pays 48 = .ok (.iaload, 1) := by decide +kernel
theorem dX12_pays_49 : decode cX12_pays 49 = .ok (.iload 5, 2) := by decide +kernel
theorem dX12_pays_51 : decode cX12_pays 51 = .ok (.iload_n 2, 1) := by decide +kernel
theorem dX12_pays_52 : decode cX12_pays 52 = .ok (.isub, 1) := by decide +kernel
theorem dX12_pays_53 : decode cX12_pays 53 = .ok (.iadd, 1) := by decide +kernel
theorem dX12_pays_54 : decode cX12_pays 54 = .ok (.iastore, 1) := by decide +kernel
theorem dX12_pays_55 : decode cX12_pays 55 = .ok (.aload_n 0, 1) := by decide +kernel
theorem dX12_pays_56 : decode cX12_pays 56 = .ok (.iload_n 3, 1) := by decide +kernel
theorem dX12_pays_57 : decode cX12_pays 57 = .ok (.iconst 5, 1) := by decide +kernel
theorem dX12_pays_58 : decode cX12_pays 58 = .ok (.invokevirtual 104, 3) := by decide +kernel
theorem dX12_pays_61 : decode cX12_pays 61 = .ok (.bipush 10, 2) := by decide +kernel
theorem dX12_pays_63 : decode cX12_pays 63 = .ok (.idiv, 1) := by decide +kernel
theorem dX12_pays_64 : decode cX12_pays 64 = .ok (.istore 6, 2) := by decide +kernel
theorem dX12_pays_66 : decode cX12_pays 66 = .ok (.aload_n 0, 1) := by decide +kernel
theorem dX12_pays_67 : decode cX12_pays 67 = .ok (.getfield 7, 3) := by decide +kernel
theorem dX12_pays_70 : decode cX12_pays 70 = .ok (.bipush 6, 2) := by decide +kernel
theorem dX12_pays_72 : decode cX12_pays 72 = .ok (.iaload, 1) := by decide +kernel
theorem dX12_pays_73 : decode cX12_pays 73 = .ok (.bipush 10, 2) := by decide +kernel
theorem dX12_pays_75 : decode cX12_pays 75 = .ok (.idiv, 1) := by decide +kernel
theorem dX12_pays_76 : decode cX12_pays 76 = .ok (.bipush 6, 2) := by decide +kernel
theorem dX12_pays_78 : decode cX12_pays 78 = .ok (.if_icmp .ge 35, 3) := by decide +kernel
theorem dX12_pays_81 : decode cX12_pays 81 = .ok (.aload_n 0, 1) := by decide +kernel
theorem dX12_pays_82 : decode cX12_pays 82 = .ok (.getfield 7, 3) := by decide +kernel
theorem dX12_pays_85 : decode cX12_pays 85 = .ok (.sipush 264, 3) := by decide +kernel
theorem dX12_pays_88 : decode cX12_pays 88 = .ok (.bipush 6, 2) := by decide +kernel
theorem dX12_pays_90 : decode cX12_pays 90 = .ok (.iload 6, 2) := by decide +kernel
theorem dX12_pays_92 : decode cX12_pays 92 = .ok (.imul, 1) := by decide +kernel
theorem dX12_pays_93 : decode cX12_pays 93 = .ok (.iadd, 1) := by decide +kernel
theorem dX12_pays_94 : decode cX12_pays 94 = .ok (.aload_n 0, 1) := by decide +kernel
theorem dX12_pays_95 : decode cX12_pays 95 = .ok (.getfield 7, 3) := by decide +kernel
theorem dX12_pays_98 : decode cX12_pays 98 = .ok (.bipush 6, 2) := by decide +kernel
theorem dX12_pays_100 : decode cX12_pays 100 = .ok (.iaload, 1) := by decide +kernel
theorem dX12_pays_101 : decode cX12_pays 101 = .ok (.bipush 10, 2) := by decide +kernel
theorem dX12_pays_103 : decode cX12_pays 103 = .ok (.idiv, 1) := by decide +kernel
theorem dX12_pays_104 : decode cX12_pays 104 = .ok (.iadd, 1) := by decide +kernel
theorem dX12_pays_105 : decode cX12_pays 105 = .ok (.iload 6, 2) := by decide +kernel
theorem dX12_pays_107 : decode cX12_pays 107 = .ok (.isub, 1) := by decide +kernel
theorem dX12_pays_108 : decode cX12_pays 108 = .ok (.dup2, 1) := by decide +kernel
theorem dX12_pays_109 : decode cX12_pays 109 = .ok (.iaload, 1) := by decide +kernel
theorem dX12_pays_110 : decode cX12_pays 110 = .ok (.iload_n 2, 1) := by decide +kernel
theorem dX12_pays_111 : decode cX12_pays 111 = .ok (.iadd, 1) := by decide +kernel
theorem dX12_pays_112 : decode cX12_pays 112 = .ok (.iastore, 1) := by decide +kernel
theorem dX12_pays_113 : decode cX12_pays 113 = .ok (.iload 5, 2) := by decide +kernel
theorem dX12_pays_115 : decode cX12_pays 115 = .ok (.ireturn, 1) := by decide +kernel
theorem dX12_pay_0 : decode cX12_pay 0 = .ok (.aload_n 0, 1) := by decide +kernel
theorem dX12_pay_1 : decode cX12_pay 1 = .ok (.invokevirtual 87, 3) := by decide +kernel
theorem dX12_pay_4 : decode cX12_pay 4 = .ok (.aload_n 0, 1) := by decide +kernel
theorem dX12_pay_5 : decode cX12_pay 5 = .ok (.iload_n 1, 1) := by decide +kernel
theorem dX12_pay_6 : decode cX12_pay 6 = .ok (.iload_n 2, 1) := by decide +kernel
theorem dX12_pay_7 : decode cX12_pay 7 = .ok (.invokevirtual 173, 3) := by decide +kernel
theorem dX12_pay_10 : decode cX12_pay 10 = .ok (.istore_n 3, 1) := by decide +kernel
theorem dX12_pay_11 : decode cX12_pay 11 = .ok (.iload_n 3, 1) := by decide +kernel
theorem dX12_pay_12 : decode cX12_pay 12 = .ok (.ifCond .le 11, 3) := by decide +kernel
theorem dX12_pay_15 : decode cX12_pay 15 = .ok (.aload_n 0, 1) := by decide +kernel
theorem dX12_pay_16 : decode cX12_pay 16 = .ok (.iload_n 3, 1) := by decide +kernel
theorem dX12_pay_17 : decode cX12_pay 17 = .ok (.invokevirtual 94, 3) := by decide +kernel
theorem dX12_pay_20 : decode cX12_pay 20 = .ok (.goto 13, 3) := by decide +kernel
theorem dX12_pay_23 : decode cX12_pay 23 = .ok (.aload_n 0, 1) := by decide +kernel
theorem dX12_pay_24 : decode cX12_pay 24 = .ok (.aload_n 0, 1) := by decide +kernel
theorem dX12_pay_25 : decode cX12_pay 25 = .ok (.iload_n 1, 1) := by decide +kernel
theorem dX12_pay_26 : decode cX12_pay 26 = .ok (.iload_n 2, 1) := by decide +kernel
theorem dX12_pay_27 : decode cX12_pay 27 = .ok (.invokevirtual 176, 3) := by decide +kernel
theorem dX12_pay_30 : decode cX12_pay 30 = .ok (.invokevirtual 101, 3) := by decide +kernel
theorem dX12_pay_33 : decode cX12_pay 33 = .ok (.ireturn, 1) := by decide +kernel
theorem dX12_removesClaim_0 : decode cX12_removesClaim 0 = .ok (.aload_n 0, 1) := by decide +kernel
theorem dX12_removesClaim_1 : decode cX12_removesClaim 1 = .ok (.iload_n 1, 1) := by decide +kernel
theorem dX12_removesClaim_2 : decode cX12_removesClaim 2 = .ok (.iconst 3, 1) := by decide +kernel
theorem dX12_removesClaim_3 : decode cX12_removesClaim 3 = .ok (.invokevirtual 104, 3) := by decide +kernel
theorem dX12_removesClaim_6 : decode cX12_removesClaim 6 = .ok (.istore_n 2, 1) := by decide +kernel
theorem dX12_removesClaim_7 : decode cX12_removesClaim 7 = .ok (.aload_n 0, 1) := by decide +kernel
theorem dX12_removesClaim_8 : decode cX12_removesClaim 8 = .ok (.getfield 7, 3) := by decide +kernel
theorem dX12_removesClaim_11 : decode cX12_removesClaim 11 = .ok (.iconst 1, 1) := by decide +kernel
theorem dX12_removesClaim_12 : decode cX12_removesClaim 12 = .ok (.dup2, 1) := by decide +kernel
theorem dX12_removesClaim_13 : decode cX12_removesClaim 13 = .ok (.iaload, 1) := by decide +kernel
theorem dX12_removesClaim_14 : decode cX12_removesClaim 14 = .ok (.iconst 1, 1) := by decide +kernel
theorem dX12_removesClaim_15 : decode cX12_removesClaim 15 = .ok (.isub, 1) := by decide +kernel
theorem dX12_removesClaim_16 : decode cX12_removesClaim 16 = .ok (.iastore, 1) := by decide +kernel
theorem dX12_removesClaim_17 : decode cX12_removesClaim 17 = .ok (.aload_n 0, 1) := by decide +kernel
theorem dX12_removesClaim_18 : decode cX12_removesClaim 18 = .ok (.bipush 72, 2) := by decide +kernel
theorem dX12_removesClaim_20 : decode cX12_removesClaim 20 = .ok (.bipush 12, 2) := by decide +kernel
theorem dX12_removesClaim_22 : decode cX12_removesClaim 22 = .ok (.iload_n 1, 1) := by decide +kernel
theorem dX12_removesClaim_23 : decode cX12_removesClaim 23 = .ok (.aload_n 0, 1) := by decide +kernel
theorem dX12_removesClaim_24 : decode cX12_removesClaim 24 = .ok (.getfield 7, 3) := by decide +kernel
theorem dX12_removesClaim_27 : decode cX12_removesClaim 27 = .ok (.iconst 1, 1) := by decide +kernel
theorem dX12_removesClaim_28 : decode cX12_removesClaim 28 = .ok (.iaload, 1) := by decide +kernel
theorem dX12_removesClaim_29 : decode cX12_removesClaim 29 = .ok (.invokevirtual 117, 3) := by decide +kernel
theorem dX12_removesClaim_32 : decode cX12_removesClaim 32 = .ok (.iload_n 2, 1) := by decide +kernel
theorem dX12_removesClaim_33 : decode cX12_removesClaim 33 = .ok (.ireturn, 1) := by decide +kernel
theorem dX12_cannotClose_0 : decode cX12_cannotClose 0 = .ok (.aload_n 0, 1) := by decide +kernel
theorem dX12_cannotClose_1 : decode cX12_cannotClose 1 = .ok (.iload_n 1, 1) := by decide +kernel
theorem dX12_cannotClose_2 : decode cX12_cannotClose 2 = .ok (.invokevirtual 167, 3) := by decide +kernel
theorem dX12_cannotClose_5 : decode cX12_cannotClose 5 = .ok (.ifCond .ge 7, 3) := by decide +kernel
theorem dX12_cannotClose_8 : decode cX12_cannotClose 8 = .ok (.iconst 1, 1) := by decide +kernel
theorem dX12_cannotClose_9 : decode cX12_cannotClose 9 = .ok (.goto 31, 3) := by decide +kernel
theorem dX12_cannotClose_12 : decode cX12_cannotClose 12 = .ok (.aload_n 0, 1) := by decide +kernel
theorem dX12_cannotClose_13 : decode cX12_cannotClose 13 = .ok (.aload_n 0, 1) := by decide +kernel
theorem dX12_cannotClose_14 : decode cX12_cannotClose 14 = .ok (.iload_n 1, 1) := by decide +kernel
theorem dX12_cannotClose_15 : decode cX12_cannotClose 15 = .ok (.invokevirtual 167, 3) := by decide +kernel
theorem dX12_cannotClose_18 : decode cX12_cannotClose 18 = .ok (.iconst 4, 1) := by decide +kernel
theorem dX12_cannotClose_19 : decode cX12_cannotClose 19 = .ok (.invokevirtual 104, 3) := by decide +kernel
theorem dX12_cannotClose_22 : decode cX12_cannotClose 22 = .ok (.aload_n 0, 1) := by decide +kernel
theorem dX12_cannotClose_23 : decode cX12_cannotClose 23 = .ok (.aload_n 0, 1) := by decide +kernel
theorem dX12_cannotClose_24 : decode cX12_cannotClose 24 = .ok (.iload_n 1, 1) := by decide +kernel
theorem dX12_cannotClose_25 : decode cX12_cannotClose 25 = .ok (.invokevirtual 167, 3) := by decide +kernel
theorem dX12_cannotClose_28 : decode cX12_cannotClose 28 = .ok (.iconst 3, 1) := by decide +kernel
theorem dX12_cannotClose_29 : decode cX12_cannotClose 29 = .ok (.invokevirtual 104, 3) := by decide +kernel
theorem dX12_cannotClose_32 : decode cX12_cannotClose 32 = .ok (.if_icmp .ge 7, 3) := by decide +kernel
theorem dX12_cannotClose_35 : decode cX12_cannotClose 35 = .ok (.iconst 2, 1) := by decide +kernel
theorem dX12_cannotClose_36 : decode cX12_cannotClose 36 = .ok (.goto 4, 3) := by decide +kernel
theorem dX12_cannotClose_39 : decode cX12_cannotClose 39 = .ok (.iconst 0, 1) := by decide +kernel
theorem dX12_cannotClose_40 : decode cX12_cannotClose 40 = .ok (.ireturn, 1) := by decide +kernel
theorem dX12_closeClaim_0 : decode cX12_closeClaim 0 = .ok (.aload_n 0, 1) := by decide +kernel
theorem dX12_closeClaim_1 : decode cX12_closeClaim 1 = .ok (.invokevirtual 87, 3) := by decide +kernel
theorem dX12_closeClaim_4 : decode cX12_closeClaim 4 = .ok (.aload_n 0, 1) := by decide +kernel
theorem dX12_closeClaim_5 : decode cX12_closeClaim 5 = .ok (.iload_n 1, 1) := by decide +kernel
theorem dX12_closeClaim_6 : decode cX12_closeClaim 6 = .ok (.invokevirtual 179, 3) := by decide +kernel
theorem dX12_closeClaim_9 : decode cX12_closeClaim 9 = .ok (.istore_n 2, 1) := by decide +kernel
theorem dX12_closeClaim_10 : decode cX12_closeClaim 10 = .ok (.iload_n 2, 1) := by decide +kernel
theorem dX12_closeClaim_11 : decode cX12_closeClaim 11 = .ok (.ifCond .le 11, 3) := by decide +kernel
theorem dX12_closeClaim_14 : decode cX12_closeClaim 14 = .ok (.aload_n 0, 1) := by decide +kernel
theorem dX12_closeClaim_15 : decode cX12_closeClaim 15 = .ok (.iload_n 2, 1) := by decide +kernel
theorem dX12_closeClaim_16 : decode cX12_closeClaim 16 = .ok (.invokevirtual 94, 3) := by decide +kernel
theorem dX12_closeClaim_19 : decode cX12_closeClaim 19 = .ok (.goto 16, 3) := by decide +kernel
theorem dX12_closeClaim_22 : decode cX12_closeClaim 22 = .ok (.aload_n 0, 1) := by decide +kernel
theorem dX12_closeClaim_23 : decode cX12_closeClaim 23 = .ok (.aload_n 0, 1) := by decide +kernel
theorem dX12_closeClaim_24 : decode cX12_closeClaim 24 = .ok (.aload_n 0, 1) := by decide +kernel
theorem dX12_closeClaim_25 : decode cX12_closeClaim 25 = .ok (.iload_n 1, 1) := by decide +kernel
theorem dX12_closeClaim_26 : decode cX12_closeClaim 26 = .ok (.invokevirtual 167, 3) := by decide +kernel
theorem dX12_closeClaim_29 : decode cX12_closeClaim 29 = .ok (.invokevirtual 182, 3) := by decide +kernel
theorem dX12_closeClaim_32 : decode cX12_closeClaim 32 = .ok (.invokevirtual 101, 3) := by decide +kernel
theorem dX12_closeClaim_35 : decode cX12_closeClaim 35 = .ok (.ireturn, 1) := by decide +kernel
theorem dX12_cannotWaive_0 : decode cX12_cannotWaive 0 = .ok (.aload_n 0, 1) := by decide +kernel
theorem dX12_cannotWaive_1 : decode cX12_cannotWaive 1 = .ok (.iload_n 1, 1) := by decide +kernel
theorem dX12_cannotWaive_2 : decode cX12_cannotWaive 2 = .ok (.invokevirtual 167, 3) := by decide +kernel
theorem dX12_cannotWaive_5 : decode cX12_cannotWaive 5 = .ok (.ifCond .ge 7, 3) := by decide +kernel
theorem dX12_cannotWaive_8 : decode cX12_cannotWaive 8 = .ok (.iconst 1, 1) := by decide +kernel
theorem dX12_cannotWaive_9 : decode cX12_cannotWaive 9 = .ok (.goto 21, 3) := by decide +kernel
theorem dX12_cannotWaive_12 : decode cX12_cannotWaive 12 = .ok (.aload_n 0, 1) := by decide +kernel
theorem dX12_cannotWaive_13 : decode cX12_cannotWaive 13 = .ok (.aload_n 0, 1) := by decide +kernel
theorem dX12_cannotWaive_14 : decode cX12_cannotWaive 14 = .ok (.iload_n 1, 1) := by decide +kernel
theorem dX12_cannotWaive_15 : decode cX12_cannotWaive 15 = .ok (.invokevirtual 167, 3) := by decide +kernel
theorem dX12_cannotWaive_18 : decode cX12_cannotWaive 18 = .ok (.iconst 4, 1) := by decide +kernel
theorem dX12_cannotWaive_19 : decode cX12_cannotWaive 19 = .ok (.invokevirtual 104, 3) := by decide +kernel
theorem dX12_cannotWaive_22 : decode cX12_cannotWaive 22 = .ok (.ifCond .le 7, 3) := by decide +kernel
theorem dX12_cannotWaive_25 : decode cX12_cannotWaive 25 = .ok (.iconst 2, 1) := by decide +kernel
theorem dX12_cannotWaive_26 : decode cX12_cannotWaive 26 = .ok (.goto 4, 3) := by decide +kernel
theorem dX12_cannotWaive_29 : decode cX12_cannotWaive 29 = .ok (.iconst 0, 1) := by decide +kernel
theorem dX12_cannotWaive_30 : decode cX12_cannotWaive 30 = .ok (.ireturn, 1) := by decide +kernel
theorem dX12_waives_0 : decode cX12_waives 0 = .ok (.aload_n 0, 1) := by decide +kernel
theorem dX12_waives_1 : decode cX12_waives 1 = .ok (.iload_n 1, 1) := by decide +kernel
theorem dX12_waives_2 : decode cX12_waives 2 = .ok (.invokevirtual 167, 3) := by decide +kernel
theorem dX12_waives_5 : decode cX12_waives 5 = .ok (.istore_n 2, 1) := by decide +kernel
theorem dX12_waives_6 : decode cX12_waives 6 = .ok (.iconst 0, 1) := by decide +kernel
theorem dX12_waives_7 : decode cX12_waives 7 = .ok (.istore_n 3, 1) := by decide +kernel
theorem dX12_waives_8 : decode cX12_waives 8 = .ok (.iload_n 3, 1) := by decide +kernel
theorem dX12_waives_9 : decode cX12_waives 9 = .ok (.aload_n 0, 1) := by decide +kernel
theorem dX12_waives_10 : decode cX12_waives 10 = .ok (.getfield 7, 3) := by decide +kernel
theorem dX12_waives_13 : decode cX12_waives 13 = .ok (.iconst 2, 1) := by decide +kernel
theorem dX12_waives_14 : decode cX12_waives 14 = .ok (.iaload, 1) := by decide +kernel
theorem dX12_waives_15 : decode cX12_waives 15 = .ok (.if_icmp .ge 35, 3) := by decide +kernel
theorem dX12_waives_18 : decode cX12_waives 18 = .ok (.aload_n 0, 1) := by decide +kernel
theorem dX12_waives_19 : decode cX12_waives 19 = .ok (.getfield 7, 3) := by decide +kernel
theorem dX12_waives_22 : decode cX12_waives 22 = .ok (.sipush 216, 3) := by decide +kernel
theorem dX12_waives_25 : decode cX12_waives 25 = .ok (.iconst 4, 1) := by decide +kernel
theorem dX12_waives_26 : decode cX12_waives 26 = .ok (.iload_n 3, 1) := by decide +kernel
theorem dX12_waives_27 : decode cX12_waives 27 = .ok (.imul, 1) := by decide +kernel
theorem dX12_waives_28 : decode cX12_waives 28 = .ok (.iadd, 1) := by decide +kernel
theorem dX12_waives_29 : decode cX12_waives 29 = .ok (.iconst 2, 1) := by decide +kernel
theorem dX12_waives_30 : decode cX12_waives 30 = .ok (.iadd, 1) := by decide +kernel
theorem dX12_waives_31 : decode cX12_waives 31 = .ok (.dup2, 1) := by decide +kernel
theorem dX12_waives_32 : decode cX12_waives 32 = .ok (.iaload, 1) := by decide +kernel
theorem dX12_waives_33 : decode cX12_waives 33 = .ok (.aload_n 0, 1) := by decide +kernel
theorem dX12_waives_34 : decode cX12_waives 34 = .ok (.iload_n 2, 1) := by decide +kernel
theorem dX12_waives_35 : decode cX12_waives 35 = .ok (.bipush 6, 2) := by decide +kernel
theorem dX12_waives_37 : decode cX12_waives 37 = .ok (.iload_n 3, 1) := by decide +kernel
theorem dX12_waives_38 : decode cX12_waives 38 = .ok (.iadd, 1) := by decide +kernel
theorem dX12_waives_39 : decode cX12_waives 39 = .ok (.invokevirtual 104, 3) := by decide +kernel
theorem dX12_waives_42 : decode cX12_waives 42 = .ok (.iadd, 1) := by decide +kernel
theorem dX12_waives_43 : decode cX12_waives 43 = .ok (.iastore, 1) := by decide +kernel
theorem dX12_waives_44 : decode cX12_waives 44 = .ok (.iinc 3 1, 3) := by decide +kernel
theorem dX12_waives_47 : decode cX12_waives 47 = .ok (.goto (-39), 3) := by decide +kernel
theorem dX12_waives_50 : decode cX12_waives 50 = .ok (.aload_n 0, 1) := by decide +kernel
theorem dX12_waives_51 : decode cX12_waives 51 = .ok (.getfield 7, 3) := by decide +kernel
theorem dX12_waives_54 : decode cX12_waives 54 = .ok (.bipush 8, 2) := by decide +kernel
theorem dX12_waives_56 : decode cX12_waives 56 = .ok (.bipush 8, 2) := by decide +kernel
theorem dX12_waives_58 : decode cX12_waives 58 = .ok (.aload_n 0, 1) := by decide +kernel
theorem dX12_waives_59 : decode cX12_waives 59 = .ok (.aload_n 0, 1) := by decide +kernel
theorem dX12_waives_60 : decode cX12_waives 60 = .ok (.iload_n 2, 1) := by decide +kernel
theorem dX12_waives_61 : decode cX12_waives 61 = .ok (.iconst 1, 1) := by decide +kernel
theorem dX12_waives_62 : decode cX12_waives 62 = .ok (.invokevirtual 104, 3) := by decide +kernel
theorem dX12_waives_65 : decode cX12_waives 65 = .ok (.invokevirtual 107, 3) := by decide +kernel
theorem dX12_waives_68 : decode cX12_waives 68 = .ok (.imul, 1) := by decide +kernel
theorem dX12_waives_69 : decode cX12_waives 69 = .ok (.iadd, 1) := by decide +kernel
theorem dX12_waives_70 : decode cX12_waives 70 = .ok (.bipush 6, 2) := by decide +kernel
theorem dX12_waives_72 : decode cX12_waives 72 = .ok (.iadd, 1) := by decide +kernel
theorem dX12_waives_73 : decode cX12_waives 73 = .ok (.dup2, 1) := by decide +kernel
theorem dX12_waives_74 : decode cX12_waives 74 = .ok (.iaload, 1) := by decide +kernel
theorem dX12_waives_75 : decode cX12_waives 75 = .ok (.aload_n 0, 1) := by decide +kernel
theorem dX12_waives_76 : decode cX12_waives 76 = .ok (.iload_n 2, 1) := by decide +kernel
theorem dX12_waives_77 : decode cX12_waives 77 = .ok (.iconst 3, 1) := by decide +kernel
theorem dX12_waives_78 : decode cX12_waives 78 = .ok (.invokevirtual 104, 3) := by decide +kernel
theorem dX12_waives_81 : decode cX12_waives 81 = .ok (.isub, 1) := by decide +kernel
theorem dX12_waives_82 : decode cX12_waives 82 = .ok (.iastore, 1) := by decide +kernel
theorem dX12_waives_83 : decode cX12_waives 83 = .ok (.aload_n 0, 1) := by decide +kernel
theorem dX12_waives_84 : decode cX12_waives 84 = .ok (.iload_n 2, 1) := by decide +kernel
theorem dX12_waives_85 : decode cX12_waives 85 = .ok (.invokevirtual 182, 3) := by decide +kernel
theorem dX12_waives_88 : decode cX12_waives 88 = .ok (.ireturn, 1) := by decide +kernel
theorem dX12_withdrawClaim_0 : decode cX12_withdrawClaim 0 = .ok (.aload_n 0, 1) := by decide +kernel
theorem dX12_withdrawClaim_1 : decode cX12_withdrawClaim 1 = .ok (.invokevirtual 87, 3) := by decide +kernel
theorem dX12_withdrawClaim_4 : decode cX12_withdrawClaim 4 = .ok (.aload_n 0, 1) := by decide +kernel
theorem dX12_withdrawClaim_5 : decode cX12_withdrawClaim 5 = .ok (.iload_n 1, 1) := by decide +kernel
theorem dX12_withdrawClaim_6 : decode cX12_withdrawClaim 6 = .ok (.invokevirtual 185, 3) := by decide +kernel
theorem dX12_withdrawClaim_9 : decode cX12_withdrawClaim 9 = .ok (.istore_n 2, 1) := by decide +kernel
theorem dX12_withdrawClaim_10 : decode cX12_withdrawClaim 10 = .ok (.iload_n 2, 1) := by decide +kernel
theorem dX12_withdrawClaim_11 : decode cX12_withdrawClaim 11 = .ok (.ifCond .le 11, 3) := by decide +kernel
theorem dX12_withdrawClaim_14 : decode cX12_withdrawClaim 14 = .ok (.aload_n 0, 1) := by decide +kernel
theorem dX12_withdrawClaim_15 : decode cX12_withdrawClaim 15 = .ok (.iload_n 2, 1) := by decide +kernel
theorem dX12_withdrawClaim_16 : decode cX12_withdrawClaim 16 = .ok (.invokevirtual 94, 3) := by decide +kernel
theorem dX12_withdrawClaim_19 : decode cX12_withdrawClaim 19 = .ok (.goto 12, 3) := by decide +kernel
theorem dX12_withdrawClaim_22 : decode cX12_withdrawClaim 22 = .ok (.aload_n 0, 1) := by decide +kernel
theorem dX12_withdrawClaim_23 : decode cX12_withdrawClaim 23 = .ok (.aload_n 0, 1) := by decide +kernel
theorem dX12_withdrawClaim_24 : decode cX12_withdrawClaim 24 = .ok (.iload_n 1, 1) := by decide +kernel
theorem dX12_withdrawClaim_25 : decode cX12_withdrawClaim 25 = .ok (.invokevirtual 188, 3) := by decide +kernel
theorem dX12_withdrawClaim_28 : decode cX12_withdrawClaim 28 = .ok (.invokevirtual 101, 3) := by decide +kernel
theorem dX12_withdrawClaim_31 : decode cX12_withdrawClaim 31 = .ok (.ireturn, 1) := by decide +kernel
theorem dX12_o_0 : decode cX12_o 0 = .ok (.aload_n 0, 1) := by decide +kernel
theorem dX12_o_1 : decode cX12_o 1 = .ok (.getfield 7, 3) := by decide +kernel
theorem dX12_o_4 : decode cX12_o 4 = .ok (.sipush 232, 3) := by decide +kernel
theorem dX12_o_7 : decode cX12_o 7 = .ok (.iconst 4, 1) := by decide +kernel
theorem dX12_o_8 : decode cX12_o 8 = .ok (.iload_n 1, 1) := by decide +kernel
theorem dX12_o_9 : decode cX12_o 9 = .ok (.imul, 1) := by decide +kernel
theorem dX12_o_10 : decode cX12_o 10 = .ok (.iadd, 1) := by decide +kernel
theorem dX12_o_11 : decode cX12_o 11 = .ok (.iload_n 2, 1) := by decide +kernel
theorem dX12_o_12 : decode cX12_o 12 = .ok (.iadd, 1) := by decide +kernel
theorem dX12_o_13 : decode cX12_o 13 = .ok (.iaload, 1) := by decide +kernel
theorem dX12_o_14 : decode cX12_o 14 = .ok (.ireturn, 1) := by decide +kernel
theorem dX12_areDays_0 : decode cX12_areDays 0 = .ok (.iload_n 0, 1) := by decide +kernel
theorem dX12_areDays_1 : decode cX12_areDays 1 = .ok (.iconst 0, 1) := by decide +kernel
theorem dX12_areDays_2 : decode cX12_areDays 2 = .ok (.bipush 99, 2) := by decide +kernel
theorem dX12_areDays_4 : decode cX12_areDays 4 = .ok (.invokestatic 83, 3) := by decide +kernel
theorem dX12_areDays_7 : decode cX12_areDays 7 = .ok (.ifCond .eq 22, 3) := by decide +kernel
theorem dX12_areDays_10 : decode cX12_areDays 10 = .ok (.iload_n 1, 1) := by decide +kernel
theorem dX12_areDays_11 : decode cX12_areDays 11 = .ok (.iconst 0, 1) := by decide +kernel
theorem dX12_areDays_12 : decode cX12_areDays 12 = .ok (.bipush 99, 2) := by decide +kernel
theorem dX12_areDays_14 : decode cX12_areDays 14 = .ok (.invokestatic 83, 3) := by decide +kernel
theorem dX12_areDays_17 : decode cX12_areDays 17 = .ok (.ifCond .eq 12, 3) := by decide +kernel
theorem dX12_areDays_20 : decode cX12_areDays 20 = .ok (.iload_n 0, 1) := by decide +kernel
theorem dX12_areDays_21 : decode cX12_areDays 21 = .ok (.iload_n 1, 1) := by decide +kernel
theorem dX12_areDays_22 : decode cX12_areDays 22 = .ok (.if_icmp .gt 7, 3) := by decide +kernel
theorem dX12_areDays_25 : decode cX12_areDays 25 = .ok (.iconst 1, 1) := by decide +kernel
theorem dX12_areDays_26 : decode cX12_areDays 26 = .ok (.goto 4, 3) := by decide +kernel
theorem dX12_areDays_29 : decode cX12_areDays 29 = .ok (.iconst 0, 1) := by decide +kernel
theorem dX12_areDays_30 : decode cX12_areDays 30 = .ok (.ireturn, 1) := by decide +kernel
theorem dX12_cannotOffer_0 : decode cX12_cannotOffer 0 = .ok (.iload_n 1, 1) := by decide +kernel
theorem dX12_cannotOffer_1 : decode cX12_cannotOffer 1 = .ok (.iload_n 2, 1) := by decide +kernel
theorem dX12_cannotOffer_2 : decode cX12_cannotOffer 2 = .ok (.invokestatic 191, 3) := by decide +kernel
theorem dX12_cannotOffer_5 : decode cX12_cannotOffer 5 = .ok (.ifCond .eq 13, 3) := by decide +kernel
theorem dX12_cannotOffer_8 : decode cX12_cannotOffer 8 = .ok (.iload_n 3, 1) := by decide +kernel
theorem dX12_cannotOffer_9 : decode cX12_cannotOffer 9 = .ok (.iconst 1, 1) := by decide +kernel
theorem dX12_cannotOffer_10 : decode cX12_cannotOffer 10 = .ok (.bipush 50, 2) := by decide +kernel
theorem dX12_cannotOffer_12 : decode cX12_cannotOffer 12 = .ok (.invokestatic 83, 3) := by decide +kernel
theorem dX12_cannotOffer_15 : decode cX12_cannotOffer 15 = .ok (.ifCond .ne 7, 3) := by decide +kernel
theorem dX12_cannotOffer_18 : decode cX12_cannotOffer 18 = .ok (.iconst 1, 1) := by decide +kernel
theorem dX12_cannotOffer_19 : decode cX12_cannotOffer 19 = .ok (.goto 19, 3) := by decide +kernel
theorem dX12_cannotOffer_22 : decode cX12_cannotOffer 22 = .ok (.aload_n 0, 1) := by decide +kernel
theorem dX12_cannotOffer_23 : decode cX12_cannotOffer 23 = .ok (.getfield 7, 3) := by decide +kernel
theorem dX12_cannotOffer_26 : decode cX12_cannotOffer 26 = .ok (.iconst 3, 1) := by decide +kernel
theorem dX12_cannotOffer_27 : decode cX12_cannotOffer 27 = .ok (.iaload, 1) := by decide +kernel
theorem dX12_cannotOffer_28 : decode cX12_cannotOffer 28 = .ok (.bipush 8, 2) := by decide +kernel
theorem dX12_cannotOffer_30 : decode cX12_cannotOffer 30 = .ok (.if_icmp .ne 7, 3) := by decide +kernel
theorem dX12_cannotOffer_33 : decode cX12_cannotOffer 33 = .ok (.iconst 2, 1) := by decide +kernel
theorem dX12_cannotOffer_34 : decode cX12_cannotOffer 34 = .ok (.goto 4, 3) := by decide +kernel
theorem dX12_cannotOffer_37 : decode cX12_cannotOffer 37 = .ok (.iconst 0, 1) := by decide +kernel
theorem dX12_cannotOffer_38 : decode cX12_cannotOffer 38 = .ok (.ireturn, 1) := by decide +kernel
theorem dX12_offers_0 : decode cX12_offers 0 = .ok (.sipush 232, 3) := by decide +kernel
theorem dX12_offers_3 : decode cX12_offers 3 = .ok (.iconst 4, 1) := by decide +kernel
theorem dX12_offers_4 : decode cX12_offers 4 = .ok (.aload_n 0, 1) := by decide +kernel
theorem dX12_offers_5 : decode cX12_offers 5 = .ok (.getfield 7, 3) := by decide +kernel
theorem dX12_offers_8 : decode cX12_offers 8 = .ok (.iconst 3, 1) := by decide +kernel
theorem dX12_offers_9 : decode cX12_offers 9 = .ok (.iaload, 1) := by decide +kernel
theorem dX12_offers_10 : decode cX12_offers 10 = .ok (.imul, 1) := by decide +kernel
theorem dX12_offers_11 : decode cX12_offers 11 = .ok (.iadd, 1) := by decide +kernel
theorem dX12_offers_12 : decode cX12_offers 12 = .ok (.istore 4, 2) := by decide +kernel
theorem dX12_offers_14 : decode cX12_offers 14 = .ok (.aload_n 0, 1) := by decide +kernel
theorem dX12_offers_15 : decode cX12_offers 15 = .ok (.getfield 7, 3) := by decide +kernel
theorem dX12_offers_18 : decode cX12_offers 18 = .ok (.iload 4, 2) := by decide +kernel
theorem dX12_offers_20 : decode cX12_offers 20 = .ok (.iconst 0, 1) := by decide +kernel
theorem dX12_offers_21 : decode cX12_offers 21 = .ok (.iadd, 1) := by decide +kernel
theorem dX12_offers_22 : decode cX12_offers 22 = .ok (.iload_n 1, 1) := by decide +kernel
theorem dX12_offers_23 : decode cX12_offers 23 = .ok (.iastore, 1) := by decide +kernel
theorem dX12_offers_24 : decode cX12_offers 24 = .ok (.aload_n 0, 1) := by decide +kernel
theorem dX12_offers_25 : decode cX12_offers 25 = .ok (.getfield 7, 3) := by decide +kernel
theorem dX12_offers_28 : decode cX12_offers 28 = .ok (.iload 4, 2) := by decide +kernel
theorem dX12_offers_30 : decode cX12_offers 30 = .ok (.iconst 1, 1) := by decide +kernel
theorem dX12_offers_31 : decode cX12_offers 31 = .ok (.iadd, 1) := by decide +kernel
theorem dX12_offers_32 : decode cX12_offers 32 = .ok (.iload_n 2, 1) := by decide +kernel
theorem dX12_offers_33 : decode cX12_offers 33 = .ok (.iastore, 1) := by decide +kernel
theorem dX12_offers_34 : decode cX12_offers 34 = .ok (.aload_n 0, 1) := by decide +kernel
theorem dX12_offers_35 : decode cX12_offers 35 = .ok (.getfield 7, 3) := by decide +kernel
theorem dX12_offers_38 : decode cX12_offers 38 = .ok (.iload 4, 2) := by decide +kernel
theorem dX12_offers_40 : decode cX12_offers 40 = .ok (.iconst 2, 1) := by decide +kernel
theorem dX12_offers_41 : decode cX12_offers 41 = .ok (.iadd, 1) := by decide +kernel
theorem dX12_offers_42 : decode cX12_offers 42 = .ok (.iload_n 3, 1) := by decide +kernel
theorem dX12_offers_43 : decode cX12_offers 43 = .ok (.iastore, 1) := by decide +kernel
theorem dX12_offers_44 : decode cX12_offers 44 = .ok (.aload_n 0, 1) := by decide +kernel
theorem dX12_offers_45 : decode cX12_offers 45 = .ok (.getfield 7, 3) := by decide +kernel
theorem dX12_offers_48 : decode cX12_offers 48 = .ok (.iconst 3, 1) := by decide +kernel
theorem dX12_offers_49 : decode cX12_offers 49 = .ok (.dup2, 1) := by decide +kernel
theorem dX12_offers_50 : decode cX12_offers 50 = .ok (.iaload, 1) := by decide +kernel
theorem dX12_offers_51 : decode cX12_offers 51 = .ok (.iconst 1, 1) := by decide +kernel
theorem dX12_offers_52 : decode cX12_offers 52 = .ok (.iadd, 1) := by decide +kernel
theorem dX12_offers_53 : decode cX12_offers 53 = .ok (.iastore, 1) := by decide +kernel
theorem dX12_offers_54 : decode cX12_offers 54 = .ok (.aload_n 0, 1) := by decide +kernel
theorem dX12_offers_55 : decode cX12_offers 55 = .ok (.getfield 7, 3) := by decide +kernel
theorem dX12_offers_58 : decode cX12_offers 58 = .ok (.iconst 3, 1) := by decide +kernel
theorem dX12_offers_59 : decode cX12_offers 59 = .ok (.iaload, 1) := by decide +kernel
theorem dX12_offers_60 : decode cX12_offers 60 = .ok (.iconst 1, 1) := by decide +kernel
theorem dX12_offers_61 : decode cX12_offers 61 = .ok (.isub, 1) := by decide +kernel
theorem dX12_offers_62 : decode cX12_offers 62 = .ok (.ireturn, 1) := by decide +kernel
theorem dX12_addOffer_0 : decode cX12_addOffer 0 = .ok (.aload_n 0, 1) := by decide +kernel
theorem dX12_addOffer_1 : decode cX12_addOffer 1 = .ok (.invokevirtual 87, 3) := by decide +kernel
theorem dX12_addOffer_4 : decode cX12_addOffer 4 = .ok (.aload_n 0, 1) := by decide +kernel
theorem dX12_addOffer_5 : decode cX12_addOffer 5 = .ok (.iload_n 1, 1) := by decide +kernel
theorem dX12_addOffer_6 : decode cX12_addOffer 6 = .ok (.iload_n 2, 1) := by decide +kernel
theorem dX12_addOffer_7 : decode cX12_addOffer 7 = .ok (.iload_n 3, 1) := by decide +kernel
theorem dX12_addOffer_8 : decode cX12_addOffer 8 = .ok (.invokevirtual 195, 3) := by decide +kernel
theorem dX12_addOffer_11 : decode cX12_addOffer 11 = .ok (.istore 4, 2) := by decide +kernel
theorem dX12_addOffer_13 : decode cX12_addOffer 13 = .ok (.iload 4, 2) := by decide +kernel
theorem dX12_addOffer_15 : decode cX12_addOffer 15 = .ok (.ifCond .le 12, 3) := by decide +kernel
theorem dX12_addOffer_18 : decode cX12_addOffer 18 = .ok (.aload_n 0, 1) := by decide +kernel
theorem dX12_addOffer_19 : decode cX12_addOffer 19 = .ok (.iload 4, 2) := by decide +kernel
theorem dX12_addOffer_21 : decode cX12_addOffer 21 = .ok (.invokevirtual 94, 3) := by decide +kernel
theorem dX12_addOffer_24 : decode cX12_addOffer 24 = .ok (.goto 14, 3) := by decide +kernel
theorem dX12_addOffer_27 : decode cX12_addOffer 27 = .ok (.aload_n 0, 1) := by decide +kernel
theorem dX12_addOffer_28 : decode cX12_addOffer 28 = .ok (.aload_n 0, 1) := by decide +kernel
theorem dX12_addOffer_29 : decode cX12_addOffer 29 = .ok (.iload_n 1, 1) := by decide +kernel
theorem dX12_addOffer_30 : decode cX12_addOffer 30 = .ok (.iload_n 2, 1) := by decide +kernel
theorem dX12_addOffer_31 : decode cX12_addOffer 31 = .ok (.iload_n 3, 1) := by decide +kernel
theorem dX12_addOffer_32 : decode cX12_addOffer 32 = .ok (.invokevirtual 198, 3) := by decide +kernel
theorem dX12_addOffer_35 : decode cX12_addOffer 35 = .ok (.invokevirtual 101, 3) := by decide +kernel
theorem dX12_addOffer_38 : decode cX12_addOffer 38 = .ok (.ireturn, 1) := by decide +kernel
theorem dX12_removesOffer_0 : decode cX12_removesOffer 0 = .ok (.aload_n 0, 1) := by decide +kernel
theorem dX12_removesOffer_1 : decode cX12_removesOffer 1 = .ok (.iload_n 1, 1) := by decide +kernel
theorem dX12_removesOffer_2 : decode cX12_removesOffer 2 = .ok (.iconst 2, 1) := by decide +kernel
theorem dX12_removesOffer_3 : decode cX12_removesOffer 3 = .ok (.invokevirtual 201, 3) := by decide +kernel
theorem dX12_removesOffer_6 : decode cX12_removesOffer 6 = .ok (.istore_n 2, 1) := by decide +kernel
theorem dX12_removesOffer_7 : decode cX12_removesOffer 7 = .ok (.aload_n 0, 1) := by decide +kernel
theorem dX12_removesOffer_8 : decode cX12_removesOffer 8 = .ok (.getfield 7, 3) := by decide +kernel
theorem dX12_removesOffer_11 : decode cX12_removesOffer 11 = .ok (.iconst 3, 1) := by decide +kernel
theorem dX12_removesOffer_12 : decode cX12_removesOffer 12 = .ok (.dup2, 1) := by decide +kernel
theorem dX12_removesOffer_13 : decode cX12_removesOffer 13 = .ok (.iaload, 1) := by decide +kernel
theorem dX12_removesOffer_14 : decode cX12_removesOffer 14 = .ok (.iconst 1, 1) := by decide +kernel
theorem dX12_removesOffer_15 : decode cX12_removesOffer 15 = .ok (.isub, 1) := by decide +kernel
theorem dX12_removesOffer_16 : decode cX12_removesOffer 16 = .ok (.iastore, 1) := by decide +kernel
theorem dX12_removesOffer_17 : decode cX12_removesOffer 17 = .ok (.aload_n 0, 1) := by decide +kernel
theorem dX12_removesOffer_18 : decode cX12_removesOffer 18 = .ok (.sipush 232, 3) := by decide +kernel
theorem dX12_removesOffer_21 : decode cX12_removesOffer 21 = .ok (.iconst 4, 1) := by decide +kernel
theorem dX12_removesOffer_22 : decode cX12_removesOffer 22 = .ok (.iload_n 1, 1) := by decide +kernel
theorem dX12_removesOffer_23 : decode cX12_removesOffer 23 = .ok (.aload_n 0, 1) := by decide +kernel
theorem dX12_removesOffer_24 : decode cX12_removesOffer 24 = .ok (.getfield 7, 3) := by decide +kernel
theorem dX12_removesOffer_27 : decode cX12_removesOffer 27 = .ok (.iconst 3, 1) := by decide +kernel
theorem dX12_removesOffer_28 : decode cX12_removesOffer 28 = .ok (.iaload, 1) := by decide +kernel
theorem dX12_removesOffer_29 : decode cX12_removesOffer 29 = .ok (.invokevirtual 117, 3) := by decide +kernel
theorem dX12_removesOffer_32 : decode cX12_removesOffer 32 = .ok (.iload_n 2, 1) := by decide +kernel
theorem dX12_removesOffer_33 : decode cX12_removesOffer 33 = .ok (.ireturn, 1) := by decide +kernel
theorem dX12_dropOffer_0 : decode cX12_dropOffer 0 = .ok (.aload_n 0, 1) := by decide +kernel
theorem dX12_dropOffer_1 : decode cX12_dropOffer 1 = .ok (.invokevirtual 87, 3) := by decide +kernel
theorem dX12_dropOffer_4 : decode cX12_dropOffer 4 = .ok (.iload_n 1, 1) := by decide +kernel
theorem dX12_dropOffer_5 : decode cX12_dropOffer 5 = .ok (.iconst 0, 1) := by decide +kernel
theorem dX12_dropOffer_6 : decode cX12_dropOffer 6 = .ok (.aload_n 0, 1) := by decide +kernel
theorem dX12_dropOffer_7 : decode cX12_dropOffer 7 = .ok (.getfield 7, 3) := by decide +kernel
theorem dX12_dropOffer_10 : decode cX12_dropOffer 10 = .ok (.iconst 3, 1) := by decide +kernel
theorem dX12_dropOffer_11 : decode cX12_dropOffer 11 = .ok (.iaload, 1) := by decide +kernel
theorem dX12_dropOffer_12 : decode cX12_dropOffer 12 = .ok (.iconst 1, 1) := by decide +kernel
theorem dX12_dropOffer_13 : decode cX12_dropOffer 13 = .ok (.isub, 1) := by decide +kernel
theorem dX12_dropOffer_14 : decode cX12_dropOffer 14 = .ok (.invokestatic 83, 3) := by decide +kernel
theorem dX12_dropOffer_17 : decode cX12_dropOffer 17 = .ok (.ifCond .eq 15, 3) := by decide +kernel
theorem dX12_dropOffer_20 : decode cX12_dropOffer 20 = .ok (.aload_n 0, 1) := by decide +kernel
theorem dX12_dropOffer_21 : decode cX12_dropOffer 21 = .ok (.aload_n 0, 1) := by decide +kernel
theorem dX12_dropOffer_22 : decode cX12_dropOffer 22 = .ok (.iload_n 1, 1) := by decide +kernel
theorem dX12_dropOffer_23 : decode cX12_dropOffer 23 = .ok (.invokevirtual 204, 3) := by decide +kernel
theorem dX12_dropOffer_26 : decode cX12_dropOffer 26 = .ok (.invokevirtual 101, 3) := by decide +kernel
theorem dX12_dropOffer_29 : decode cX12_dropOffer 29 = .ok (.goto 8, 3) := by decide +kernel
theorem dX12_dropOffer_32 : decode cX12_dropOffer 32 = .ok (.aload_n 0, 1) := by decide +kernel
theorem dX12_dropOffer_33 : decode cX12_dropOffer 33 = .ok (.iconst 1, 1) := by decide +kernel
theorem dX12_dropOffer_34 : decode cX12_dropOffer 34 = .ok (.invokevirtual 94, 3) := by decide +kernel
theorem dX12_dropOffer_37 : decode cX12_dropOffer 37 = .ok (.ireturn, 1) := by decide +kernel
theorem dX12_passes_0 : decode cX12_passes 0 = .ok (.aload_n 0, 1) := by decide +kernel
theorem dX12_passes_1 : decode cX12_passes 1 = .ok (.getfield 7, 3) := by decide +kernel
theorem dX12_passes_4 : decode cX12_passes 4 = .ok (.bipush 6, 2) := by decide +kernel
theorem dX12_passes_6 : decode cX12_passes 6 = .ok (.dup2, 1) := by decide +kernel
theorem dX12_passes_7 : decode cX12_passes 7 = .ok (.iaload, 1) := by decide +kernel
theorem dX12_passes_8 : decode cX12_passes 8 = .ok (.iload_n 1, 1) := by decide +kernel
theorem dX12_passes_9 : decode cX12_passes 9 = .ok (.iadd, 1) := by decide +kernel
theorem dX12_passes_10 : decode cX12_passes 10 = .ok (.iastore, 1) := by decide +kernel
theorem dX12_passes_11 : decode cX12_passes 11 = .ok (.aload_n 0, 1) := by decide +kernel
theorem dX12_passes_12 : decode cX12_passes 12 = .ok (.getfield 7, 3) := by decide +kernel
theorem dX12_passes_15 : decode cX12_passes 15 = .ok (.bipush 6, 2) := by decide +kernel
theorem dX12_passes_17 : decode cX12_passes 17 = .ok (.iaload, 1) := by decide +kernel
theorem dX12_passes_18 : decode cX12_passes 18 = .ok (.ireturn, 1) := by decide +kernel
theorem dX12_passDays_0 : decode cX12_passDays 0 = .ok (.aload_n 0, 1) := by decide +kernel
theorem dX12_passDays_1 : decode cX12_passDays 1 = .ok (.invokevirtual 87, 3) := by decide +kernel
theorem dX12_passDays_4 : decode cX12_passDays 4 = .ok (.iload_n 1, 1) := by decide +kernel
theorem dX12_passDays_5 : decode cX12_passDays 5 = .ok (.iconst 1, 1) := by decide +kernel
theorem dX12_passDays_6 : decode cX12_passDays 6 = .ok (.bipush 60, 2) := by decide +kernel
theorem dX12_passDays_8 : decode cX12_passDays 8 = .ok (.invokestatic 83, 3) := by decide +kernel
theorem dX12_passDays_11 : decode cX12_passDays 11 = .ok (.ifCond .eq 15, 3) := by decide +kernel
theorem dX12_passDays_14 : decode cX12_passDays 14 = .ok (.aload_n 0, 1) := by decide +kernel
theorem dX12_passDays_15 : decode cX12_passDays 15 = .ok (.aload_n 0, 1) := by decide +kernel
theorem dX12_passDays_16 : decode cX12_passDays 16 = .ok (.iload_n 1, 1) := by decide +kernel
theorem dX12_passDays_17 : decode cX12_passDays 17 = .ok (.invokevirtual 207, 3) := by decide +kernel
theorem dX12_passDays_20 : decode cX12_passDays 20 = .ok (.invokevirtual 101, 3) := by decide +kernel
theorem dX12_passDays_23 : decode cX12_passDays 23 = .ok (.goto 8, 3) := by decide +kernel
theorem dX12_passDays_26 : decode cX12_passDays 26 = .ok (.aload_n 0, 1) := by decide +kernel
theorem dX12_passDays_27 : decode cX12_passDays 27 = .ok (.iconst 1, 1) := by decide +kernel
theorem dX12_passDays_28 : decode cX12_passDays 28 = .ok (.invokevirtual 94, 3) := by decide +kernel
theorem dX12_passDays_31 : decode cX12_passDays 31 = .ok (.ireturn, 1) := by decide +kernel
theorem dX12_plain_0 : decode cX12_plain 0 = .ok (.aload_n 0, 1) := by decide +kernel
theorem dX12_plain_1 : decode cX12_plain 1 = .ok (.iconst 0, 1) := by decide +kernel
theorem dX12_plain_2 : decode cX12_plain 2 = .ok (.putfield 28, 3) := by decide +kernel
theorem dX12_plain_5 : decode cX12_plain 5 = .ok (.iload_n 1, 1) := by decide +kernel
theorem dX12_plain_6 : decode cX12_plain 6 = .ok (.ireturn, 1) := by decide +kernel
theorem dX12_checked_0 : decode cX12_checked 0 = .ok (.aload_n 0, 1) := by decide +kernel
theorem dX12_checked_1 : decode cX12_checked 1 = .ok (.iload_n 1, 1) := by decide +kernel
theorem dX12_checked_2 : decode cX12_checked 2 = .ok (.ifCond .eq 7, 3) := by decide +kernel
theorem dX12_checked_5 : decode cX12_checked 5 = .ok (.iconst 0, 1) := by decide +kernel
theorem dX12_checked_6 : decode cX12_checked 6 = .ok (.goto 4, 3) := by decide +kernel
theorem dX12_checked_9 : decode cX12_checked 9 = .ok (.iconst 1, 1) := by decide +kernel
theorem dX12_checked_10 : decode cX12_checked 10 = .ok (.putfield 28, 3) := by decide +kernel
theorem dX12_checked_13 : decode cX12_checked 13 = .ok (.aload_n 0, 1) := by decide +kernel
theorem dX12_checked_14 : decode cX12_checked 14 = .ok (.getfield 28, 3) := by decide +kernel
theorem dX12_checked_17 : decode cX12_checked 17 = .ok (.ireturn, 1) := by decide +kernel
theorem dX12_day_0 : decode cX12_day 0 = .ok (.aload_n 0, 1) := by decide +kernel
theorem dX12_day_1 : decode cX12_day 1 = .ok (.aload_n 0, 1) := by decide +kernel
theorem dX12_day_2 : decode cX12_day 2 = .ok (.getfield 7, 3) := by decide +kernel
theorem dX12_day_5 : decode cX12_day 5 = .ok (.bipush 6, 2) := by decide +kernel
theorem dX12_day_7 : decode cX12_day 7 = .ok (.iaload, 1) := by decide +kernel
theorem dX12_day_8 : decode cX12_day 8 = .ok (.invokevirtual 210, 3) := by decide +kernel
theorem dX12_day_11 : decode cX12_day 11 = .ok (.ireturn, 1) := by decide +kernel
theorem dX12_cash_0 : decode cX12_cash 0 = .ok (.aload_n 0, 1) := by decide +kernel
theorem dX12_cash_1 : decode cX12_cash 1 = .ok (.aload_n 0, 1) := by decide +kernel
theorem dX12_cash_2 : decode cX12_cash 2 = .ok (.getfield 7, 3) := by decide +kernel
theorem dX12_cash_5 : decode cX12_cash 5 = .ok (.bipush 7, 2) := by decide +kernel
theorem dX12_cash_7 : decode cX12_cash 7 = .ok (.iaload, 1) := by decide +kernel
theorem dX12_cash_8 : decode cX12_cash 8 = .ok (.invokevirtual 210, 3) := by decide +kernel
theorem dX12_cash_11 : decode cX12_cash 11 = .ok (.ireturn, 1) := by decide +kernel
theorem dX12_policyCount_0 : decode cX12_policyCount 0 = .ok (.aload_n 0, 1) := by decide +kernel
theorem dX12_policyCount_1 : decode cX12_policyCount 1 = .ok (.aload_n 0, 1) := by decide +kernel
theorem dX12_policyCount_2 : decode cX12_policyCount 2 = .ok (.getfield 7, 3) := by decide +kernel
theorem dX12_policyCount_5 : decode cX12_policyCount 5 = .ok (.iconst 0, 1) := by decide +kernel
theorem dX12_policyCount_6 : decode cX12_policyCount 6 = .ok (.iaload, 1) := by decide +kernel
theorem dX12_policyCount_7 : decode cX12_policyCount 7 = .ok (.invokevirtual 210, 3) := by decide +kernel
theorem dX12_policyCount_10 : decode cX12_policyCount 10 = .ok (.ireturn, 1) := by decide +kernel
theorem dX12_policyAt_0 : decode cX12_policyAt 0 = .ok (.aload_n 0, 1) := by decide +kernel
theorem dX12_policyAt_1 : decode cX12_policyAt 1 = .ok (.iload_n 1, 1) := by decide +kernel
theorem dX12_policyAt_2 : decode cX12_policyAt 2 = .ok (.iconst 0, 1) := by decide +kernel
theorem dX12_policyAt_3 : decode cX12_policyAt 3 = .ok (.aload_n 0, 1) := by decide +kernel
theorem dX12_policyAt_4 : decode cX12_policyAt 4 = .ok (.getfield 7, 3) := by decide +kernel
theorem dX12_policyAt_7 : decode cX12_policyAt 7 = .ok (.iconst 0, 1) := by decide +kernel
theorem dX12_policyAt_8 : decode cX12_policyAt 8 = .ok (.iaload, 1) := by decide +kernel
theorem dX12_policyAt_9 : decode cX12_policyAt 9 = .ok (.iconst 1, 1) := by decide +kernel
theorem dX12_policyAt_10 : decode cX12_policyAt 10 = .ok (.isub, 1) := by decide +kernel
theorem dX12_policyAt_11 : decode cX12_policyAt 11 = .ok (.invokestatic 83, 3) := by decide +kernel
theorem dX12_policyAt_14 : decode cX12_policyAt 14 = .ok (.invokevirtual 213, 3) := by decide +kernel
theorem dX12_policyAt_17 : decode cX12_policyAt 17 = .ok (.ifCond .le 7, 3) := by decide +kernel
theorem dX12_policyAt_20 : decode cX12_policyAt 20 = .ok (.iconst 0, 1) := by decide +kernel
theorem dX12_policyAt_21 : decode cX12_policyAt 21 = .ok (.goto 9, 3) := by decide +kernel
theorem dX12_policyAt_24 : decode cX12_policyAt 24 = .ok (.aload_n 0, 1) := by decide +kernel
theorem dX12_policyAt_25 : decode cX12_policyAt 25 = .ok (.iload_n 1, 1) := by decide +kernel
theorem dX12_policyAt_26 : decode cX12_policyAt 26 = .ok (.iconst 0, 1) := by decide +kernel
theorem dX12_policyAt_27 : decode cX12_policyAt 27 = .ok (.invokevirtual 79, 3) := by decide +kernel
theorem dX12_policyAt_30 : decode cX12_policyAt 30 = .ok (.ireturn, 1) := by decide +kernel
theorem dX12_ofPolicy_0 : decode cX12_ofPolicy 0 = .ok (.aload_n 0, 1) := by decide +kernel
theorem dX12_ofPolicy_1 : decode cX12_ofPolicy 1 = .ok (.aload_n 0, 1) := by decide +kernel
theorem dX12_ofPolicy_2 : decode cX12_ofPolicy 2 = .ok (.iload_n 1, 1) := by decide +kernel
theorem dX12_ofPolicy_3 : decode cX12_ofPolicy 3 = .ok (.invokevirtual 107, 3) := by decide +kernel
theorem dX12_ofPolicy_6 : decode cX12_ofPolicy 6 = .ok (.ifCond .lt 7, 3) := by decide +kernel
theorem dX12_ofPolicy_9 : decode cX12_ofPolicy 9 = .ok (.iconst 1, 1) := by decide +kernel
theorem dX12_ofPolicy_10 : decode cX12_ofPolicy 10 = .ok (.goto 4, 3) := by decide +kernel
theorem dX12_ofPolicy_13 : decode cX12_ofPolicy 13 = .ok (.iconst 0, 1) := by decide +kernel
theorem dX12_ofPolicy_14 : decode cX12_ofPolicy 14 = .ok (.invokevirtual 213, 3) := by decide +kernel
theorem dX12_ofPolicy_17 : decode cX12_ofPolicy 17 = .ok (.ifCond .le 7, 3) := by decide +kernel
theorem dX12_ofPolicy_20 : decode cX12_ofPolicy 20 = .ok (.iconst 0, 1) := by decide +kernel
theorem dX12_ofPolicy_21 : decode cX12_ofPolicy 21 = .ok (.goto 13, 3) := by decide +kernel
theorem dX12_ofPolicy_24 : decode cX12_ofPolicy 24 = .ok (.aload_n 0, 1) := by decide +kernel
theorem dX12_ofPolicy_25 : decode cX12_ofPolicy 25 = .ok (.aload_n 0, 1) := by decide +kernel
theorem dX12_ofPolicy_26 : decode cX12_ofPolicy 26 = .ok (.iload_n 1, 1) := by decide +kernel
theorem dX12_ofPolicy_27 : decode cX12_ofPolicy 27 = .ok (.invokevirtual 107, 3) := by decide +kernel
theorem dX12_ofPolicy_30 : decode cX12_ofPolicy 30 = .ok (.iload_n 2, 1) := by decide +kernel
theorem dX12_ofPolicy_31 : decode cX12_ofPolicy 31 = .ok (.invokevirtual 79, 3) := by decide +kernel
theorem dX12_ofPolicy_34 : decode cX12_ofPolicy 34 = .ok (.ireturn, 1) := by decide +kernel
theorem dX12_sumOf_0 : decode cX12_sumOf 0 = .ok (.aload_n 0, 1) := by decide +kernel
theorem dX12_sumOf_1 : decode cX12_sumOf 1 = .ok (.iload_n 1, 1) := by decide +kernel
theorem dX12_sumOf_2 : decode cX12_sumOf 2 = .ok (.iconst 1, 1) := by decide +kernel
theorem dX12_sumOf_3 : decode cX12_sumOf 3 = .ok (.invokevirtual 217, 3) := by decide +kernel
theorem dX12_sumOf_6 : decode cX12_sumOf 6 = .ok (.ireturn, 1) := by decide +kernel
theorem dX12_sumLeft_0 : decode cX12_sumLeft 0 = .ok (.aload_n 0, 1) := by decide +kernel
theorem dX12_sumLeft_1 : decode cX12_sumLeft 1 = .ok (.iload_n 1, 1) := by decide +kernel
theorem dX12_sumLeft_2 : decode cX12_sumLeft 2 = .ok (.iconst 1, 1) := by decide +kernel
theorem dX12_sumLeft_3 : decode cX12_sumLeft 3 = .ok (.invokevirtual 217, 3) := by decide +kernel
theorem dX12_sumLeft_6 : decode cX12_sumLeft 6 = .ok (.aload_n 0, 1) := by decide +kernel
theorem dX12_sumLeft_7 : decode cX12_sumLeft 7 = .ok (.iload_n 1, 1) := by decide +kernel
theorem dX12_sumLeft_8 : decode cX12_sumLeft 8 = .ok (.bipush 6, 2) := by decide +kernel
theorem dX12_sumLeft_10 : decode cX12_sumLeft 10 = .ok (.invokevirtual 217, 3) := by decide +kernel
theorem dX12_sumLeft_13 : decode cX12_sumLeft 13 = .ok (.isub, 1) := by decide +kernel
theorem dX12_sumLeft_14 : decode cX12_sumLeft 14 = .ok (.ireturn, 1) := by decide +kernel
theorem dX12_riskOf_0 : decode cX12_riskOf 0 = .ok (.aload_n 0, 1) := by decide +kernel
theorem dX12_riskOf_1 : decode cX12_riskOf 1 = .ok (.iload_n 1, 1) := by decide +kernel
theorem dX12_riskOf_2 : decode cX12_riskOf 2 = .ok (.iconst 2, 1) := by decide +kernel
theorem dX12_riskOf_3 : decode cX12_riskOf 3 = .ok (.invokevirtual 217, 3) := by decide +kernel
theorem dX12_riskOf_6 : decode cX12_riskOf 6 = .ok (.ireturn, 1) := by decide +kernel
theorem dX12_premiumOf_0 : decode cX12_premiumOf 0 = .ok (.aload_n 0, 1) := by decide +kernel
theorem dX12_premiumOf_1 : decode cX12_premiumOf 1 = .ok (.iload_n 1, 1) := by decide +kernel
theorem dX12_premiumOf_2 : decode cX12_premiumOf 2 = .ok (.iconst 5, 1) := by decide +kernel
theorem dX12_premiumOf_3 : decode cX12_premiumOf 3 = .ok (.invokevirtual 217, 3) := by decide +kernel
theorem dX12_premiumOf_6 : decode cX12_premiumOf 6 = .ok (.ireturn, 1) := by decide +kernel
theorem dX12_endOf_0 : decode cX12_endOf 0 = .ok (.aload_n 0, 1) := by decide +kernel
theorem dX12_endOf_1 : decode cX12_endOf 1 = .ok (.iload_n 1, 1) := by decide +kernel
theorem dX12_endOf_2 : decode cX12_endOf 2 = .ok (.iconst 4, 1) := by decide +kernel
theorem dX12_endOf_3 : decode cX12_endOf 3 = .ok (.invokevirtual 217, 3) := by decide +kernel
theorem dX12_endOf_6 : decode cX12_endOf 6 = .ok (.ireturn, 1) := by decide +kernel
theorem dX12_isActive_0 : decode cX12_isActive 0 = .ok (.aload_n 0, 1) := by decide +kernel
theorem dX12_isActive_1 : decode cX12_isActive 1 = .ok (.aload_n 0, 1) := by decide +kernel
theorem dX12_isActive_2 : decode cX12_isActive 2 = .ok (.iload_n 1, 1) := by decide +kernel
theorem dX12_isActive_3 : decode cX12_isActive 3 = .ok (.invokevirtual 107, 3) := by decide +kernel
theorem dX12_isActive_6 : decode cX12_isActive 6 = .ok (.ifCond .lt 7, 3) := by decide +kernel
theorem dX12_isActive_9 : decode cX12_isActive 9 = .ok (.iconst 1, 1) := by decide +kernel
theorem dX12_isActive_10 : decode cX12_isActive 10 = .ok (.goto 4, 3) := by decide +kernel
theorem dX12_isActive_13 : decode cX12_isActive 13 = .ok (.iconst 0, 1) := by decide +kernel
theorem dX12_isActive_14 : decode cX12_isActive 14 = .ok (.invokevirtual 213, 3) := by decide +kernel
theorem dX12_isActive_17 : decode cX12_isActive 17 = .ok (.ifCond .ne 19, 3) := by decide +kernel
theorem dX12_isActive_20 : decode cX12_isActive 20 = .ok (.aload_n 0, 1) := by decide +kernel
theorem dX12_isActive_21 : decode cX12_isActive 21 = .ok (.aload_n 0, 1) := by decide +kernel
theorem dX12_isActive_22 : decode cX12_isActive 22 = .ok (.iload_n 1, 1) := by decide +kernel
theorem dX12_isActive_23 : decode cX12_isActive 23 = .ok (.invokevirtual 107, 3) := by decide +kernel
theorem dX12_isActive_26 : decode cX12_isActive 26 = .ok (.invokevirtual 114, 3) := by decide +kernel
theorem dX12_isActive_29 : decode cX12_isActive 29 = .ok (.ifCond .eq 7, 3) := by decide +kernel
theorem dX12_isActive_32 : decode cX12_isActive 32 = .ok (.iconst 1, 1) := by decide +kernel
theorem dX12_isActive_33 : decode cX12_isActive 33 = .ok (.goto 4, 3) := by decide +kernel
theorem dX12_isActive_36 : decode cX12_isActive 36 = .ok (.iconst 0, 1) := by decide +kernel
theorem dX12_isActive_37 : decode cX12_isActive 37 = .ok (.ireturn, 1) := by decide +kernel
theorem dX12_claimCount_0 : decode cX12_claimCount 0 = .ok (.aload_n 0, 1) := by decide +kernel
theorem dX12_claimCount_1 : decode cX12_claimCount 1 = .ok (.aload_n 0, 1) := by decide +kernel
theorem dX12_claimCount_2 : decode cX12_claimCount 2 = .ok (.getfield 7, 3) := by decide +kernel
theorem dX12_claimCount_5 : decode cX12_claimCount 5 = .ok (.iconst 1, 1) := by decide +kernel
theorem dX12_claimCount_6 : decode cX12_claimCount 6 = .ok (.iaload, 1) := by decide +kernel
theorem dX12_claimCount_7 : decode cX12_claimCount 7 = .ok (.invokevirtual 210, 3) := by decide +kernel
theorem dX12_claimCount_10 : decode cX12_claimCount 10 = .ok (.ireturn, 1) := by decide +kernel
theorem dX12_claimAt_0 : decode cX12_claimAt 0 = .ok (.aload_n 0, 1) := by decide +kernel
theorem dX12_claimAt_1 : decode cX12_claimAt 1 = .ok (.iload_n 1, 1) := by decide +kernel
theorem dX12_claimAt_2 : decode cX12_claimAt 2 = .ok (.iconst 0, 1) := by decide +kernel
theorem dX12_claimAt_3 : decode cX12_claimAt 3 = .ok (.aload_n 0, 1) := by decide +kernel
theorem dX12_claimAt_4 : decode cX12_claimAt 4 = .ok (.getfield 7, 3) := by decide +kernel
theorem dX12_claimAt_7 : decode cX12_claimAt 7 = .ok (.iconst 1, 1) := by decide +kernel
theorem dX12_claimAt_8 : decode cX12_claimAt 8 = .ok (.iaload, 1) := by decide +kernel
theorem dX12_claimAt_9 : decode cX12_claimAt 9 = .ok (.iconst 1, 1) := by decide +kernel
theorem dX12_claimAt_10 : decode cX12_claimAt 10 = .ok (.isub, 1) := by decide +kernel
theorem dX12_claimAt_11 : decode cX12_claimAt 11 = .ok (.invokestatic 83, 3) := by decide +kernel
theorem dX12_claimAt_14 : decode cX12_claimAt 14 = .ok (.invokevirtual 213, 3) := by decide +kernel
theorem dX12_claimAt_17 : decode cX12_claimAt 17 = .ok (.ifCond .le 7, 3) := by decide +kernel
theorem dX12_claimAt_20 : decode cX12_claimAt 20 = .ok (.iconst 0, 1) := by decide +kernel
theorem dX12_claimAt_21 : decode cX12_claimAt 21 = .ok (.goto 9, 3) := by decide +kernel
theorem dX12_claimAt_24 : decode cX12_claimAt 24 = .ok (.aload_n 0, 1) := by decide +kernel
theorem dX12_claimAt_25 : decode cX12_claimAt 25 = .ok (.iload_n 1, 1) := by decide +kernel
theorem dX12_claimAt_26 : decode cX12_claimAt 26 = .ok (.iconst 0, 1) := by decide +kernel
theorem dX12_claimAt_27 : decode cX12_claimAt 27 = .ok (.invokevirtual 104, 3) := by decide +kernel
theorem dX12_claimAt_30 : decode cX12_claimAt 30 = .ok (.ireturn, 1) := by decide +kernel
theorem dX12_ofClaim_0 : decode cX12_ofClaim 0 = .ok (.aload_n 0, 1) := by decide +kernel
theorem dX12_ofClaim_1 : decode cX12_ofClaim 1 = .ok (.aload_n 0, 1) := by decide +kernel
theorem dX12_ofClaim_2 : decode cX12_ofClaim 2 = .ok (.iload_n 1, 1) := by decide +kernel
theorem dX12_ofClaim_3 : decode cX12_ofClaim 3 = .ok (.invokevirtual 167, 3) := by decide +kernel
theorem dX12_ofClaim_6 : decode cX12_ofClaim 6 = .ok (.ifCond .lt 7, 3) := by decide +kernel
theorem dX12_ofClaim_9 : decode cX12_ofClaim 9 = .ok (.iconst 1, 1) := by decide +kernel
theorem dX12_ofClaim_10 : decode cX12_ofClaim 10 = .ok (.goto 4, 3) := by decide +kernel
theorem dX12_ofClaim_13 : decode cX12_ofClaim 13 = .ok (.iconst 0, 1) := by decide +kernel
theorem dX12_ofClaim_14 : decode cX12_ofClaim 14 = .ok (.invokevirtual 213, 3) := by decide +kernel
theorem dX12_ofClaim_17 : decode cX12_ofClaim 17 = .ok (.ifCond .le 7, 3) := by decide +kernel
theorem dX12_ofClaim_20 : decode cX12_ofClaim 20 = .ok (.iconst 0, 1) := by decide +kernel
theorem dX12_ofClaim_21 : decode cX12_ofClaim 21 = .ok (.goto 13, 3) := by decide +kernel
theorem dX12_ofClaim_24 : decode cX12_ofClaim 24 = .ok (.aload_n 0, 1) := by decide +kernel
theorem dX12_ofClaim_25 : decode cX12_ofClaim 25 = .ok (.aload_n 0, 1) := by decide +kernel
theorem dX12_ofClaim_26 : decode cX12_ofClaim 26 = .ok (.iload_n 1, 1) := by decide +kernel
theorem dX12_ofClaim_27 : decode cX12_ofClaim 27 = .ok (.invokevirtual 167, 3) := by decide +kernel
theorem dX12_ofClaim_30 : decode cX12_ofClaim 30 = .ok (.iload_n 2, 1) := by decide +kernel
theorem dX12_ofClaim_31 : decode cX12_ofClaim 31 = .ok (.invokevirtual 104, 3) := by decide +kernel
theorem dX12_ofClaim_34 : decode cX12_ofClaim 34 = .ok (.ireturn, 1) := by decide +kernel
theorem dX12_policyOf_0 : decode cX12_policyOf 0 = .ok (.aload_n 0, 1) := by decide +kernel
theorem dX12_policyOf_1 : decode cX12_policyOf 1 = .ok (.iload_n 1, 1) := by decide +kernel
theorem dX12_policyOf_2 : decode cX12_policyOf 2 = .ok (.iconst 1, 1) := by decide +kernel
theorem dX12_policyOf_3 : decode cX12_policyOf 3 = .ok (.invokevirtual 220, 3) := by decide +kernel
theorem dX12_policyOf_6 : decode cX12_policyOf 6 = .ok (.ireturn, 1) := by decide +kernel
theorem dX12_causeOf_0 : decode cX12_causeOf 0 = .ok (.aload_n 0, 1) := by decide +kernel
theorem dX12_causeOf_1 : decode cX12_causeOf 1 = .ok (.iload_n 1, 1) := by decide +kernel
theorem dX12_causeOf_2 : decode cX12_causeOf 2 = .ok (.iconst 2, 1) := by decide +kernel
theorem dX12_causeOf_3 : decode cX12_causeOf 3 = .ok (.invokevirtual 220, 3) := by decide +kernel
theorem dX12_causeOf_6 : decode cX12_causeOf 6 = .ok (.istore_n 2, 1) := by decide +kernel
theorem dX12_causeOf_7 : decode cX12_causeOf 7 = .ok (.aload_n 0, 1) := by decide +kernel
theorem dX12_causeOf_8 : decode cX12_causeOf 8 = .ok (.getfield 28, 3) := by decide +kernel
theorem dX12_causeOf_11 : decode cX12_causeOf 11 = .ok (.ifCond .le 8, 3) := by decide +kernel
theorem dX12_causeOf_14 : decode cX12_causeOf 14 = .ok (.bipush 32, 2) := by decide +kernel
theorem dX12_causeOf_16 : decode cX12_causeOf 16 = .ok (.goto 5, 3) := by decide +kernel
theorem dX12_causeOf_19 : decode cX12_causeOf 19 = .ok (.iload_n 2, 1) := by decide +kernel
theorem dX12_causeOf_20 : decode cX12_causeOf 20 = .ok (.i2c, 1) := by decide +kernel
theorem dX12_causeOf_21 : decode cX12_causeOf 21 = .ok (.ireturn, 1) := by decide +kernel
theorem dX12_amountOf_0 : decode cX12_amountOf 0 = .ok (.aload_n 0, 1) := by decide +kernel
theorem dX12_amountOf_1 : decode cX12_amountOf 1 = .ok (.iload_n 1, 1) := by decide +kernel
theorem dX12_amountOf_2 : decode cX12_amountOf 2 = .ok (.iconst 3, 1) := by decide +kernel
theorem dX12_amountOf_3 : decode cX12_amountOf 3 = .ok (.invokevirtual 220, 3) := by decide +kernel
theorem dX12_amountOf_6 : decode cX12_amountOf 6 = .ok (.ireturn, 1) := by decide +kernel
theorem dX12_paidOf_0 : decode cX12_paidOf 0 = .ok (.aload_n 0, 1) := by decide +kernel
theorem dX12_paidOf_1 : decode cX12_paidOf 1 = .ok (.iload_n 1, 1) := by decide +kernel
theorem dX12_paidOf_2 : decode cX12_paidOf 2 = .ok (.iconst 4, 1) := by decide +kernel
theorem dX12_paidOf_3 : decode cX12_paidOf 3 = .ok (.invokevirtual 220, 3) := by decide +kernel
theorem dX12_paidOf_6 : decode cX12_paidOf 6 = .ok (.ireturn, 1) := by decide +kernel
theorem dX12_borneBy_0 : decode cX12_borneBy 0 = .ok (.aload_n 0, 1) := by decide +kernel
theorem dX12_borneBy_1 : decode cX12_borneBy 1 = .ok (.aload_n 0, 1) := by decide +kernel
theorem dX12_borneBy_2 : decode cX12_borneBy 2 = .ok (.iload_n 1, 1) := by decide +kernel
theorem dX12_borneBy_3 : decode cX12_borneBy 3 = .ok (.invokevirtual 167, 3) := by decide +kernel
theorem dX12_borneBy_6 : decode cX12_borneBy 6 = .ok (.ifCond .ge 7, 3) := by decide +kernel
theorem dX12_borneBy_9 : decode cX12_borneBy 9 = .ok (.iconst 1, 1) := by decide +kernel
theorem dX12_borneBy_10 : decode cX12_borneBy 10 = .ok (.goto 16, 3) := by decide +kernel
theorem dX12_borneBy_13 : decode cX12_borneBy 13 = .ok (.aload_n 0, 1) := by decide +kernel
theorem dX12_borneBy_14 : decode cX12_borneBy 14 = .ok (.iload_n 2, 1) := by decide +kernel
theorem dX12_borneBy_15 : decode cX12_borneBy 15 = .ok (.invokevirtual 134, 3) := by decide +kernel
theorem dX12_borneBy_18 : decode cX12_borneBy 18 = .ok (.ifCond .ne 7, 3) := by decide +kernel
theorem dX12_borneBy_21 : decode cX12_borneBy 21 = .ok (.iconst 2, 1) := by decide +kernel
theorem dX12_borneBy_22 : decode cX12_borneBy 22 = .ok (.goto 4, 3) := by decide +kernel
theorem dX12_borneBy_25 : decode cX12_borneBy 25 = .ok (.iconst 0, 1) := by decide +kernel
theorem dX12_borneBy_26 : decode cX12_borneBy 26 = .ok (.putfield 28, 3) := by decide +kernel
theorem dX12_borneBy_29 : decode cX12_borneBy 29 = .ok (.aload_n 0, 1) := by decide +kernel
theorem dX12_borneBy_30 : decode cX12_borneBy 30 = .ok (.getfield 28, 3) := by decide +kernel
theorem dX12_borneBy_33 : decode cX12_borneBy 33 = .ok (.ifCond .le 7, 3) := by decide +kernel
theorem dX12_borneBy_36 : decode cX12_borneBy 36 = .ok (.iconst 0, 1) := by decide +kernel
theorem dX12_borneBy_37 : decode cX12_borneBy 37 = .ok (.goto 16, 3) := by decide +kernel
theorem dX12_borneBy_40 : decode cX12_borneBy 40 = .ok (.aload_n 0, 1) := by decide +kernel
theorem dX12_borneBy_41 : decode cX12_borneBy 41 = .ok (.aload_n 0, 1) := by decide +kernel
theorem dX12_borneBy_42 : decode cX12_borneBy 42 = .ok (.iload_n 1, 1) := by decide +kernel
theorem dX12_borneBy_43 : decode cX12_borneBy 43 = .ok (.invokevirtual 167, 3) := by decide +kernel
theorem dX12_borneBy_46 : decode cX12_borneBy 46 = .ok (.bipush 6, 2) := by decide +kernel
theorem dX12_borneBy_48 : decode cX12_borneBy 48 = .ok (.iload_n 2, 1) := by decide +kernel
theorem dX12_borneBy_49 : decode cX12_borneBy 49 = .ok (.iadd, 1) := by decide +kernel
theorem dX12_borneBy_50 : decode cX12_borneBy 50 = .ok (.invokevirtual 104, 3) := by decide +kernel
theorem dX12_borneBy_53 : decode cX12_borneBy 53 = .ok (.ireturn, 1) := by decide +kernel
theorem dX12_ownPart_0 : decode cX12_ownPart 0 = .ok (.aload_n 0, 1) := by decide +kernel
theorem dX12_ownPart_1 : decode cX12_ownPart 1 = .ok (.aload_n 0, 1) := by decide +kernel
theorem dX12_ownPart_2 : decode cX12_ownPart 2 = .ok (.iload_n 1, 1) := by decide +kernel
theorem dX12_ownPart_3 : decode cX12_ownPart 3 = .ok (.invokevirtual 167, 3) := by decide +kernel
theorem dX12_ownPart_6 : decode cX12_ownPart 6 = .ok (.ifCond .lt 7, 3) := by decide +kernel
theorem dX12_ownPart_9 : decode cX12_ownPart 9 = .ok (.iconst 1, 1) := by decide +kernel
theorem dX12_ownPart_10 : decode cX12_ownPart 10 = .ok (.goto 4, 3) := by decide +kernel
theorem dX12_ownPart_13 : decode cX12_ownPart 13 = .ok (.iconst 0, 1) := by decide +kernel
theorem dX12_ownPart_14 : decode cX12_ownPart 14 = .ok (.invokevirtual 213, 3) := by decide +kernel
theorem dX12_ownPart_17 : decode cX12_ownPart 17 = .ok (.ifCond .le 7, 3) := by decide +kernel
theorem dX12_ownPart_20 : decode cX12_ownPart 20 = .ok (.iconst 0, 1) := by decide +kernel
theorem dX12_ownPart_21 : decode cX12_ownPart 21 = .ok (.goto 23, 3) := by decide +kernel
theorem dX12_ownPart_24 : decode cX12_ownPart 24 = .ok (.aload_n 0, 1) := by decide +kernel
theorem dX12_ownPart_25 : decode cX12_ownPart 25 = .ok (.aload_n 0, 1) := by decide +kernel
theorem dX12_ownPart_26 : decode cX12_ownPart 26 = .ok (.iload_n 1, 1) := by decide +kernel
theorem dX12_ownPart_27 : decode cX12_ownPart 27 = .ok (.invokevirtual 167, 3) := by decide +kernel
theorem dX12_ownPart_30 : decode cX12_ownPart 30 = .ok (.iconst 3, 1) := by decide +kernel
theorem dX12_ownPart_31 : decode cX12_ownPart 31 = .ok (.invokevirtual 104, 3) := by decide +kernel
theorem dX12_ownPart_34 : decode cX12_ownPart 34 = .ok (.aload_n 0, 1) := by decide +kernel
theorem dX12_ownPart_35 : decode cX12_ownPart 35 = .ok (.aload_n 0, 1) := by decide +kernel
theorem dX12_ownPart_36 : decode cX12_ownPart 36 = .ok (.iload_n 1, 1) := by decide +kernel
theorem dX12_ownPart_37 : decode cX12_ownPart 37 = .ok (.invokevirtual 167, 3) := by decide +kernel
theorem dX12_ownPart_40 : decode cX12_ownPart 40 = .ok (.invokevirtual 146, 3) := by decide +kernel
theorem dX12_ownPart_43 : decode cX12_ownPart 43 = .ok (.isub, 1) := by decide +kernel
theorem dX12_ownPart_44 : decode cX12_ownPart 44 = .ok (.ireturn, 1) := by decide +kernel
theorem dX12_recovered_0 : decode cX12_recovered 0 = .ok (.aload_n 0, 1) := by decide +kernel
theorem dX12_recovered_1 : decode cX12_recovered 1 = .ok (.aload_n 0, 1) := by decide +kernel
theorem dX12_recovered_2 : decode cX12_recovered 2 = .ok (.iload_n 1, 1) := by decide +kernel
theorem dX12_recovered_3 : decode cX12_recovered 3 = .ok (.invokevirtual 167, 3) := by decide +kernel
theorem dX12_recovered_6 : decode cX12_recovered 6 = .ok (.ifCond .lt 7, 3) := by decide +kernel
theorem dX12_recovered_9 : decode cX12_recovered 9 = .ok (.iconst 1, 1) := by decide +kernel
theorem dX12_recovered_10 : decode cX12_recovered 10 = .ok (.goto 4, 3) := by decide +kernel
theorem dX12_recovered_13 : decode cX12_recovered 13 = .ok (.iconst 0, 1) := by decide +kernel
theorem dX12_recovered_14 : decode cX12_recovered 14 = .ok (.invokevirtual 213, 3) := by decide +kernel
theorem dX12_recovered_17 : decode cX12_recovered 17 = .ok (.ifCond .le 7, 3) := by decide +kernel
theorem dX12_recovered_20 : decode cX12_recovered 20 = .ok (.iconst 0, 1) := by decide +kernel
theorem dX12_recovered_21 : decode cX12_recovered 21 = .ok (.goto 12, 3) := by decide +kernel
theorem dX12_recovered_24 : decode cX12_recovered 24 = .ok (.aload_n 0, 1) := by decide +kernel
theorem dX12_recovered_25 : decode cX12_recovered 25 = .ok (.aload_n 0, 1) := by decide +kernel
theorem dX12_recovered_26 : decode cX12_recovered 26 = .ok (.iload_n 1, 1) := by decide +kernel
theorem dX12_recovered_27 : decode cX12_recovered 27 = .ok (.invokevirtual 167, 3) := by decide +kernel
theorem dX12_recovered_30 : decode cX12_recovered 30 = .ok (.invokevirtual 170, 3) := by decide +kernel
theorem dX12_recovered_33 : decode cX12_recovered 33 = .ok (.ireturn, 1) := by decide +kernel
theorem dX12_treatyCount_0 : decode cX12_treatyCount 0 = .ok (.aload_n 0, 1) := by decide +kernel
theorem dX12_treatyCount_1 : decode cX12_treatyCount 1 = .ok (.aload_n 0, 1) := by decide +kernel
theorem dX12_treatyCount_2 : decode cX12_treatyCount 2 = .ok (.getfield 7, 3) := by decide +kernel
theorem dX12_treatyCount_5 : decode cX12_treatyCount 5 = .ok (.iconst 2, 1) := by decide +kernel
theorem dX12_treatyCount_6 : decode cX12_treatyCount 6 = .ok (.iaload, 1) := by decide +kernel
theorem dX12_treatyCount_7 : decode cX12_treatyCount 7 = .ok (.invokevirtual 210, 3) := by decide +kernel
theorem dX12_treatyCount_10 : decode cX12_treatyCount 10 = .ok (.ireturn, 1) := by decide +kernel
theorem dX12_startOf_0 : decode cX12_startOf 0 = .ok (.aload_n 0, 1) := by decide +kernel
theorem dX12_startOf_1 : decode cX12_startOf 1 = .ok (.aload_n 0, 1) := by decide +kernel
theorem dX12_startOf_2 : decode cX12_startOf 2 = .ok (.iload_n 1, 1) := by decide +kernel
theorem dX12_startOf_3 : decode cX12_startOf 3 = .ok (.invokevirtual 134, 3) := by decide +kernel
theorem dX12_startOf_6 : decode cX12_startOf 6 = .ok (.invokevirtual 213, 3) := by decide +kernel
theorem dX12_startOf_9 : decode cX12_startOf 9 = .ok (.ifCond .le 7, 3) := by decide +kernel
theorem dX12_startOf_12 : decode cX12_startOf 12 = .ok (.iconst 0, 1) := by decide +kernel
theorem dX12_startOf_13 : decode cX12_startOf 13 = .ok (.goto 9, 3) := by decide +kernel
theorem dX12_startOf_16 : decode cX12_startOf 16 = .ok (.aload_n 0, 1) := by decide +kernel
theorem dX12_startOf_17 : decode cX12_startOf 17 = .ok (.iload_n 1, 1) := by decide +kernel
theorem dX12_startOf_18 : decode cX12_startOf 18 = .ok (.iconst 0, 1) := by decide +kernel
theorem dX12_startOf_19 : decode cX12_startOf 19 = .ok (.invokevirtual 137, 3) := by decide +kernel
theorem dX12_startOf_22 : decode cX12_startOf 22 = .ok (.ireturn, 1) := by decide +kernel
theorem dX12_capacityOf_0 : decode cX12_capacityOf 0 = .ok (.aload_n 0, 1) := by decide +kernel
theorem dX12_capacityOf_1 : decode cX12_capacityOf 1 = .ok (.aload_n 0, 1) := by decide +kernel
theorem dX12_capacityOf_2 : decode cX12_capacityOf 2 = .ok (.iload_n 1, 1) := by decide +kernel
theorem dX12_capacityOf_3 : decode cX12_capacityOf 3 = .ok (.invokevirtual 134, 3) := by decide +kernel
theorem dX12_capacityOf_6 : decode cX12_capacityOf 6 = .ok (.invokevirtual 213, 3) := by decide +kernel
theorem dX12_capacityOf_9 : decode cX12_capacityOf 9 = .ok (.ifCond .le 7, 3) := by decide +kernel
theorem dX12_capacityOf_12 : decode cX12_capacityOf 12 = .ok (.iconst 0, 1) := by decide +kernel
theorem dX12_capacityOf_13 : decode cX12_capacityOf 13 = .ok (.goto 9, 3) := by decide +kernel
theorem dX12_capacityOf_16 : decode cX12_capacityOf 16 = .ok (.aload_n 0, 1) := by decide +kernel
theorem dX12_capacityOf_17 : decode cX12_capacityOf 17 = .ok (.iload_n 1, 1) := by decide +kernel
theorem dX12_capacityOf_18 : decode cX12_capacityOf 18 = .ok (.iconst 2, 1) := by decide +kernel
theorem dX12_capacityOf_19 : decode cX12_capacityOf 19 = .ok (.invokevirtual 137, 3) := by decide +kernel
theorem dX12_capacityOf_22 : decode cX12_capacityOf 22 = .ok (.ireturn, 1) := by decide +kernel
theorem dX12_wouldBear_0 : decode cX12_wouldBear 0 = .ok (.aload_n 0, 1) := by decide +kernel
theorem dX12_wouldBear_1 : decode cX12_wouldBear 1 = .ok (.iload_n 1, 1) := by decide +kernel
theorem dX12_wouldBear_2 : decode cX12_wouldBear 2 = .ok (.iconst 1, 1) := by decide +kernel
theorem dX12_wouldBear_3 : decode cX12_wouldBear 3 = .ok (.bipush 30, 2) := by decide +kernel
theorem dX12_wouldBear_5 : decode cX12_wouldBear 5 = .ok (.invokestatic 83, 3) := by decide +kernel
theorem dX12_wouldBear_8 : decode cX12_wouldBear 8 = .ok (.invokevirtual 213, 3) := by decide +kernel
theorem dX12_wouldBear_11 : decode cX12_wouldBear 11 = .ok (.ifCond .le 7, 3) := by decide +kernel
theorem dX12_wouldBear_14 : decode cX12_wouldBear 14 = .ok (.iconst 0, 1) := by decide +kernel
theorem dX12_wouldBear_15 : decode cX12_wouldBear 15 = .ok (.goto 8, 3) := by decide +kernel
theorem dX12_wouldBear_18 : decode cX12_wouldBear 18 = .ok (.aload_n 0, 1) := by decide +kernel
theorem dX12_wouldBear_19 : decode cX12_wouldBear 19 = .ok (.iload_n 1, 1) := by decide +kernel
theorem dX12_wouldBear_20 : decode cX12_wouldBear 20 = .ok (.invokevirtual 158, 3) := by decide +kernel
theorem dX12_wouldBear_23 : decode cX12_wouldBear 23 = .ok (.ireturn, 1) := by decide +kernel
theorem dX12_borne_0 : decode cX12_borne 0 = .ok (.aload_n 0, 1) := by decide +kernel
theorem dX12_borne_1 : decode cX12_borne 1 = .ok (.iload_n 1, 1) := by decide +kernel
theorem dX12_borne_2 : decode cX12_borne 2 = .ok (.invokevirtual 223, 3) := by decide +kernel
theorem dX12_borne_5 : decode cX12_borne 5 = .ok (.ireturn, 1) := by decide +kernel
theorem dX12_borneByCoins_0 : decode cX12_borneByCoins 0 = .ok (.aload_n 0, 1) := by decide +kernel
theorem dX12_borneByCoins_1 : decode cX12_borneByCoins 1 = .ok (.iload_n 1, 1) := by decide +kernel
theorem dX12_borneByCoins_2 : decode cX12_borneByCoins 2 = .ok (.invokevirtual 223, 3) := by decide +kernel
theorem dX12_borneByCoins_5 : decode cX12_borneByCoins 5 = .ok (.ireturn, 1) := by decide +kernel
theorem dX12_outcomes_0 : decode cX12_outcomes 0 = .ok (.aload_n 0, 1) := by decide +kernel
theorem dX12_outcomes_1 : decode cX12_outcomes 1 = .ok (.iconst 0, 1) := by decide +kernel
theorem dX12_outcomes_2 : decode cX12_outcomes 2 = .ok (.putfield 28, 3) := by decide +kernel
theorem dX12_outcomes_5 : decode cX12_outcomes 5 = .ok (.lconst 1, 1) := by decide +kernel
theorem dX12_outcomes_6 : decode cX12_outcomes 6 = .ok (.lstore_n 1, 1) := by decide +kernel
theorem dX12_outcomes_7 : decode cX12_outcomes 7 = .ok (.iconst 0, 1) := by decide +kernel
theorem dX12_outcomes_8 : decode cX12_outcomes 8 = .ok (.istore_n 3, 1) := by decide +kernel
theorem dX12_outcomes_9 : decode cX12_outcomes 9 = .ok (.iload_n 3, 1) := by decide +kernel
theorem dX12_outcomes_10 : decode cX12_outcomes 10 = .ok (.aload_n 0, 1) := by decide +kernel
theorem dX12_outcomes_11 : decode cX12_outcomes 11 = .ok (.getfield 7, 3) := by decide +kernel
theorem dX12_outcomes_14 : decode cX12_outcomes 14 = .ok (.iconst 0, 1) := by decide +kernel
theorem dX12_outcomes_15 : decode cX12_outcomes 15 = .ok (.iaload, 1) := by decide +kernel
theorem dX12_outcomes_16 : decode cX12_outcomes 16 = .ok (.if_icmp .ge 27, 3) := by decide +kernel
theorem dX12_outcomes_19 : decode cX12_outcomes 19 = .ok (.lload_n 1, 1) := by decide +kernel
theorem dX12_outcomes_20 : decode cX12_outcomes 20 = .ok (.aload_n 0, 1) := by decide +kernel
theorem dX12_outcomes_21 : decode cX12_outcomes 21 = .ok (.iload_n 3, 1) := by decide +kernel
theorem dX12_outcomes_22 : decode cX12_outcomes 22 = .ok (.invokevirtual 114, 3) := by decide +kernel
theorem dX12_outcomes_25 : decode cX12_outcomes 25 = .ok (.ifCond .eq 9, 3) := by decide +kernel
theorem dX12_outcomes_28 : decode cX12_outcomes 28 = .ok (.ldc2_w 226, 3) := by decide +kernel
theorem dX12_outcomes_31 : decode cX12_outcomes 31 = .ok (.goto 4, 3) := by decide +kernel
theorem dX12_outcomes_34 : decode cX12_outcomes 34 = .ok (.lconst 1, 1) := by decide +kernel
theorem dX12_outcomes_35 : decode cX12_outcomes 35 = .ok (.lmul, 1) := by decide +kernel
theorem dX12_outcomes_36 : decode cX12_outcomes 36 = .ok (.lstore_n 1, 1) := by decide +kernel
theorem dX12_outcomes_37 : decode cX12_outcomes 37 = .ok (.iinc 3 1, 3) := by decide +kernel
theorem dX12_outcomes_40 : decode cX12_outcomes 40 = .ok (.goto (-31), 3) := by decide +kernel
theorem dX12_outcomes_43 : decode cX12_outcomes 43 = .ok (.lload_n 1, 1) := by decide +kernel
theorem dX12_outcomes_44 : decode cX12_outcomes 44 = .ok (.lreturn, 1) := by decide +kernel
theorem dX12_soaking_0 : decode cX12_soaking 0 = .ok (.lconst 1, 1) := by decide +kernel
theorem dX12_soaking_1 : decode cX12_soaking 1 = .ok (.lstore_n 2, 1) := by decide +kernel
theorem dX12_soaking_2 : decode cX12_soaking 2 = .ok (.iconst 0, 1) := by decide +kernel
theorem dX12_soaking_3 : decode cX12_soaking 3 = .ok (.istore 4, 2) := by decide +kernel
theorem dX12_soaking_5 : decode cX12_soaking 5 = .ok (.iload 4, 2) := by decide +kernel
theorem dX12_soaking_7 : decode cX12_soaking 7 = .ok (.aload_n 0, 1) := by decide +kernel
theorem dX12_soaking_8 : decode cX12_soaking 8 = .ok (.getfield 7, 3) := by decide +kernel
theorem dX12_soaking_11 : decode cX12_soaking 11 = .ok (.iconst 0, 1) := by decide +kernel
theorem dX12_soaking_12 : decode cX12_soaking 12 = .ok (.iaload, 1) := by decide +kernel
theorem dX12_soaking_13 : decode cX12_soaking 13 = .ok (.if_icmp .ge 81, 3) := by decide +kernel
theorem dX12_soaking_16 : decode cX12_soaking 16 = .ok (.iload_n 1, 1) := by decide +kernel
theorem dX12_soaking_17 : decode cX12_soaking 17 = .ok (.iload 4, 2) := by decide +kernel
theorem dX12_soaking_19 : decode cX12_soaking 19 = .ok (.ishr, 1) := by decide +kernel
theorem dX12_soaking_20 : decode cX12_soaking 20 = .ok (.iconst 1, 1) := by decide +kernel
theorem dX12_soaking_21 : decode cX12_soaking 21 = .ok (.iand, 1) := by decide +kernel
theorem dX12_soaking_22 : decode cX12_soaking 22 = .ok (.iconst 1, 1) := by decide +kernel
theorem dX12_soaking_23 : decode cX12_soaking 23 = .ok (.if_icmp .ne 7, 3) := by decide +kernel
theorem dX12_soaking_26 : decode cX12_soaking 26 = .ok (.iconst 1, 1) := by decide +kernel
theorem dX12_soaking_27 : decode cX12_soaking 27 = .ok (.goto 4, 3) := by decide +kernel
theorem dX12_soaking_30 : decode cX12_soaking 30 = .ok (.iconst 0, 1) := by decide +kernel
theorem dX12_soaking_31 : decode cX12_soaking 31 = .ok (.istore 5, 2) := by decide +kernel
theorem dX12_soaking_33 : decode cX12_soaking 33 = .ok (.aload_n 0, 1) := by decide +kernel
theorem dX12_soaking_34 : decode cX12_soaking 34 = .ok (.iload 4, 2) := by decide +kernel
theorem dX12_soaking_36 : decode cX12_soaking 36 = .ok (.invokevirtual 114, 3) := by decide +kernel
theorem dX12_soaking_39 : decode cX12_soaking 39 = .ok (.ifCond .eq 36, 3) := by decide +kernel
theorem dX12_soaking_42 : decode cX12_soaking 42 = .ok (.lload_n 2, 1) := by decide +kernel
theorem dX12_soaking_43 : decode cX12_soaking 43 = .ok (.iload 5, 2) := by decide +kernel
theorem dX12_soaking_45 : decode cX12_soaking 45 = .ok (.ifCond .eq 14, 3) := by decide +kernel
theorem dX12_soaking_48 : decode cX12_soaking 48 = .ok (.aload_n 0, 1) := by decide +kernel
theorem dX12_soaking_49 : decode cX12_soaking 49 = .ok (.iload 4, 2) := by decide +kernel
theorem dX12_soaking_51 : decode cX12_soaking 51 = .ok (.iconst 2, 1) := by decide +kernel
theorem dX12_soaking_52 : decode cX12_soaking 52 = .ok (.invokevirtual 79, 3) := by decide +kernel
theorem dX12_soaking_55 : decode cX12_soaking 55 = .ok (.i2l, 1) := by decide +kernel
theorem dX12_soaking_56 : decode cX12_soaking 56 = .ok (.goto 14, 3) := by decide +kernel
theorem dX12_soaking_59 : decode cX12_soaking 59 = .ok (.bipush 8, 2) := by decide +kernel
theorem dX12_soaking_61 : decode cX12_soaking 61 = .ok (.aload_n 0, 1) := by decide +kernel
theorem dX12_soaking_62 : decode cX12_soaking 62 = .ok (.iload 4, 2) := by decide +kernel
theorem dX12_soaking_64 : decode cX12_soaking 64 = .ok (.iconst 2, 1) := by decide +kernel
theorem dX12_soaking_65 : decode cX12_soaking 65 = .ok (.invokevirtual 79, 3) := by decide +kernel
theorem dX12_soaking_68 : decode cX12_soaking 68 = .ok (.isub, 1) := by decide +kernel
theorem dX12_soaking_69 : decode cX12_soaking 69 = .ok (.i2l, 1) := by decide +kernel
theorem dX12_soaking_70 : decode cX12_soaking 70 = .ok (.lmul, 1) := by decide +kernel
theorem dX12_soaking_71 : decode cX12_soaking 71 = .ok (.lstore_n 2, 1) := by decide +kernel
theorem dX12_soaking_72 : decode cX12_soaking 72 = .ok (.goto 16, 3) := by decide +kernel
theorem dX12_soaking_75 : decode cX12_soaking 75 = .ok (.lload_n 2, 1) := by decide +kernel
theorem dX12_soaking_76 : decode cX12_soaking 76 = .ok (.iload 5, 2) := by decide +kernel
theorem dX12_soaking_78 : decode cX12_soaking 78 = .ok (.ifCond .eq 7, 3) := by decide +kernel
theorem dX12_soaking_81 : decode cX12_soaking 81 = .ok (.lconst 0, 1) := by decide +kernel
theorem dX12_soaking_82 : decode cX12_soaking 82 = .ok (.goto 4, 3) := by decide +kernel
theorem dX12_soaking_85 : decode cX12_soaking 85 = .ok (.lconst 1, 1) := by decide +kernel
theorem dX12_soaking_86 : decode cX12_soaking 86 = .ok (.lmul, 1) := by decide +kernel
theorem dX12_soaking_87 : decode cX12_soaking 87 = .ok (.lstore_n 2, 1) := by decide +kernel
theorem dX12_soaking_88 : decode cX12_soaking 88 = .ok (.iinc 4 1, 3) := by decide +kernel
theorem dX12_soaking_91 : decode cX12_soaking 91 = .ok (.goto (-86), 3) := by decide +kernel
theorem dX12_soaking_94 : decode cX12_soaking 94 = .ok (.lload_n 2, 1) := by decide +kernel
theorem dX12_soaking_95 : decode cX12_soaking 95 = .ok (.lreturn, 1) := by decide +kernel
theorem dX12_lossOf_0 : decode cX12_lossOf 0 = .ok (.iconst 0, 1) := by decide +kernel
theorem dX12_lossOf_1 : decode cX12_lossOf 1 = .ok (.istore_n 2, 1) := by decide +kernel
theorem dX12_lossOf_2 : decode cX12_lossOf 2 = .ok (.iconst 0, 1) := by decide +kernel
theorem dX12_lossOf_3 : decode cX12_lossOf 3 = .ok (.istore_n 3, 1) := by decide +kernel
theorem dX12_lossOf_4 : decode cX12_lossOf 4 = .ok (.iload_n 3, 1) := by decide +kernel
theorem dX12_lossOf_5 : decode cX12_lossOf 5 = .ok (.aload_n 0, 1) := by decide +kernel
theorem dX12_lossOf_6 : decode cX12_lossOf 6 = .ok (.getfield 7, 3) := by decide +kernel
theorem dX12_lossOf_9 : decode cX12_lossOf 9 = .ok (.iconst 0, 1) := by decide +kernel
theorem dX12_lossOf_10 : decode cX12_lossOf 10 = .ok (.iaload, 1) := by decide +kernel
theorem dX12_lossOf_11 : decode cX12_lossOf 11 = .ok (.if_icmp .ge 24, 3) := by decide +kernel
theorem dX12_lossOf_14 : decode cX12_lossOf 14 = .ok (.iload_n 2, 1) := by decide +kernel
theorem dX12_lossOf_15 : decode cX12_lossOf 15 = .ok (.iload_n 1, 1) := by decide +kernel
theorem dX12_lossOf_16 : decode cX12_lossOf 16 = .ok (.iload_n 3, 1) := by decide +kernel
theorem dX12_lossOf_17 : decode cX12_lossOf 17 = .ok (.ishr, 1) := by decide +kernel
theorem dX12_lossOf_18 : decode cX12_lossOf 18 = .ok (.iconst 1, 1) := by decide +kernel
theorem dX12_lossOf_19 : decode cX12_lossOf 19 = .ok (.iand, 1) := by decide +kernel
theorem dX12_lossOf_20 : decode cX12_lossOf 20 = .ok (.aload_n 0, 1) := by decide +kernel
theorem dX12_lossOf_21 : decode cX12_lossOf 21 = .ok (.iload_n 3, 1) := by decide +kernel
theorem dX12_lossOf_22 : decode cX12_lossOf 22 = .ok (.iconst 1, 1) := by decide +kernel
theorem dX12_lossOf_23 : decode cX12_lossOf 23 = .ok (.invokevirtual 79, 3) := by decide +kernel
theorem dX12_lossOf_26 : decode cX12_lossOf 26 = .ok (.imul, 1) := by decide +kernel
theorem dX12_lossOf_27 : decode cX12_lossOf 27 = .ok (.iadd, 1) := by decide +kernel
theorem dX12_lossOf_28 : decode cX12_lossOf 28 = .ok (.istore_n 2, 1) := by decide +kernel
theorem dX12_lossOf_29 : decode cX12_lossOf 29 = .ok (.iinc 3 1, 3) := by decide +kernel
theorem dX12_lossOf_32 : decode cX12_lossOf 32 = .ok (.goto (-28), 3) := by decide +kernel
theorem dX12_lossOf_35 : decode cX12_lossOf 35 = .ok (.iload_n 2, 1) := by decide +kernel
theorem dX12_lossOf_36 : decode cX12_lossOf 36 = .ok (.ireturn, 1) := by decide +kernel
theorem dX12_within_0 : decode cX12_within 0 = .ok (.aload_n 0, 1) := by decide +kernel
theorem dX12_within_1 : decode cX12_within 1 = .ok (.iload_n 1, 1) := by decide +kernel
theorem dX12_within_2 : decode cX12_within 2 = .ok (.ifCond .ge 7, 3) := by decide +kernel
theorem dX12_within_5 : decode cX12_within 5 = .ok (.iconst 1, 1) := by decide +kernel
theorem dX12_within_6 : decode cX12_within 6 = .ok (.goto 4, 3) := by decide +kernel
theorem dX12_within_9 : decode cX12_within 9 = .ok (.iconst 0, 1) := by decide +kernel
theorem dX12_within_10 : decode cX12_within 10 = .ok (.putfield 28, 3) := by decide +kernel
theorem dX12_within_13 : decode cX12_within 13 = .ok (.aload_n 0, 1) := by decide +kernel
theorem dX12_within_14 : decode cX12_within 14 = .ok (.getfield 28, 3) := by decide +kernel
theorem dX12_within_17 : decode cX12_within 17 = .ok (.ifCond .le 5, 3) := by decide +kernel
theorem dX12_within_20 : decode cX12_within 20 = .ok (.lconst 0, 1) := by decide +kernel
theorem dX12_within_21 : decode cX12_within 21 = .ok (.lreturn, 1) := by decide +kernel
theorem dX12_within_22 : decode cX12_within 22 = .ok (.lconst 0, 1) := by decide +kernel
theorem dX12_within_23 : decode cX12_within 23 = .ok (.lstore_n 2, 1) := by decide +kernel
theorem dX12_within_24 : decode cX12_within 24 = .ok (.iconst 0, 1) := by decide +kernel
theorem dX12_within_25 : decode cX12_within 25 = .ok (.istore 4, 2) := by decide +kernel
theorem dX12_within_27 : decode cX12_within 27 = .ok (.iload 4, 2) := by decide +kernel
theorem dX12_within_29 : decode cX12_within 29 = .ok (.iconst 1, 1) := by decide +kernel
theorem dX12_within_30 : decode cX12_within 30 = .ok (.aload_n 0, 1) := by decide +kernel
theorem dX12_within_31 : decode cX12_within 31 = .ok (.getfield 7, 3) := by decide +kernel
theorem dX12_within_34 : decode cX12_within 34 = .ok (.iconst 0, 1) := by decide +kernel
theorem dX12_within_35 : decode cX12_within 35 = .ok (.iaload, 1) := by decide +kernel
theorem dX12_within_36 : decode cX12_within 36 = .ok (.ishl, 1) := by decide +kernel
theorem dX12_within_37 : decode cX12_within 37 = .ok (.if_icmp .ge 32, 3) := by decide +kernel
theorem dX12_within_40 : decode cX12_within 40 = .ok (.lload_n 2, 1) := by decide +kernel
theorem dX12_within_41 : decode cX12_within 41 = .ok (.aload_n 0, 1) := by decide +kernel
theorem dX12_within_42 : decode cX12_within 42 = .ok (.iload 4, 2) := by decide +kernel
theorem dX12_within_44 : decode cX12_within 44 = .ok (.invokevirtual 228, 3) := by decide +kernel
theorem dX12_within_47 : decode cX12_within 47 = .ok (.iload_n 1, 1) := by decide +kernel
theorem dX12_within_48 : decode cX12_within 48 = .ok (.if_icmp .gt 12, 3) := by decide +kernel
theorem dX12_within_51 : decode cX12_within 51 = .ok (.aload_n 0, 1) := by decide +kernel
theorem dX12_within_52 : decode cX12_within 52 = .ok (.iload 4, 2) := by decide +kernel
theorem dX12_within_54 : decode cX12_within 54 = .ok (.invokevirtual 231, 3) := by decide +kernel
theorem dX12_within_57 : decode cX12_within 57 = .ok (.goto 4, 3) := by decide +kernel
theorem dX12_within_60 : decode cX12_within 60 = .ok (.lconst 0, 1) := by decide +kernel
theorem dX12_within_61 : decode cX12_within 61 = .ok (.ladd, 1) := by decide +kernel
theorem dX12_within_62 : decode cX12_within 62 = .ok (.lstore_n 2, 1) := by decide +kernel
theorem dX12_within_63 : decode cX12_within 63 = .ok (.iinc 4 1, 3) := by decide +kernel
theorem dX12_within_66 : decode cX12_within 66 = .ok (.goto (-39), 3) := by decide +kernel
theorem dX12_within_69 : decode cX12_within 69 = .ok (.lload_n 2, 1) := by decide +kernel
theorem dX12_within_70 : decode cX12_within 70 = .ok (.lreturn, 1) := by decide +kernel
theorem dX12_outcomesWithin_0 : decode cX12_outcomesWithin 0 = .ok (.aload_n 0, 1) := by decide +kernel
theorem dX12_outcomesWithin_1 : decode cX12_outcomesWithin 1 = .ok (.iload_n 1, 1) := by decide +kernel
theorem dX12_outcomesWithin_2 : decode cX12_outcomesWithin 2 = .ok (.invokevirtual 235, 3) := by decide +kernel
theorem dX12_outcomesWithin_5 : decode cX12_outcomesWithin 5 = .ok (.lreturn, 1) := by decide +kernel
theorem dX12_outcomesWithinBySets_0 : decode cX12_outcomesWithinBySets 0 = .ok (.aload_n 0, 1) := by decide +kernel
theorem dX12_outcomesWithinBySets_1 : decode cX12_outcomesWithinBySets 1 = .ok (.iload_n 1, 1) := by decide +kernel
theorem dX12_outcomesWithinBySets_2 : decode cX12_outcomesWithinBySets 2 = .ok (.invokevirtual 235, 3) := by decide +kernel
theorem dX12_outcomesWithinBySets_5 : decode cX12_outcomesWithinBySets 5 = .ok (.lreturn, 1) := by decide +kernel
theorem dX12_greatestLoss_0 : decode cX12_greatestLoss 0 = .ok (.aload_n 0, 1) := by decide +kernel
theorem dX12_greatestLoss_1 : decode cX12_greatestLoss 1 = .ok (.iconst 0, 1) := by decide +kernel
theorem dX12_greatestLoss_2 : decode cX12_greatestLoss 2 = .ok (.putfield 28, 3) := by decide +kernel
theorem dX12_greatestLoss_5 : decode cX12_greatestLoss 5 = .ok (.iconst 0, 1) := by decide +kernel
theorem dX12_greatestLoss_6 : decode cX12_greatestLoss 6 = .ok (.istore_n 1, 1) := by decide +kernel
theorem dX12_greatestLoss_7 : decode cX12_greatestLoss 7 = .ok (.iconst 0, 1) := by decide +kernel
theorem dX12_greatestLoss_8 : decode cX12_greatestLoss 8 = .ok (.istore_n 2, 1) := by decide +kernel
theorem dX12_greatestLoss_9 : decode cX12_greatestLoss 9 = .ok (.iload_n 2, 1) := by decide +kernel
theorem dX12_greatestLoss_10 : decode cX12_greatestLoss 10 = .ok (.aload_n 0, 1) := by decide +kernel
theorem dX12_greatestLoss_11 : decode cX12_greatestLoss 11 = .ok (.getfield 7, 3) := by decide +kernel
theorem dX12_greatestLoss_14 : decode cX12_greatestLoss 14 = .ok (.iconst 0, 1) := by decide +kernel
theorem dX12_greatestLoss_15 : decode cX12_greatestLoss 15 = .ok (.iaload, 1) := by decide +kernel
theorem dX12_greatestLoss_16 : decode cX12_greatestLoss 16 = .ok (.if_icmp .ge 39, 3) := by decide +kernel
theorem dX12_greatestLoss_19 : decode cX12_greatestLoss 19 = .ok (.iload_n 1, 1) := by decide +kernel
theorem dX12_greatestLoss_20 : decode cX12_greatestLoss 20 = .ok (.aload_n 0, 1) := by decide +kernel
theorem dX12_greatestLoss_21 : decode cX12_greatestLoss 21 = .ok (.iload_n 2, 1) := by decide +kernel
theorem dX12_greatestLoss_22 : decode cX12_greatestLoss 22 = .ok (.invokevirtual 114, 3) := by decide +kernel
theorem dX12_greatestLoss_25 : decode cX12_greatestLoss 25 = .ok (.ifCond .eq 21, 3) := by decide +kernel
theorem dX12_greatestLoss_28 : decode cX12_greatestLoss 28 = .ok (.aload_n 0, 1) := by decide +kernel
theorem dX12_greatestLoss_29 : decode cX12_greatestLoss 29 = .ok (.iload_n 2, 1) := by decide +kernel
theorem dX12_greatestLoss_30 : decode cX12_greatestLoss 30 = .ok (.iconst 2, 1) := by decide +kernel
theorem dX12_greatestLoss_31 : decode cX12_greatestLoss 31 = .ok (.invokevirtual 79, 3) := by decide +kernel
theorem dX12_greatestLoss_34 : decode cX12_greatestLoss 34 = .ok (.ifCond .le 12, 3) := by decide +kernel
theorem dX12_greatestLoss_37 : decode cX12_greatestLoss 37 = .ok (.aload_n 0, 1) := by decide +kernel
theorem dX12_greatestLoss_38 : decode cX12_greatestLoss 38 = .ok (.iload_n 2, 1) := by decide +kernel
theorem dX12_greatestLoss_39 : decode cX12_greatestLoss 39 = .ok (.iconst 1, 1) := by decide +kernel
theorem dX12_greatestLoss_40 : decode cX12_greatestLoss 40 = .ok (.invokevirtual 79, 3) := by decide +kernel
theorem dX12_greatestLoss_43 : decode cX12_greatestLoss 43 = .ok (.goto 4, 3) := by decide +kernel
theorem dX12_greatestLoss_46 : decode cX12_greatestLoss 46 = .ok (.iconst 0, 1) := by decide +kernel
theorem dX12_greatestLoss_47 : decode cX12_greatestLoss 47 = .ok (.iadd, 1) := by decide +kernel
theorem dX12_greatestLoss_48 : decode cX12_greatestLoss 48 = .ok (.istore_n 1, 1) := by decide +kernel
theorem dX12_greatestLoss_49 : decode cX12_greatestLoss 49 = .ok (.iinc 2 1, 3) := by decide +kernel
theorem dX12_greatestLoss_52 : decode cX12_greatestLoss 52 = .ok (.goto (-43), 3) := by decide +kernel
theorem dX12_greatestLoss_55 : decode cX12_greatestLoss 55 = .ok (.iload_n 1, 1) := by decide +kernel
theorem dX12_greatestLoss_56 : decode cX12_greatestLoss 56 = .ok (.ireturn, 1) := by decide +kernel
theorem dX12_cell_0 : decode cX12_cell 0 = .ok (.aload_n 0, 1) := by decide +kernel
theorem dX12_cell_1 : decode cX12_cell 1 = .ok (.getfield 7, 3) := by decide +kernel
theorem dX12_cell_4 : decode cX12_cell 4 = .ok (.sipush 264, 3) := by decide +kernel
theorem dX12_cell_7 : decode cX12_cell 7 = .ok (.bipush 6, 2) := by decide +kernel
theorem dX12_cell_9 : decode cX12_cell 9 = .ok (.iload_n 1, 1) := by decide +kernel
theorem dX12_cell_10 : decode cX12_cell 10 = .ok (.imul, 1) := by decide +kernel
theorem dX12_cell_11 : decode cX12_cell 11 = .ok (.iadd, 1) := by decide +kernel
theorem dX12_cell_12 : decode cX12_cell 12 = .ok (.iload_n 2, 1) := by decide +kernel
theorem dX12_cell_13 : decode cX12_cell 13 = .ok (.iadd, 1) := by decide +kernel
theorem dX12_cell_14 : decode cX12_cell 14 = .ok (.iaload, 1) := by decide +kernel
theorem dX12_cell_15 : decode cX12_cell 15 = .ok (.ireturn, 1) := by decide +kernel
theorem dX12_paidIn_0 : decode cX12_paidIn 0 = .ok (.aload_n 0, 1) := by decide +kernel
theorem dX12_paidIn_1 : decode cX12_paidIn 1 = .ok (.iload_n 1, 1) := by decide +kernel
theorem dX12_paidIn_2 : decode cX12_paidIn 2 = .ok (.iconst 0, 1) := by decide +kernel
theorem dX12_paidIn_3 : decode cX12_paidIn 3 = .ok (.iconst 5, 1) := by decide +kernel
theorem dX12_paidIn_4 : decode cX12_paidIn 4 = .ok (.invokestatic 83, 3) := by decide +kernel
theorem dX12_paidIn_7 : decode cX12_paidIn 7 = .ok (.ifCond .eq 16, 3) := by decide +kernel
theorem dX12_paidIn_10 : decode cX12_paidIn 10 = .ok (.iload_n 2, 1) := by decide +kernel
theorem dX12_paidIn_11 : decode cX12_paidIn 11 = .ok (.iconst 0, 1) := by decide +kernel
theorem dX12_paidIn_12 : decode cX12_paidIn 12 = .ok (.iconst 5, 1) := by decide +kernel
theorem dX12_paidIn_13 : decode cX12_paidIn 13 = .ok (.invokestatic 83, 3) := by decide +kernel
theorem dX12_paidIn_16 : decode cX12_paidIn 16 = .ok (.ifCond .eq 7, 3) := by decide +kernel
theorem dX12_paidIn_19 : decode cX12_paidIn 19 = .ok (.iconst 1, 1) := by decide +kernel
theorem dX12_paidIn_20 : decode cX12_paidIn 20 = .ok (.goto 4, 3) := by decide +kernel
theorem dX12_paidIn_23 : decode cX12_paidIn 23 = .ok (.iconst 0, 1) := by decide +kernel
theorem dX12_paidIn_24 : decode cX12_paidIn 24 = .ok (.invokevirtual 213, 3) := by decide +kernel
theorem dX12_paidIn_27 : decode cX12_paidIn 27 = .ok (.ifCond .le 7, 3) := by decide +kernel
theorem dX12_paidIn_30 : decode cX12_paidIn 30 = .ok (.iconst 0, 1) := by decide +kernel
theorem dX12_paidIn_31 : decode cX12_paidIn 31 = .ok (.goto 9, 3) := by decide +kernel
theorem dX12_paidIn_34 : decode cX12_paidIn 34 = .ok (.aload_n 0, 1) := by decide +kernel
theorem dX12_paidIn_35 : decode cX12_paidIn 35 = .ok (.iload_n 1, 1) := by decide +kernel
theorem dX12_paidIn_36 : decode cX12_paidIn 36 = .ok (.iload_n 2, 1) := by decide +kernel
theorem dX12_paidIn_37 : decode cX12_paidIn 37 = .ok (.invokevirtual 238, 3) := by decide +kernel
theorem dX12_paidIn_40 : decode cX12_paidIn 40 = .ok (.ireturn, 1) := by decide +kernel
theorem dX12_latest_0 : decode cX12_latest 0 = .ok (.aload_n 0, 1) := by decide +kernel
theorem dX12_latest_1 : decode cX12_latest 1 = .ok (.getfield 7, 3) := by decide +kernel
theorem dX12_latest_4 : decode cX12_latest 4 = .ok (.bipush 6, 2) := by decide +kernel
theorem dX12_latest_6 : decode cX12_latest 6 = .ok (.iaload, 1) := by decide +kernel
theorem dX12_latest_7 : decode cX12_latest 7 = .ok (.bipush 10, 2) := by decide +kernel
theorem dX12_latest_9 : decode cX12_latest 9 = .ok (.idiv, 1) := by decide +kernel
theorem dX12_latest_10 : decode cX12_latest 10 = .ok (.iconst 5, 1) := by decide +kernel
theorem dX12_latest_11 : decode cX12_latest 11 = .ok (.if_icmp .le 7, 3) := by decide +kernel
theorem dX12_latest_14 : decode cX12_latest 14 = .ok (.iconst 5, 1) := by decide +kernel
theorem dX12_latest_15 : decode cX12_latest 15 = .ok (.goto 13, 3) := by decide +kernel
theorem dX12_latest_18 : decode cX12_latest 18 = .ok (.aload_n 0, 1) := by decide +kernel
theorem dX12_latest_19 : decode cX12_latest 19 = .ok (.getfield 7, 3) := by decide +kernel
theorem dX12_latest_22 : decode cX12_latest 22 = .ok (.bipush 6, 2) := by decide +kernel
theorem dX12_latest_24 : decode cX12_latest 24 = .ok (.iaload, 1) := by decide +kernel
theorem dX12_latest_25 : decode cX12_latest 25 = .ok (.bipush 10, 2) := by decide +kernel
theorem dX12_latest_27 : decode cX12_latest 27 = .ok (.idiv, 1) := by decide +kernel
theorem dX12_latest_28 : decode cX12_latest 28 = .ok (.ireturn, 1) := by decide +kernel
theorem dX12_lastPeriod_0 : decode cX12_lastPeriod 0 = .ok (.aload_n 0, 1) := by decide +kernel
theorem dX12_lastPeriod_1 : decode cX12_lastPeriod 1 = .ok (.aload_n 0, 1) := by decide +kernel
theorem dX12_lastPeriod_2 : decode cX12_lastPeriod 2 = .ok (.invokevirtual 241, 3) := by decide +kernel
theorem dX12_lastPeriod_5 : decode cX12_lastPeriod 5 = .ok (.invokevirtual 210, 3) := by decide +kernel
theorem dX12_lastPeriod_8 : decode cX12_lastPeriod 8 = .ok (.ireturn, 1) := by decide +kernel
theorem dX12_total_0 : decode cX12_total 0 = .ok (.iconst 0, 1) := by decide +kernel
theorem dX12_total_1 : decode cX12_total 1 = .ok (.istore_n 3, 1) := by decide +kernel
theorem dX12_total_2 : decode cX12_total 2 = .ok (.iconst 0, 1) := by decide +kernel
theorem dX12_total_3 : decode cX12_total 3 = .ok (.istore 4, 2) := by decide +kernel
theorem dX12_total_5 : decode cX12_total 5 = .ok (.iload 4, 2) := by decide +kernel
theorem dX12_total_7 : decode cX12_total 7 = .ok (.iload_n 2, 1) := by decide +kernel
theorem dX12_total_8 : decode cX12_total 8 = .ok (.if_icmp .gt 19, 3) := by decide +kernel
theorem dX12_total_11 : decode cX12_total 11 = .ok (.iload_n 3, 1) := by decide +kernel
theorem dX12_total_12 : decode cX12_total 12 = .ok (.aload_n 0, 1) := by decide +kernel
theorem dX12_total_13 : decode cX12_total 13 = .ok (.iload_n 1, 1) := by decide +kernel
theorem dX12_total_14 : decode cX12_total 14 = .ok (.iload 4, 2) := by decide +kernel
theorem dX12_total_16 : decode cX12_total 16 = .ok (.invokevirtual 238, 3) := by decide +kernel
theorem dX12_total_19 : decode cX12_total 19 = .ok (.iadd, 1) := by decide +kernel
theorem dX12_total_20 : decode cX12_total 20 = .ok (.istore_n 3, 1) := by decide +kernel
theorem dX12_total_21 : decode cX12_total 21 = .ok (.iinc 4 1, 3) := by decide +kernel
theorem dX12_total_24 : decode cX12_total 24 = .ok (.goto (-19), 3) := by decide +kernel
theorem dX12_total_27 : decode cX12_total 27 = .ok (.iload_n 3, 1) := by decide +kernel
theorem dX12_total_28 : decode cX12_total 28 = .ok (.ireturn, 1) := by decide +kernel
theorem dX12_totals_0 : decode cX12_totals 0 = .ok (.iconst 0, 1) := by decide +kernel
theorem dX12_totals_1 : decode cX12_totals 1 = .ok (.istore_n 3, 1) := by decide +kernel
theorem dX12_totals_2 : decode cX12_totals 2 = .ok (.iconst 0, 1) := by decide +kernel
theorem dX12_totals_3 : decode cX12_totals 3 = .ok (.istore 4, 2) := by decide +kernel
theorem dX12_totals_5 : decode cX12_totals 5 = .ok (.iload 4, 2) := by decide +kernel
theorem dX12_totals_7 : decode cX12_totals 7 = .ok (.iload_n 2, 1) := by decide +kernel
theorem dX12_totals_8 : decode cX12_totals 8 = .ok (.iadd, 1) := by decide +kernel
theorem dX12_totals_9 : decode cX12_totals 9 = .ok (.aload_n 0, 1) := by decide +kernel
theorem dX12_totals_10 : decode cX12_totals 10 = .ok (.invokevirtual 241, 3) := by decide +kernel
theorem dX12_totals_13 : decode cX12_totals 13 = .ok (.if_icmp .gt 19, 3) := by decide +kernel
theorem dX12_totals_16 : decode cX12_totals 16 = .ok (.iload_n 3, 1) := by decide +kernel
theorem dX12_totals_17 : decode cX12_totals 17 = .ok (.aload_n 0, 1) := by decide +kernel
theorem dX12_totals_18 : decode cX12_totals 18 = .ok (.iload 4, 2) := by decide +kernel
theorem dX12_totals_20 : decode cX12_totals 20 = .ok (.iload_n 1, 1) := by decide +kernel
theorem dX12_totals_21 : decode cX12_totals 21 = .ok (.invokevirtual 245, 3) := by decide +kernel
theorem dX12_totals_24 : decode cX12_totals 24 = .ok (.iadd, 1) := by decide +kernel
theorem dX12_totals_25 : decode cX12_totals 25 = .ok (.istore_n 3, 1) := by decide +kernel
theorem dX12_totals_26 : decode cX12_totals 26 = .ok (.iinc 4 1, 3) := by decide +kernel
theorem dX12_totals_29 : decode cX12_totals 29 = .ok (.goto (-24), 3) := by decide +kernel
theorem dX12_totals_32 : decode cX12_totals 32 = .ok (.iload_n 3, 1) := by decide +kernel
theorem dX12_totals_33 : decode cX12_totals 33 = .ok (.ireturn, 1) := by decide +kernel
theorem dX12_projection_0 : decode cX12_projection 0 = .ok (.aload_n 0, 1) := by decide +kernel
theorem dX12_projection_1 : decode cX12_projection 1 = .ok (.iload_n 1, 1) := by decide +kernel
theorem dX12_projection_2 : decode cX12_projection 2 = .ok (.aload_n 0, 1) := by decide +kernel
theorem dX12_projection_3 : decode cX12_projection 3 = .ok (.invokevirtual 241, 3) := by decide +kernel
theorem dX12_projection_6 : decode cX12_projection 6 = .ok (.iload_n 1, 1) := by decide +kernel
theorem dX12_projection_7 : decode cX12_projection 7 = .ok (.isub, 1) := by decide +kernel
theorem dX12_projection_8 : decode cX12_projection 8 = .ok (.invokevirtual 245, 3) := by decide +kernel
theorem dX12_projection_11 : decode cX12_projection 11 = .ok (.i2l, 1) := by decide +kernel
theorem dX12_projection_12 : decode cX12_projection 12 = .ok (.lstore_n 2, 1) := by decide +kernel
theorem dX12_projection_13 : decode cX12_projection 13 = .ok (.aload_n 0, 1) := by decide +kernel
theorem dX12_projection_14 : decode cX12_projection 14 = .ok (.invokevirtual 241, 3) := by decide +kernel
theorem dX12_projection_17 : decode cX12_projection 17 = .ok (.iload_n 1, 1) := by decide +kernel
theorem dX12_projection_18 : decode cX12_projection 18 = .ok (.isub, 1) := by decide +kernel
theorem dX12_projection_19 : decode cX12_projection 19 = .ok (.istore 4, 2) := by decide +kernel
theorem dX12_projection_21 : decode cX12_projection 21 = .ok (.iload 4, 2) := by decide +kernel
theorem dX12_projection_23 : decode cX12_projection 23 = .ok (.iconst 5, 1) := by decide +kernel
theorem dX12_projection_24 : decode cX12_projection 24 = .ok (.if_icmp .ge 46, 3) := by decide +kernel
theorem dX12_projection_27 : decode cX12_projection 27 = .ok (.aload_n 0, 1) := by decide +kernel
theorem dX12_projection_28 : decode cX12_projection 28 = .ok (.iload 4, 2) := by decide +kernel
theorem dX12_projection_30 : decode cX12_projection 30 = .ok (.iload 4, 2) := by decide +kernel
theorem dX12_projection_32 : decode cX12_projection 32 = .ok (.iconst 1, 1) := by decide +kernel
theorem dX12_projection_33 : decode cX12_projection 33 = .ok (.iadd, 1) := by decide +kernel
theorem dX12_projection_34 : decode cX12_projection 34 = .ok (.invokevirtual 248, 3) := by decide +kernel
theorem dX12_projection_37 : decode cX12_projection 37 = .ok (.istore 5, 2) := by decide +kernel
theorem dX12_projection_39 : decode cX12_projection 39 = .ok (.iload 5, 2) := by decide +kernel
theorem dX12_projection_41 : decode cX12_projection 41 = .ok (.ifCond .le 23, 3) := by decide +kernel
theorem dX12_projection_44 : decode cX12_projection 44 = .ok (.lload_n 2, 1) := by decide +kernel
theorem dX12_projection_45 : decode cX12_projection 45 = .ok (.aload_n 0, 1) := by decide +kernel
theorem dX12_projection_46 : decode cX12_projection 46 = .ok (.iload 4, 2) := by decide +kernel
theorem dX12_projection_48 : decode cX12_projection 48 = .ok (.iconst 1, 1) := by decide +kernel
theorem dX12_projection_49 : decode cX12_projection 49 = .ok (.iadd, 1) := by decide +kernel
theorem dX12_projection_50 : decode cX12_projection 50 = .ok (.iload 4, 2) := by decide +kernel
theorem dX12_projection_52 : decode cX12_projection 52 = .ok (.iconst 1, 1) := by decide +kernel
theorem dX12_projection_53 : decode cX12_projection 53 = .ok (.iadd, 1) := by decide +kernel
theorem dX12_projection_54 : decode cX12_projection 54 = .ok (.invokevirtual 248, 3) := by decide +kernel
theorem dX12_projection_57 : decode cX12_projection 57 = .ok (.i2l, 1) := by decide +kernel
theorem dX12_projection_58 : decode cX12_projection 58 = .ok (.lmul, 1) := by decide +kernel
theorem dX12_projection_59 : decode cX12_projection 59 = .ok (.iload 5, 2) := by decide +kernel
theorem dX12_projection_61 : decode cX12_projection 61 = .ok (.i2l, 1) := by decide +kernel
theorem dX12_projection_62 : decode cX12_projection 62 = .ok (.ldiv, 1) := by decide +kernel
theorem dX12_projection_63 : decode cX12_projection 63 = .ok (.lstore_n 2, 1) := by decide +kernel
theorem dX12_projection_64 : decode cX12_projection 64 = .ok (.iinc 4 1, 3) := by decide +kernel
theorem dX12_projection_67 : decode cX12_projection 67 = .ok (.goto (-46), 3) := by decide +kernel
theorem dX12_projection_70 : decode cX12_projection 70 = .ok (.lload_n 2, 1) := by decide +kernel
theorem dX12_projection_71 : decode cX12_projection 71 = .ok (.l2i, 1) := by decide +kernel
theorem dX12_projection_72 : decode cX12_projection 72 = .ok (.ireturn, 1) := by decide +kernel
theorem dX12_projects_0 : decode cX12_projects 0 = .ok (.aload_n 0, 1) := by decide +kernel
theorem dX12_projects_1 : decode cX12_projects 1 = .ok (.iload_n 1, 1) := by decide +kernel
theorem dX12_projects_2 : decode cX12_projects 2 = .ok (.iconst 0, 1) := by decide +kernel
theorem dX12_projects_3 : decode cX12_projects 3 = .ok (.aload_n 0, 1) := by decide +kernel
theorem dX12_projects_4 : decode cX12_projects 4 = .ok (.invokevirtual 241, 3) := by decide +kernel
theorem dX12_projects_7 : decode cX12_projects 7 = .ok (.invokestatic 83, 3) := by decide +kernel
theorem dX12_projects_10 : decode cX12_projects 10 = .ok (.invokevirtual 213, 3) := by decide +kernel
theorem dX12_projects_13 : decode cX12_projects 13 = .ok (.ifCond .le 7, 3) := by decide +kernel
theorem dX12_projects_16 : decode cX12_projects 16 = .ok (.iconst 0, 1) := by decide +kernel
theorem dX12_projects_17 : decode cX12_projects 17 = .ok (.goto 8, 3) := by decide +kernel
theorem dX12_projects_20 : decode cX12_projects 20 = .ok (.aload_n 0, 1) := by decide +kernel
theorem dX12_projects_21 : decode cX12_projects 21 = .ok (.iload_n 1, 1) := by decide +kernel
theorem dX12_projects_22 : decode cX12_projects 22 = .ok (.invokevirtual 251, 3) := by decide +kernel
theorem dX12_projects_25 : decode cX12_projects 25 = .ok (.ireturn, 1) := by decide +kernel
theorem dX12_projected_0 : decode cX12_projected 0 = .ok (.aload_n 0, 1) := by decide +kernel
theorem dX12_projected_1 : decode cX12_projected 1 = .ok (.iload_n 1, 1) := by decide +kernel
theorem dX12_projected_2 : decode cX12_projected 2 = .ok (.invokevirtual 254, 3) := by decide +kernel
theorem dX12_projected_5 : decode cX12_projected 5 = .ok (.ireturn, 1) := by decide +kernel
theorem dX12_projectedByRecursion_0 : decode cX12_projectedByRecursion 0 = .ok (.aload_n 0, 1) := by decide +kernel
theorem dX12_projectedByRecursion_1 : decode cX12_projectedByRecursion 1 = .ok (.iload_n 1, 1) := by decide +kernel
theorem dX12_projectedByRecursion_2 : decode cX12_projectedByRecursion 2 = .ok (.invokevirtual 254, 3) := by decide +kernel
theorem dX12_projectedByRecursion_5 : decode cX12_projectedByRecursion 5 = .ok (.ireturn, 1) := by decide +kernel
theorem dX12_reserve_0 : decode cX12_reserve 0 = .ok (.aload_n 0, 1) := by decide +kernel
theorem dX12_reserve_1 : decode cX12_reserve 1 = .ok (.iconst 0, 1) := by decide +kernel
theorem dX12_reserve_2 : decode cX12_reserve 2 = .ok (.putfield 28, 3) := by decide +kernel
theorem dX12_reserve_5 : decode cX12_reserve 5 = .ok (.iconst 0, 1) := by decide +kernel
theorem dX12_reserve_6 : decode cX12_reserve 6 = .ok (.istore_n 1, 1) := by decide +kernel
theorem dX12_reserve_7 : decode cX12_reserve 7 = .ok (.iconst 0, 1) := by decide +kernel
theorem dX12_reserve_8 : decode cX12_reserve 8 = .ok (.istore_n 2, 1) := by decide +kernel
theorem dX12_reserve_9 : decode cX12_reserve 9 = .ok (.iload_n 2, 1) := by decide +kernel
theorem dX12_reserve_10 : decode cX12_reserve 10 = .ok (.aload_n 0, 1) := by decide +kernel
theorem dX12_reserve_11 : decode cX12_reserve 11 = .ok (.invokevirtual 241, 3) := by decide +kernel
theorem dX12_reserve_14 : decode cX12_reserve 14 = .ok (.if_icmp .gt 24, 3) := by decide +kernel
theorem dX12_reserve_17 : decode cX12_reserve 17 = .ok (.iload_n 1, 1) := by decide +kernel
theorem dX12_reserve_18 : decode cX12_reserve 18 = .ok (.aload_n 0, 1) := by decide +kernel
theorem dX12_reserve_19 : decode cX12_reserve 19 = .ok (.iload_n 2, 1) := by decide +kernel
theorem dX12_reserve_20 : decode cX12_reserve 20 = .ok (.invokevirtual 251, 3) := by decide +kernel
theorem dX12_reserve_23 : decode cX12_reserve 23 = .ok (.aload_n 0, 1) := by decide +kernel
theorem dX12_reserve_24 : decode cX12_reserve 24 = .ok (.iload_n 2, 1) := by decide +kernel
theorem dX12_reserve_25 : decode cX12_reserve 25 = .ok (.iconst 5, 1) := by decide +kernel
theorem dX12_reserve_26 : decode cX12_reserve 26 = .ok (.invokevirtual 245, 3) := by decide +kernel
theorem dX12_reserve_29 : decode cX12_reserve 29 = .ok (.isub, 1) := by decide +kernel
theorem dX12_reserve_30 : decode cX12_reserve 30 = .ok (.iadd, 1) := by decide +kernel
theorem dX12_reserve_31 : decode cX12_reserve 31 = .ok (.istore_n 1, 1) := by decide +kernel
theorem dX12_reserve_32 : decode cX12_reserve 32 = .ok (.iinc 2 1, 3) := by decide +kernel
theorem dX12_reserve_35 : decode cX12_reserve 35 = .ok (.goto (-26), 3) := by decide +kernel
theorem dX12_reserve_38 : decode cX12_reserve 38 = .ok (.iload_n 1, 1) := by decide +kernel
theorem dX12_reserve_39 : decode cX12_reserve 39 = .ok (.ireturn, 1) := by decide +kernel
theorem dX12_offerCount_0 : decode cX12_offerCount 0 = .ok (.aload_n 0, 1) := by decide +kernel
theorem dX12_offerCount_1 : decode cX12_offerCount 1 = .ok (.aload_n 0, 1) := by decide +kernel
theorem dX12_offerCount_2 : decode cX12_offerCount 2 = .ok (.getfield 7, 3) := by decide +kernel
theorem dX12_offerCount_5 : decode cX12_offerCount 5 = .ok (.iconst 3, 1) := by decide +kernel
theorem dX12_offerCount_6 : decode cX12_offerCount 6 = .ok (.iaload, 1) := by decide +kernel
theorem dX12_offerCount_7 : decode cX12_offerCount 7 = .ok (.invokevirtual 210, 3) := by decide +kernel
theorem dX12_offerCount_10 : decode cX12_offerCount 10 = .ok (.ireturn, 1) := by decide +kernel
theorem dX12_isCovered_0 : decode cX12_isCovered 0 = .ok (.iconst 0, 1) := by decide +kernel
theorem dX12_isCovered_1 : decode cX12_isCovered 1 = .ok (.istore_n 3, 1) := by decide +kernel
theorem dX12_isCovered_2 : decode cX12_isCovered 2 = .ok (.iload_n 3, 1) := by decide +kernel
theorem dX12_isCovered_3 : decode cX12_isCovered 3 = .ok (.aload_n 0, 1) := by decide +kernel
theorem dX12_isCovered_4 : decode cX12_isCovered 4 = .ok (.getfield 7, 3) := by decide +kernel
theorem dX12_isCovered_7 : decode cX12_isCovered 7 = .ok (.iconst 3, 1) := by decide +kernel
theorem dX12_isCovered_8 : decode cX12_isCovered 8 = .ok (.iaload, 1) := by decide +kernel
theorem dX12_isCovered_9 : decode cX12_isCovered 9 = .ok (.if_icmp .ge 39, 3) := by decide +kernel
theorem dX12_isCovered_12 : decode cX12_isCovered 12 = .ok (.iload_n 1, 1) := by decide +kernel
theorem dX12_isCovered_13 : decode cX12_isCovered 13 = .ok (.iload_n 3, 1) := by decide +kernel
theorem dX12_isCovered_14 : decode cX12_isCovered 14 = .ok (.ishr, 1) := by decide +kernel
theorem dX12_isCovered_15 : decode cX12_isCovered 15 = .ok (.iconst 1, 1) := by decide +kernel
theorem dX12_isCovered_16 : decode cX12_isCovered 16 = .ok (.iand, 1) := by decide +kernel
theorem dX12_isCovered_17 : decode cX12_isCovered 17 = .ok (.iconst 1, 1) := by decide +kernel
theorem dX12_isCovered_18 : decode cX12_isCovered 18 = .ok (.if_icmp .ne 24, 3) := by decide +kernel
theorem dX12_isCovered_21 : decode cX12_isCovered 21 = .ok (.iload_n 2, 1) := by decide +kernel
theorem dX12_isCovered_22 : decode cX12_isCovered 22 = .ok (.aload_n 0, 1) := by decide +kernel
theorem dX12_isCovered_23 : decode cX12_isCovered 23 = .ok (.iload_n 3, 1) := by decide +kernel
theorem dX12_isCovered_24 : decode cX12_isCovered 24 = .ok (.iconst 0, 1) := by decide +kernel
theorem dX12_isCovered_25 : decode cX12_isCovered 25 = .ok (.invokevirtual 201, 3) := by decide +kernel
theorem dX12_isCovered_28 : decode cX12_isCovered 28 = .ok (.aload_n 0, 1) := by decide +kernel
theorem dX12_isCovered_29 : decode cX12_isCovered 29 = .ok (.iload_n 3, 1) := by decide +kernel
theorem dX12_isCovered_30 : decode cX12_isCovered 30 = .ok (.iconst 1, 1) := by decide +kernel
theorem dX12_isCovered_31 : decode cX12_isCovered 31 = .ok (.invokevirtual 201, 3) := by decide +kernel
theorem dX12_isCovered_34 : decode cX12_isCovered 34 = .ok (.invokestatic 83, 3) := by decide +kernel
theorem dX12_isCovered_37 : decode cX12_isCovered 37 = .ok (.ifCond .eq 5, 3) := by decide +kernel
theorem dX12_isCovered_40 : decode cX12_isCovered 40 = .ok (.iconst 1, 1) := by decide +kernel
theorem dX12_isCovered_41 : decode cX12_isCovered 41 = .ok (.ireturn, 1) := by decide +kernel
theorem dX12_isCovered_42 : decode cX12_isCovered 42 = .ok (.iinc 3 1, 3) := by decide +kernel
theorem dX12_isCovered_45 : decode cX12_isCovered 45 = .ok (.goto (-43), 3) := by decide +kernel
theorem dX12_isCovered_48 : decode cX12_isCovered 48 = .ok (.iconst 0, 1) := by decide +kernel
theorem dX12_isCovered_49 : decode cX12_isCovered 49 = .ok (.ireturn, 1) := by decide +kernel
theorem dX12_areCovered_0 : decode cX12_areCovered 0 = .ok (.iload_n 2, 1) := by decide +kernel
theorem dX12_areCovered_1 : decode cX12_areCovered 1 = .ok (.istore 4, 2) := by decide +kernel
theorem dX12_areCovered_3 : decode cX12_areCovered 3 = .ok (.iload 4, 2) := by decide +kernel
theorem dX12_areCovered_5 : decode cX12_areCovered 5 = .ok (.iload_n 3, 1) := by decide +kernel
theorem dX12_areCovered_6 : decode cX12_areCovered 6 = .ok (.if_icmp .gt 21, 3) := by decide +kernel
theorem dX12_areCovered_9 : decode cX12_areCovered 9 = .ok (.aload_n 0, 1) := by decide +kernel
theorem dX12_areCovered_10 : decode cX12_areCovered 10 = .ok (.iload_n 1, 1) := by decide +kernel
theorem dX12_areCovered_11 : decode cX12_areCovered 11 = .ok (.iload 4, 2) := by decide +kernel
theorem dX12_areCovered_13 : decode cX12_areCovered 13 = .ok (.invokevirtual 257, 3) := by decide +kernel
theorem dX12_areCovered_16 : decode cX12_areCovered 16 = .ok (.ifCond .ne 5, 3) := by decide +kernel
theorem dX12_areCovered_19 : decode cX12_areCovered 19 = .ok (.iconst 0, 1) := by decide +kernel
theorem dX12_areCovered_20 : decode cX12_areCovered 20 = .ok (.ireturn, 1) := by decide +kernel
theorem dX12_areCovered_21 : decode cX12_areCovered 21 = .ok (.iinc 4 1, 3) := by decide +kernel
theorem dX12_areCovered_24 : decode cX12_areCovered 24 = .ok (.goto (-21), 3) := by decide +kernel
theorem dX12_areCovered_27 : decode cX12_areCovered 27 = .ok (.iconst 1, 1) := by decide +kernel
theorem dX12_areCovered_28 : decode cX12_areCovered 28 = .ok (.ireturn, 1) := by decide +kernel
theorem dX12_priceOf_0 : decode cX12_priceOf 0 = .ok (.iconst 0, 1) := by decide +kernel
theorem dX12_priceOf_1 : decode cX12_priceOf 1 = .ok (.istore_n 2, 1) := by decide +kernel
theorem dX12_priceOf_2 : decode cX12_priceOf 2 = .ok (.iconst 0, 1) := by decide +kernel
theorem dX12_priceOf_3 : decode cX12_priceOf 3 = .ok (.istore_n 3, 1) := by decide +kernel
theorem dX12_priceOf_4 : decode cX12_priceOf 4 = .ok (.iload_n 3, 1) := by decide +kernel
theorem dX12_priceOf_5 : decode cX12_priceOf 5 = .ok (.aload_n 0, 1) := by decide +kernel
theorem dX12_priceOf_6 : decode cX12_priceOf 6 = .ok (.getfield 7, 3) := by decide +kernel
theorem dX12_priceOf_9 : decode cX12_priceOf 9 = .ok (.iconst 3, 1) := by decide +kernel
theorem dX12_priceOf_10 : decode cX12_priceOf 10 = .ok (.iaload, 1) := by decide +kernel
theorem dX12_priceOf_11 : decode cX12_priceOf 11 = .ok (.if_icmp .ge 24, 3) := by decide +kernel
theorem dX12_priceOf_14 : decode cX12_priceOf 14 = .ok (.iload_n 2, 1) := by decide +kernel
theorem dX12_priceOf_15 : decode cX12_priceOf 15 = .ok (.iload_n 1, 1) := by decide +kernel
theorem dX12_priceOf_16 : decode cX12_priceOf 16 = .ok (.iload_n 3, 1) := by decide +kernel
theorem dX12_priceOf_17 : decode cX12_priceOf 17 = .ok (.ishr, 1) := by decide +kernel
theorem dX12_priceOf_18 : decode cX12_priceOf 18 = .ok (.iconst 1, 1) := by decide +kernel
theorem dX12_priceOf_19 : decode cX12_priceOf 19 = .ok (.iand, 1) := by decide +kernel
theorem dX12_priceOf_20 : decode cX12_priceOf 20 = .ok (.aload_n 0, 1) := by decide +kernel
theorem dX12_priceOf_21 : decode cX12_priceOf 21 = .ok (.iload_n 3, 1) := by decide +kernel
theorem dX12_priceOf_22 : decode cX12_priceOf 22 = .ok (.iconst 2, 1) := by decide +kernel
theorem dX12_priceOf_23 : decode cX12_priceOf 23 = .ok (.invokevirtual 201, 3) := by decide +kernel
theorem dX12_priceOf_26 : decode cX12_priceOf 26 = .ok (.imul, 1) := by decide +kernel
theorem dX12_priceOf_27 : decode cX12_priceOf 27 = .ok (.iadd, 1) := by decide +kernel
theorem dX12_priceOf_28 : decode cX12_priceOf 28 = .ok (.istore_n 2, 1) := by decide +kernel
theorem dX12_priceOf_29 : decode cX12_priceOf 29 = .ok (.iinc 3 1, 3) := by decide +kernel
theorem dX12_priceOf_32 : decode cX12_priceOf 32 = .ok (.goto (-28), 3) := by decide +kernel
theorem dX12_priceOf_35 : decode cX12_priceOf 35 = .ok (.iload_n 2, 1) := by decide +kernel
theorem dX12_priceOf_36 : decode cX12_priceOf 36 = .ok (.ireturn, 1) := by decide +kernel
theorem dX12_cover_0 : decode cX12_cover 0 = .ok (.aload_n 0, 1) := by decide +kernel
theorem dX12_cover_1 : decode cX12_cover 1 = .ok (.iload_n 1, 1) := by decide +kernel
theorem dX12_cover_2 : decode cX12_cover 2 = .ok (.iload_n 2, 1) := by decide +kernel
theorem dX12_cover_3 : decode cX12_cover 3 = .ok (.invokestatic 191, 3) := by decide +kernel
theorem dX12_cover_6 : decode cX12_cover 6 = .ok (.invokevirtual 213, 3) := by decide +kernel
theorem dX12_cover_9 : decode cX12_cover 9 = .ok (.ifCond .le 5, 3) := by decide +kernel
theorem dX12_cover_12 : decode cX12_cover 12 = .ok (.iconst 0, 1) := by decide +kernel
theorem dX12_cover_13 : decode cX12_cover 13 = .ok (.ireturn, 1) := by decide +kernel
theorem dX12_cover_14 : decode cX12_cover 14 = .ok (.ldc_w 260, 3) := by decide +kernel
theorem dX12_cover_17 : decode cX12_cover 17 = .ok (.istore_n 3, 1) := by decide +kernel
theorem dX12_cover_18 : decode cX12_cover 18 = .ok (.iconst 1, 1) := by decide +kernel
theorem dX12_cover_19 : decode cX12_cover 19 = .ok (.istore 4, 2) := by decide +kernel
theorem dX12_cover_21 : decode cX12_cover 21 = .ok (.iload 4, 2) := by decide +kernel
theorem dX12_cover_23 : decode cX12_cover 23 = .ok (.iconst 1, 1) := by decide +kernel
theorem dX12_cover_24 : decode cX12_cover 24 = .ok (.aload_n 0, 1) := by decide +kernel
theorem dX12_cover_25 : decode cX12_cover 25 = .ok (.getfield 7, 3) := by decide +kernel
theorem dX12_cover_28 : decode cX12_cover 28 = .ok (.iconst 3, 1) := by decide +kernel
theorem dX12_cover_29 : decode cX12_cover 29 = .ok (.iaload, 1) := by decide +kernel
theorem dX12_cover_30 : decode cX12_cover 30 = .ok (.ishl, 1) := by decide +kernel
theorem dX12_cover_31 : decode cX12_cover 31 = .ok (.if_icmp .ge 37, 3) := by decide +kernel
theorem dX12_cover_34 : decode cX12_cover 34 = .ok (.aload_n 0, 1) := by decide +kernel
theorem dX12_cover_35 : decode cX12_cover 35 = .ok (.iload 4, 2) := by decide +kernel
theorem dX12_cover_37 : decode cX12_cover 37 = .ok (.invokevirtual 261, 3) := by decide +kernel
theorem dX12_cover_40 : decode cX12_cover 40 = .ok (.iload_n 3, 1) := by decide +kernel
theorem dX12_cover_41 : decode cX12_cover 41 = .ok (.if_icmp .ge 21, 3) := by decide +kernel
theorem dX12_cover_44 : decode cX12_cover 44 = .ok (.aload_n 0, 1) := by decide +kernel
theorem dX12_cover_45 : decode cX12_cover 45 = .ok (.iload 4, 2) := by decide +kernel
theorem dX12_cover_47 : decode cX12_cover 47 = .ok (.iload_n 1, 1) := by decide +kernel
theorem dX12_cover_48 : decode cX12_cover 48 = .ok (.iload_n 2, 1) := by decide +kernel
theorem dX12_cover_49 : decode cX12_cover 49 = .ok (.invokevirtual 264, 3) := by decide +kernel
theorem dX12_cover_52 : decode cX12_cover 52 = .ok (.ifCond .eq 10, 3) := by decide +kernel
theorem dX12_cover_55 : decode cX12_cover 55 = .ok (.aload_n 0, 1) := by decide +kernel
theorem dX12_cover_56 : decode cX12_cover 56 = .ok (.iload 4, 2) := by decide +kernel
theorem dX12_cover_58 : decode cX12_cover 58 = .ok (.invokevirtual 261, 3) := by decide +kernel
theorem dX12_cover_61 : decode cX12_cover 61 = .ok (.istore_n 3, 1) := by decide +kernel
theorem dX12_cover_62 : decode cX12_cover 62 = .ok (.iinc 4 1, 3) := by decide +kernel
theorem dX12_cover_65 : decode cX12_cover 65 = .ok (.goto (-44), 3) := by decide +kernel
theorem dX12_cover_68 : decode cX12_cover 68 = .ok (.iload_n 3, 1) := by decide +kernel
theorem dX12_cover_69 : decode cX12_cover 69 = .ok (.ldc_w 260, 3) := by decide +kernel
theorem dX12_cover_72 : decode cX12_cover 72 = .ok (.if_icmp .ne 11, 3) := by decide +kernel
theorem dX12_cover_75 : decode cX12_cover 75 = .ok (.aload_n 0, 1) := by decide +kernel
theorem dX12_cover_76 : decode cX12_cover 76 = .ok (.iconst 2, 1) := by decide +kernel
theorem dX12_cover_77 : decode cX12_cover 77 = .ok (.invokevirtual 94, 3) := by decide +kernel
theorem dX12_cover_80 : decode cX12_cover 80 = .ok (.goto 4, 3) := by decide +kernel
theorem dX12_cover_83 : decode cX12_cover 83 = .ok (.iload_n 3, 1) := by decide +kernel
theorem dX12_cover_84 : decode cX12_cover 84 = .ok (.ireturn, 1) := by decide +kernel
theorem dX12_cheapestCover_0 : decode cX12_cheapestCover 0 = .ok (.aload_n 0, 1) := by decide +kernel
theorem dX12_cheapestCover_1 : decode cX12_cheapestCover 1 = .ok (.iload_n 1, 1) := by decide +kernel
theorem dX12_cheapestCover_2 : decode cX12_cheapestCover 2 = .ok (.iload_n 2, 1) := by decide +kernel
theorem dX12_cheapestCover_3 : decode cX12_cheapestCover 3 = .ok (.invokevirtual 267, 3) := by decide +kernel
theorem dX12_cheapestCover_6 : decode cX12_cheapestCover 6 = .ok (.ireturn, 1) := by decide +kernel
theorem dX12_cheapestCoverBySets_0 : decode cX12_cheapestCoverBySets 0 = .ok (.aload_n 0, 1) := by decide +kernel
theorem dX12_cheapestCoverBySets_1 : decode cX12_cheapestCoverBySets 1 = .ok (.iload_n 1, 1) := by decide +kernel
theorem dX12_cheapestCoverBySets_2 : decode cX12_cheapestCoverBySets 2 = .ok (.iload_n 2, 1) := by decide +kernel
theorem dX12_cheapestCoverBySets_3 : decode cX12_cheapestCoverBySets 3 = .ok (.invokevirtual 267, 3) := by decide +kernel
theorem dX12_cheapestCoverBySets_6 : decode cX12_cheapestCoverBySets 6 = .ok (.ireturn, 1) := by decide +kernel
theorem dX12_isPolicyAhead_0 : decode cX12_isPolicyAhead 0 = .ok (.aload_n 0, 1) := by decide +kernel
theorem dX12_isPolicyAhead_1 : decode cX12_isPolicyAhead 1 = .ok (.iload_n 1, 1) := by decide +kernel
theorem dX12_isPolicyAhead_2 : decode cX12_isPolicyAhead 2 = .ok (.iconst 1, 1) := by decide +kernel
theorem dX12_isPolicyAhead_3 : decode cX12_isPolicyAhead 3 = .ok (.invokevirtual 79, 3) := by decide +kernel
theorem dX12_isPolicyAhead_6 : decode cX12_isPolicyAhead 6 = .ok (.aload_n 0, 1) := by decide +kernel
theorem dX12_isPolicyAhead_7 : decode cX12_isPolicyAhead 7 = .ok (.iload_n 1, 1) := by decide +kernel
theorem dX12_isPolicyAhead_8 : decode cX12_isPolicyAhead 8 = .ok (.iconst 2, 1) := by decide +kernel
theorem dX12_isPolicyAhead_9 : decode cX12_isPolicyAhead 9 = .ok (.invokevirtual 79, 3) := by decide +kernel
theorem dX12_isPolicyAhead_12 : decode cX12_isPolicyAhead 12 = .ok (.imul, 1) := by decide +kernel
theorem dX12_isPolicyAhead_13 : decode cX12_isPolicyAhead 13 = .ok (.istore_n 3, 1) := by decide +kernel
theorem dX12_isPolicyAhead_14 : decode cX12_isPolicyAhead 14 = .ok (.aload_n 0, 1) := by decide +kernel
theorem dX12_isPolicyAhead_15 : decode cX12_isPolicyAhead 15 = .ok (.iload_n 2, 1) := by decide +kernel
theorem dX12_isPolicyAhead_16 : decode cX12_isPolicyAhead 16 = .ok (.iconst 1, 1) := by decide +kernel
theorem dX12_isPolicyAhead_17 : decode cX12_isPolicyAhead 17 = .ok (.invokevirtual 79, 3) := by decide +kernel
theorem dX12_isPolicyAhead_20 : decode cX12_isPolicyAhead 20 = .ok (.aload_n 0, 1) := by decide +kernel
theorem dX12_isPolicyAhead_21 : decode cX12_isPolicyAhead 21 = .ok (.iload_n 2, 1) := by decide +kernel
theorem dX12_isPolicyAhead_22 : decode cX12_isPolicyAhead 22 = .ok (.iconst 2, 1) := by decide +kernel
theorem dX12_isPolicyAhead_23 : decode cX12_isPolicyAhead 23 = .ok (.invokevirtual 79, 3) := by decide +kernel
theorem dX12_isPolicyAhead_26 : decode cX12_isPolicyAhead 26 = .ok (.imul, 1) := by decide +kernel
theorem dX12_isPolicyAhead_27 : decode cX12_isPolicyAhead 27 = .ok (.istore 4, 2) := by decide +kernel
theorem dX12_isPolicyAhead_29 : decode cX12_isPolicyAhead 29 = .ok (.iload_n 3, 1) := by decide +kernel
theorem dX12_isPolicyAhead_30 : decode cX12_isPolicyAhead 30 = .ok (.iload 4, 2) := by decide +kernel
theorem dX12_isPolicyAhead_32 : decode cX12_isPolicyAhead 32 = .ok (.if_icmp .eq 15, 3) := by decide +kernel
theorem dX12_isPolicyAhead_35 : decode cX12_isPolicyAhead 35 = .ok (.iload_n 3, 1) := by decide +kernel
theorem dX12_isPolicyAhead_36 : decode cX12_isPolicyAhead 36 = .ok (.iload 4, 2) := by decide +kernel
theorem dX12_isPolicyAhead_38 : decode cX12_isPolicyAhead 38 = .ok (.if_icmp .le 7, 3) := by decide +kernel
theorem dX12_isPolicyAhead_41 : decode cX12_isPolicyAhead 41 = .ok (.iconst 1, 1) := by decide +kernel
theorem dX12_isPolicyAhead_42 : decode cX12_isPolicyAhead 42 = .ok (.goto 4, 3) := by decide +kernel
theorem dX12_isPolicyAhead_45 : decode cX12_isPolicyAhead 45 = .ok (.iconst 0, 1) := by decide +kernel
theorem dX12_isPolicyAhead_46 : decode cX12_isPolicyAhead 46 = .ok (.ireturn, 1) := by decide +kernel
theorem dX12_isPolicyAhead_47 : decode cX12_isPolicyAhead 47 = .ok (.aload_n 0, 1) := by decide +kernel
theorem dX12_isPolicyAhead_48 : decode cX12_isPolicyAhead 48 = .ok (.iload_n 1, 1) := by decide +kernel
theorem dX12_isPolicyAhead_49 : decode cX12_isPolicyAhead 49 = .ok (.iconst 5, 1) := by decide +kernel
theorem dX12_isPolicyAhead_50 : decode cX12_isPolicyAhead 50 = .ok (.invokevirtual 79, 3) := by decide +kernel
theorem dX12_isPolicyAhead_53 : decode cX12_isPolicyAhead 53 = .ok (.aload_n 0, 1) := by decide +kernel
theorem dX12_isPolicyAhead_54 : decode cX12_isPolicyAhead 54 = .ok (.iload_n 2, 1) := by decide +kernel
theorem dX12_isPolicyAhead_55 : decode cX12_isPolicyAhead 55 = .ok (.iconst 5, 1) := by decide +kernel
theorem dX12_isPolicyAhead_56 : decode cX12_isPolicyAhead 56 = .ok (.invokevirtual 79, 3) := by decide +kernel
theorem dX12_isPolicyAhead_59 : decode cX12_isPolicyAhead 59 = .ok (.if_icmp .gt 23, 3) := by decide +kernel
theorem dX12_isPolicyAhead_62 : decode cX12_isPolicyAhead 62 = .ok (.aload_n 0, 1) := by decide +kernel
theorem dX12_isPolicyAhead_63 : decode cX12_isPolicyAhead 63 = .ok (.iload_n 1, 1) := by decide +kernel
theorem dX12_isPolicyAhead_64 : decode cX12_isPolicyAhead 64 = .ok (.iconst 5, 1) := by decide +kernel
theorem dX12_isPolicyAhead_65 : decode cX12_isPolicyAhead 65 = .ok (.invokevirtual 79, 3) := by decide +kernel
theorem dX12_isPolicyAhead_68 : decode cX12_isPolicyAhead 68 = .ok (.aload_n 0, 1) := by decide +kernel
theorem dX12_isPolicyAhead_69 : decode cX12_isPolicyAhead 69 = .ok (.iload_n 2, 1) := by decide +kernel
theorem dX12_isPolicyAhead_70 : decode cX12_isPolicyAhead 70 = .ok (.iconst 5, 1) := by decide +kernel
theorem dX12_isPolicyAhead_71 : decode cX12_isPolicyAhead 71 = .ok (.invokevirtual 79, 3) := by decide +kernel
theorem dX12_isPolicyAhead_74 : decode cX12_isPolicyAhead 74 = .ok (.if_icmp .ne 12, 3) := by decide +kernel
theorem dX12_isPolicyAhead_77 : decode cX12_isPolicyAhead 77 = .ok (.iload_n 1, 1) := by decide +kernel
theorem dX12_isPolicyAhead_78 : decode cX12_isPolicyAhead 78 = .ok (.iload_n 2, 1) := by decide +kernel
theorem dX12_isPolicyAhead_79 : decode cX12_isPolicyAhead 79 = .ok (.if_icmp .ge 7, 3) := by decide +kernel
theorem dX12_isPolicyAhead_82 : decode cX12_isPolicyAhead 82 = .ok (.iconst 1, 1) := by decide +kernel
theorem dX12_isPolicyAhead_83 : decode cX12_isPolicyAhead 83 = .ok (.goto 4, 3) := by decide +kernel
theorem dX12_isPolicyAhead_86 : decode cX12_isPolicyAhead 86 = .ok (.iconst 0, 1) := by decide +kernel
theorem dX12_isPolicyAhead_87 : decode cX12_isPolicyAhead 87 = .ok (.ireturn, 1) := by decide +kernel
theorem dX12_isClaimAhead_0 : decode cX12_isClaimAhead 0 = .ok (.aload_n 0, 1) := by decide +kernel
theorem dX12_isClaimAhead_1 : decode cX12_isClaimAhead 1 = .ok (.iload_n 1, 1) := by decide +kernel
theorem dX12_isClaimAhead_2 : decode cX12_isClaimAhead 2 = .ok (.iconst 3, 1) := by decide +kernel
theorem dX12_isClaimAhead_3 : decode cX12_isClaimAhead 3 = .ok (.invokevirtual 104, 3) := by decide +kernel
theorem dX12_isClaimAhead_6 : decode cX12_isClaimAhead 6 = .ok (.aload_n 0, 1) := by decide +kernel
theorem dX12_isClaimAhead_7 : decode cX12_isClaimAhead 7 = .ok (.iload_n 1, 1) := by decide +kernel
theorem dX12_isClaimAhead_8 : decode cX12_isClaimAhead 8 = .ok (.iconst 4, 1) := by decide +kernel
theorem dX12_isClaimAhead_9 : decode cX12_isClaimAhead 9 = .ok (.invokevirtual 104, 3) := by decide +kernel
theorem dX12_isClaimAhead_12 : decode cX12_isClaimAhead 12 = .ok (.isub, 1) := by decide +kernel
theorem dX12_isClaimAhead_13 : decode cX12_isClaimAhead 13 = .ok (.istore_n 3, 1) := by decide +kernel
theorem dX12_isClaimAhead_14 : decode cX12_isClaimAhead 14 = .ok (.aload_n 0, 1) := by decide +kernel
theorem dX12_isClaimAhead_15 : decode cX12_isClaimAhead 15 = .ok (.iload_n 2, 1) := by decide +kernel
theorem dX12_isClaimAhead_16 : decode cX12_isClaimAhead 16 = .ok (.iconst 3, 1) := by decide +kernel
theorem dX12_isClaimAhead_17 : decode cX12_isClaimAhead 17 = .ok (.invokevirtual 104, 3) := by decide +kernel
theorem dX12_isClaimAhead_20 : decode cX12_isClaimAhead 20 = .ok (.aload_n 0, 1) := by decide +kernel
theorem dX12_isClaimAhead_21 : decode cX12_isClaimAhead 21 = .ok (.iload_n 2, 1) := by decide +kernel
theorem dX12_isClaimAhead_22 : decode cX12_isClaimAhead 22 = .ok (.iconst 4, 1) := by decide +kernel
theorem dX12_isClaimAhead_23 : decode cX12_isClaimAhead 23 = .ok (.invokevirtual 104, 3) := by decide +kernel
theorem dX12_isClaimAhead_26 : decode cX12_isClaimAhead 26 = .ok (.isub, 1) := by decide +kernel
theorem dX12_isClaimAhead_27 : decode cX12_isClaimAhead 27 = .ok (.istore 4, 2) := by decide +kernel
theorem dX12_isClaimAhead_29 : decode cX12_isClaimAhead 29 = .ok (.iload_n 3, 1) := by decide +kernel
theorem dX12_isClaimAhead_30 : decode cX12_isClaimAhead 30 = .ok (.iload 4, 2) := by decide +kernel
theorem dX12_isClaimAhead_32 : decode cX12_isClaimAhead 32 = .ok (.if_icmp .gt 14, 3) := by decide +kernel
theorem dX12_isClaimAhead_35 : decode cX12_isClaimAhead 35 = .ok (.iload_n 3, 1) := by decide +kernel
theorem dX12_isClaimAhead_36 : decode cX12_isClaimAhead 36 = .ok (.iload 4, 2) := by decide +kernel
theorem dX12_isClaimAhead_38 : decode cX12_isClaimAhead 38 = .ok (.if_icmp .ne 12, 3) := by decide +kernel
theorem dX12_isClaimAhead_41 : decode cX12_isClaimAhead 41 = .ok (.iload_n 1, 1) := by decide +kernel
theorem dX12_isClaimAhead_42 : decode cX12_isClaimAhead 42 = .ok (.iload_n 2, 1) := by decide +kernel
theorem dX12_isClaimAhead_43 : decode cX12_isClaimAhead 43 = .ok (.if_icmp .ge 7, 3) := by decide +kernel
theorem dX12_isClaimAhead_46 : decode cX12_isClaimAhead 46 = .ok (.iconst 1, 1) := by decide +kernel
theorem dX12_isClaimAhead_47 : decode cX12_isClaimAhead 47 = .ok (.goto 4, 3) := by decide +kernel
theorem dX12_isClaimAhead_50 : decode cX12_isClaimAhead 50 = .ok (.iconst 0, 1) := by decide +kernel
theorem dX12_isClaimAhead_51 : decode cX12_isClaimAhead 51 = .ok (.ireturn, 1) := by decide +kernel
theorem dX12_ranked_0 : decode cX12_ranked 0 = .ok (.aload_n 0, 1) := by decide +kernel
theorem dX12_ranked_1 : decode cX12_ranked 1 = .ok (.iconst 0, 1) := by decide +kernel
theorem dX12_ranked_2 : decode cX12_ranked 2 = .ok (.putfield 28, 3) := by decide +kernel
theorem dX12_ranked_5 : decode cX12_ranked 5 = .ok (.iconst 0, 1) := by decide +kernel
theorem dX12_ranked_6 : decode cX12_ranked 6 = .ok (.istore 4, 2) := by decide +kernel
theorem dX12_ranked_8 : decode cX12_ranked 8 = .ok (.iload 4, 2) := by decide +kernel
theorem dX12_ranked_10 : decode cX12_ranked 10 = .ok (.iload_n 2, 1) := by decide +kernel
theorem dX12_ranked_11 : decode cX12_ranked 11 = .ok (.if_icmp .ge 101, 3) := by decide +kernel
theorem dX12_ranked_14 : decode cX12_ranked 14 = .ok (.iconst 0, 1) := by decide +kernel
theorem dX12_ranked_15 : decode cX12_ranked 15 = .ok (.istore 5, 2) := by decide +kernel
theorem dX12_ranked_17 : decode cX12_ranked 17 = .ok (.iconst 0, 1) := by decide +kernel
theorem dX12_ranked_18 : decode cX12_ranked 18 = .ok (.istore 6, 2) := by decide +kernel
theorem dX12_ranked_20 : decode cX12_ranked 20 = .ok (.iload 6, 2) := by decide +kernel
theorem dX12_ranked_22 : decode cX12_ranked 22 = .ok (.iload_n 2, 1) := by decide +kernel
theorem dX12_ranked_23 : decode cX12_ranked 23 = .ok (.if_icmp .ge 55, 3) := by decide +kernel
theorem dX12_ranked_26 : decode cX12_ranked 26 = .ok (.iload 5, 2) := by decide +kernel
theorem dX12_ranked_28 : decode cX12_ranked 28 = .ok (.iload 6, 2) := by decide +kernel
theorem dX12_ranked_30 : decode cX12_ranked 30 = .ok (.iload 4, 2) := by decide +kernel
theorem dX12_ranked_32 : decode cX12_ranked 32 = .ok (.if_icmp .eq 36, 3) := by decide +kernel
theorem dX12_ranked_35 : decode cX12_ranked 35 = .ok (.iload_n 3, 1) := by decide +kernel
theorem dX12_ranked_36 : decode cX12_ranked 36 = .ok (.ifCond .eq 17, 3) := by decide +kernel
theorem dX12_ranked_39 : decode cX12_ranked 39 = .ok (.aload_n 0, 1) := by decide +kernel
theorem dX12_ranked_40 : decode cX12_ranked 40 = .ok (.iload 6, 2) := by decide +kernel
theorem dX12_ranked_42 : decode cX12_ranked 42 = .ok (.iload 4, 2) := by decide +kernel
theorem dX12_ranked_44 : decode cX12_ranked 44 = .ok (.invokevirtual 270, 3) := by decide +kernel
theorem dX12_ranked_47 : decode cX12_ranked 47 = .ok (.ifCond .eq 21, 3) := by decide +kernel
theorem dX12_ranked_50 : decode cX12_ranked 50 = .ok (.goto 14, 3) := by decide +kernel
theorem dX12_ranked_53 : decode cX12_ranked 53 = .ok (.aload_n 0, 1) := by decide +kernel
theorem dX12_ranked_54 : decode cX12_ranked 54 = .ok (.iload 6, 2) := by decide +kernel
theorem dX12_ranked_56 : decode cX12_ranked 56 = .ok (.iload 4, 2) := by decide +kernel
theorem dX12_ranked_58 : decode cX12_ranked 58 = .ok (.invokevirtual 273, 3) := by decide +kernel
theorem dX12_ranked_61 : decode cX12_ranked 61 = .ok (.ifCond .eq 7, 3) := by decide +kernel
theorem dX12_ranked_64 : decode cX12_ranked 64 = .ok (.iconst 1, 1) := by decide +kernel
theorem dX12_ranked_65 : decode cX12_ranked 65 = .ok (.goto 4, 3) := by decide +kernel
theorem dX12_ranked_68 : decode cX12_ranked 68 = .ok (.iconst 0, 1) := by decide +kernel
theorem dX12_ranked_69 : decode cX12_ranked 69 = .ok (.iadd, 1) := by decide +kernel
theorem dX12_ranked_70 : decode cX12_ranked 70 = .ok (.istore 5, 2) := by decide +kernel
theorem dX12_ranked_72 : decode cX12_ranked 72 = .ok (.iinc 6 1, 3) := by decide +kernel
theorem dX12_ranked_75 : decode cX12_ranked 75 = .ok (.goto (-55), 3) := by decide +kernel
theorem dX12_ranked_78 : decode cX12_ranked 78 = .ok (.iload 5, 2) := by decide +kernel
theorem dX12_ranked_80 : decode cX12_ranked 80 = .ok (.iload_n 1, 1) := by decide +kernel
theorem dX12_ranked_81 : decode cX12_ranked 81 = .ok (.if_icmp .ne 25, 3) := by decide +kernel
theorem dX12_ranked_84 : decode cX12_ranked 84 = .ok (.iload_n 3, 1) := by decide +kernel
theorem dX12_ranked_85 : decode cX12_ranked 85 = .ok (.ifCond .eq 13, 3) := by decide +kernel
theorem dX12_ranked_88 : decode cX12_ranked 88 = .ok (.aload_n 0, 1) := by decide +kernel
theorem dX12_ranked_89 : decode cX12_ranked 89 = .ok (.iload 4, 2) := by decide +kernel
theorem dX12_ranked_91 : decode cX12_ranked 91 = .ok (.iconst 0, 1) := by decide +kernel
theorem dX12_ranked_92 : decode cX12_ranked 92 = .ok (.invokevirtual 79, 3) := by decide +kernel
theorem dX12_ranked_95 : decode cX12_ranked 95 = .ok (.goto 10, 3) := by decide +kernel
theorem dX12_ranked_98 : decode cX12_ranked 98 = .ok (.aload_n 0, 1) := by decide +kernel
theorem dX12_ranked_99 : decode cX12_ranked 99 = .ok (.iload 4, 2) := by decide +kernel
theorem dX12_ranked_101 : decode cX12_ranked 101 = .ok (.iconst 0, 1) := by decide +kernel
theorem dX12_ranked_102 : decode cX12_ranked 102 = .ok (.invokevirtual 104, 3) := by decide +kernel
theorem dX12_ranked_105 : decode cX12_ranked 105 = .ok (.ireturn, 1) := by decide +kernel
theorem dX12_ranked_106 : decode cX12_ranked 106 = .ok (.iinc 4 1, 3) := by decide +kernel
theorem dX12_ranked_109 : decode cX12_ranked 109 = .ok (.goto (-101), 3) := by decide +kernel
theorem dX12_ranked_112 : decode cX12_ranked 112 = .ok (.aload_n 0, 1) := by decide +kernel
theorem dX12_ranked_113 : decode cX12_ranked 113 = .ok (.iconst 1, 1) := by decide +kernel
theorem dX12_ranked_114 : decode cX12_ranked 114 = .ok (.invokevirtual 94, 3) := by decide +kernel
theorem dX12_ranked_117 : decode cX12_ranked 117 = .ok (.ireturn, 1) := by decide +kernel
theorem dX12_policyByLoad_0 : decode cX12_policyByLoad 0 = .ok (.aload_n 0, 1) := by decide +kernel
theorem dX12_policyByLoad_1 : decode cX12_policyByLoad 1 = .ok (.iload_n 1, 1) := by decide +kernel
theorem dX12_policyByLoad_2 : decode cX12_policyByLoad 2 = .ok (.aload_n 0, 1) := by decide +kernel
theorem dX12_policyByLoad_3 : decode cX12_policyByLoad 3 = .ok (.getfield 7, 3) := by decide +kernel
theorem dX12_policyByLoad_6 : decode cX12_policyByLoad 6 = .ok (.iconst 0, 1) := by decide +kernel
theorem dX12_policyByLoad_7 : decode cX12_policyByLoad 7 = .ok (.iaload, 1) := by decide +kernel
theorem dX12_policyByLoad_8 : decode cX12_policyByLoad 8 = .ok (.iconst 1, 1) := by decide +kernel
theorem dX12_policyByLoad_9 : decode cX12_policyByLoad 9 = .ok (.invokevirtual 276, 3) := by decide +kernel
theorem dX12_policyByLoad_12 : decode cX12_policyByLoad 12 = .ok (.ireturn, 1) := by decide +kernel
theorem dX12_claimByUnpaid_0 : decode cX12_claimByUnpaid 0 = .ok (.aload_n 0, 1) := by decide +kernel
theorem dX12_claimByUnpaid_1 : decode cX12_claimByUnpaid 1 = .ok (.iload_n 1, 1) := by decide +kernel
theorem dX12_claimByUnpaid_2 : decode cX12_claimByUnpaid 2 = .ok (.aload_n 0, 1) := by decide +kernel
theorem dX12_claimByUnpaid_3 : decode cX12_claimByUnpaid 3 = .ok (.getfield 7, 3) := by decide +kernel
theorem dX12_claimByUnpaid_6 : decode cX12_claimByUnpaid 6 = .ok (.iconst 1, 1) := by decide +kernel
theorem dX12_claimByUnpaid_7 : decode cX12_claimByUnpaid 7 = .ok (.iaload, 1) := by decide +kernel
theorem dX12_claimByUnpaid_8 : decode cX12_claimByUnpaid 8 = .ok (.iconst 0, 1) := by decide +kernel
theorem dX12_claimByUnpaid_9 : decode cX12_claimByUnpaid 9 = .ok (.invokevirtual 276, 3) := by decide +kernel
theorem dX12_claimByUnpaid_12 : decode cX12_claimByUnpaid 12 = .ok (.ireturn, 1) := by decide +kernel
theorem dX12_meanSum_0 : decode cX12_meanSum 0 = .ok (.aload_n 0, 1) := by decide +kernel
theorem dX12_meanSum_1 : decode cX12_meanSum 1 = .ok (.aload_n 0, 1) := by decide +kernel
theorem dX12_meanSum_2 : decode cX12_meanSum 2 = .ok (.getfield 7, 3) := by decide +kernel
theorem dX12_meanSum_5 : decode cX12_meanSum 5 = .ok (.iconst 0, 1) := by decide +kernel
theorem dX12_meanSum_6 : decode cX12_meanSum 6 = .ok (.iaload, 1) := by decide +kernel
theorem dX12_meanSum_7 : decode cX12_meanSum 7 = .ok (.ifCond .le 7, 3) := by decide +kernel
theorem dX12_meanSum_10 : decode cX12_meanSum 10 = .ok (.iconst 1, 1) := by decide +kernel
theorem dX12_meanSum_11 : decode cX12_meanSum 11 = .ok (.goto 4, 3) := by decide +kernel
theorem dX12_meanSum_14 : decode cX12_meanSum 14 = .ok (.iconst 0, 1) := by decide +kernel
theorem dX12_meanSum_15 : decode cX12_meanSum 15 = .ok (.invokevirtual 213, 3) := by decide +kernel
theorem dX12_meanSum_18 : decode cX12_meanSum 18 = .ok (.ifCond .le 5, 3) := by decide +kernel
theorem dX12_meanSum_21 : decode cX12_meanSum 21 = .ok (.dconst 0, 1) := by decide +kernel
theorem dX12_meanSum_22 : decode cX12_meanSum 22 = .ok (.dreturn, 1) := by decide +kernel
theorem dX12_meanSum_23 : decode cX12_meanSum 23 = .ok (.iconst 0, 1) := by decide +kernel
theorem dX12_meanSum_24 : decode cX12_meanSum 24 = .ok (.istore_n 1, 1) := by decide +kernel
theorem dX12_meanSum_25 : decode cX12_meanSum 25 = .ok (.iconst 0, 1) := by decide +kernel
theorem dX12_meanSum_26 : decode cX12_meanSum 26 = .ok (.istore_n 2, 1) := by decide +kernel
theorem dX12_meanSum_27 : decode cX12_meanSum 27 = .ok (.iload_n 2, 1) := by decide +kernel
theorem dX12_meanSum_28 : decode cX12_meanSum 28 = .ok (.aload_n 0, 1) := by decide +kernel
theorem dX12_meanSum_29 : decode cX12_meanSum 29 = .ok (.getfield 7, 3) := by decide +kernel
theorem dX12_meanSum_32 : decode cX12_meanSum 32 = .ok (.iconst 0, 1) := by decide +kernel
theorem dX12_meanSum_33 : decode cX12_meanSum 33 = .ok (.iaload, 1) := by decide +kernel
theorem dX12_meanSum_34 : decode cX12_meanSum 34 = .ok (.if_icmp .ge 18, 3) := by decide +kernel
theorem dX12_meanSum_37 : decode cX12_meanSum 37 = .ok (.iload_n 1, 1) := by decide +kernel
theorem dX12_meanSum_38 : decode cX12_meanSum 38 = .ok (.aload_n 0, 1) := by decide +kernel
theorem dX12_meanSum_39 : decode cX12_meanSum 39 = .ok (.iload_n 2, 1) := by decide +kernel
theorem dX12_meanSum_40 : decode cX12_meanSum 40 = .ok (.iconst 1, 1) := by decide +kernel
theorem dX12_meanSum_41 : decode cX12_meanSum 41 = .ok (.invokevirtual 79, 3) := by decide +kernel
theorem dX12_meanSum_44 : decode cX12_meanSum 44 = .ok (.iadd, 1) := by decide +kernel
theorem dX12_meanSum_45 : decode cX12_meanSum 45 = .ok (.istore_n 1, 1) := by decide +kernel
theorem dX12_meanSum_46 : decode cX12_meanSum 46 = .ok (.iinc 2 1, 3) := by decide +kernel
theorem dX12_meanSum_49 : decode cX12_meanSum 49 = .ok (.goto (-22), 3) := by decide +kernel
theorem dX12_meanSum_52 : decode cX12_meanSum 52 = .ok (.iload_n 1, 1) := by decide +kernel
theorem dX12_meanSum_53 : decode cX12_meanSum 53 = .ok (.i2d, 1) := by decide +kernel
theorem dX12_meanSum_54 : decode cX12_meanSum 54 = .ok (.aload_n 0, 1) := by decide +kernel
theorem dX12_meanSum_55 : decode cX12_meanSum 55 = .ok (.getfield 7, 3) := by decide +kernel
theorem dX12_meanSum_58 : decode cX12_meanSum 58 = .ok (.iconst 0, 1) := by decide +kernel
theorem dX12_meanSum_59 : decode cX12_meanSum 59 = .ok (.iaload, 1) := by decide +kernel
theorem dX12_meanSum_60 : decode cX12_meanSum 60 = .ok (.i2d, 1) := by decide +kernel
theorem dX12_meanSum_61 : decode cX12_meanSum 61 = .ok (.ddiv, 1) := by decide +kernel
theorem dX12_meanSum_62 : decode cX12_meanSum 62 = .ok (.dreturn, 1) := by decide +kernel
theorem dX12_paidShare_0 : decode cX12_paidShare 0 = .ok (.aload_n 0, 1) := by decide +kernel
theorem dX12_paidShare_1 : decode cX12_paidShare 1 = .ok (.aload_n 0, 1) := by decide +kernel
theorem dX12_paidShare_2 : decode cX12_paidShare 2 = .ok (.getfield 7, 3) := by decide +kernel
theorem dX12_paidShare_5 : decode cX12_paidShare 5 = .ok (.iconst 1, 1) := by decide +kernel
theorem dX12_paidShare_6 : decode cX12_paidShare 6 = .ok (.iaload, 1) := by decide +kernel
theorem dX12_paidShare_7 : decode cX12_paidShare 7 = .ok (.ifCond .le 7, 3) := by decide +kernel
theorem dX12_paidShare_10 : decode cX12_paidShare 10 = .ok (.iconst 1, 1) := by decide +kernel
theorem dX12_paidShare_11 : decode cX12_paidShare 11 = .ok (.goto 4, 3) := by decide +kernel
theorem dX12_paidShare_14 : decode cX12_paidShare 14 = .ok (.iconst 0, 1) := by decide +kernel
theorem dX12_paidShare_15 : decode cX12_paidShare 15 = .ok (.invokevirtual 213, 3) := by decide +kernel
theorem dX12_paidShare_18 : decode cX12_paidShare 18 = .ok (.ifCond .le 5, 3) := by decide +kernel
theorem dX12_paidShare_21 : decode cX12_paidShare 21 = .ok (.fconst 0, 1) := by decide +kernel
theorem dX12_paidShare_22 : decode cX12_paidShare 22 = .ok (.freturn, 1) := by decide +kernel
theorem dX12_paidShare_23 : decode cX12_paidShare 23 = .ok (.iconst 0, 1) := by decide +kernel
theorem dX12_paidShare_24 : decode cX12_paidShare 24 = .ok (.istore_n 1, 1) := by decide +kernel
theorem dX12_paidShare_25 : decode cX12_paidShare 25 = .ok (.iconst 0, 1) := by decide +kernel
theorem dX12_paidShare_26 : decode cX12_paidShare 26 = .ok (.istore_n 2, 1) := by decide +kernel
theorem dX12_paidShare_27 : decode cX12_paidShare 27 = .ok (.iconst 0, 1) := by decide +kernel
theorem dX12_paidShare_28 : decode cX12_paidShare 28 = .ok (.istore_n 3, 1) := by decide +kernel
theorem dX12_paidShare_29 : decode cX12_paidShare 29 = .ok (.iload_n 3, 1) := by decide +kernel
theorem dX12_paidShare_30 : decode cX12_paidShare 30 = .ok (.aload_n 0, 1) := by decide +kernel
theorem dX12_paidShare_31 : decode cX12_paidShare 31 = .ok (.getfield 7, 3) := by decide +kernel
theorem dX12_paidShare_34 : decode cX12_paidShare 34 = .ok (.iconst 1, 1) := by decide +kernel
theorem dX12_paidShare_35 : decode cX12_paidShare 35 = .ok (.iaload, 1) := by decide +kernel
theorem dX12_paidShare_36 : decode cX12_paidShare 36 = .ok (.if_icmp .ge 27, 3) := by decide +kernel
theorem dX12_paidShare_39 : decode cX12_paidShare 39 = .ok (.iload_n 1, 1) := by decide +kernel
theorem dX12_paidShare_40 : decode cX12_paidShare 40 = .ok (.aload_n 0, 1) := by decide +kernel
theorem dX12_paidShare_41 : decode cX12_paidShare 41 = .ok (.iload_n 3, 1) := by decide +kernel
theorem dX12_paidShare_42 : decode cX12_paidShare 42 = .ok (.iconst 4, 1) := by decide +kernel
theorem dX12_paidShare_43 : decode cX12_paidShare 43 = .ok (.invokevirtual 104, 3) := by decide +kernel
theorem dX12_paidShare_46 : decode cX12_paidShare 46 = .ok (.iadd, 1) := by decide +kernel
theorem dX12_paidShare_47 : decode cX12_paidShare 47 = .ok (.istore_n 1, 1) := by decide +kernel
theorem dX12_paidShare_48 : decode cX12_paidShare 48 = .ok (.iload_n 2, 1) := by decide +kernel
theorem dX12_paidShare_49 : decode cX12_paidShare 49 = .ok (.aload_n 0, 1) := by decide +kernel
theorem dX12_paidShare_50 : decode cX12_paidShare 50 = .ok (.iload_n 3, 1) := by decide +kernel
theorem dX12_paidShare_51 : decode cX12_paidShare 51 = .ok (.iconst 3, 1) := by decide +kernel
theorem dX12_paidShare_52 : decode cX12_paidShare 52 = .ok (.invokevirtual 104, 3) := by decide +kernel
theorem dX12_paidShare_55 : decode cX12_paidShare 55 = .ok (.iadd, 1) := by decide +kernel
theorem dX12_paidShare_56 : decode cX12_paidShare 56 = .ok (.istore_n 2, 1) := by decide +kernel
theorem dX12_paidShare_57 : decode cX12_paidShare 57 = .ok (.iinc 3 1, 3) := by decide +kernel
theorem dX12_paidShare_60 : decode cX12_paidShare 60 = .ok (.goto (-31), 3) := by decide +kernel
theorem dX12_paidShare_63 : decode cX12_paidShare 63 = .ok (.iload_n 1, 1) := by decide +kernel
theorem dX12_paidShare_64 : decode cX12_paidShare 64 = .ok (.i2f, 1) := by decide +kernel
theorem dX12_paidShare_65 : decode cX12_paidShare 65 = .ok (.iload_n 2, 1) := by decide +kernel
theorem dX12_paidShare_66 : decode cX12_paidShare 66 = .ok (.i2f, 1) := by decide +kernel
theorem dX12_paidShare_67 : decode cX12_paidShare 67 = .ok (.fdiv, 1) := by decide +kernel
theorem dX12_paidShare_68 : decode cX12_paidShare 68 = .ok (.freturn, 1) := by decide +kernel
theorem dX12_isConsistent_0 : decode cX12_isConsistent 0 = .ok (.aload_n 0, 1) := by decide +kernel
theorem dX12_isConsistent_1 : decode cX12_isConsistent 1 = .ok (.iconst 1, 1) := by decide +kernel
theorem dX12_isConsistent_2 : decode cX12_isConsistent 2 = .ok (.invokevirtual 210, 3) := by decide +kernel
theorem dX12_isConsistent_5 : decode cX12_isConsistent 5 = .ok (.iconst 1, 1) := by decide +kernel
theorem dX12_isConsistent_6 : decode cX12_isConsistent 6 = .ok (.if_icmp .ne 7, 3) := by decide +kernel
theorem dX12_isConsistent_9 : decode cX12_isConsistent 9 = .ok (.iconst 1, 1) := by decide +kernel
theorem dX12_isConsistent_10 : decode cX12_isConsistent 10 = .ok (.goto 4, 3) := by decide +kernel
theorem dX12_isConsistent_13 : decode cX12_isConsistent 13 = .ok (.iconst 0, 1) := by decide +kernel
theorem dX12_isConsistent_14 : decode cX12_isConsistent 14 = .ok (.ireturn, 1) := by decide +kernel
theorem dX12_write_0 : decode cX12_write 0 = .ok (.aload_n 0, 1) := by decide +kernel
theorem dX12_write_1 : decode cX12_write 1 = .ok (.getfield 45, 3) := by decide +kernel
theorem dX12_write_4 : decode cX12_write 4 = .ok (.aload_n 0, 1) := by decide +kernel
theorem dX12_write_5 : decode cX12_write 5 = .ok (.getfield 48, 3) := by decide +kernel
theorem dX12_write_8 : decode cX12_write 8 = .ok (.iload_n 1, 1) := by decide +kernel
theorem dX12_write_9 : decode cX12_write 9 = .ok (.iastore, 1) := by decide +kernel
theorem dX12_write_10 : decode cX12_write 10 = .ok (.aload_n 0, 1) := by decide +kernel
theorem dX12_write_11 : decode cX12_write 11 = .ok (.dup, 1) := by decide +kernel
theorem dX12_write_12 : decode cX12_write 12 = .ok (.getfield 48, 3) := by decide +kernel
theorem dX12_write_15 : decode cX12_write 15 = .ok (.iconst 1, 1) := by decide +kernel
theorem dX12_write_16 : decode cX12_write 16 = .ok (.iadd, 1) := by decide +kernel
theorem dX12_write_17 : decode cX12_write 17 = .ok (.putfield 48, 3) := by decide +kernel
theorem dX12_write_20 : decode cX12_write 20 = .ok (.return_, 1) := by decide +kernel
theorem dX12_writeNumber_0 : decode cX12_writeNumber 0 = .ok (.iconst 1, 1) := by decide +kernel
theorem dX12_writeNumber_1 : decode cX12_writeNumber 1 = .ok (.istore_n 2, 1) := by decide +kernel
theorem dX12_writeNumber_2 : decode cX12_writeNumber 2 = .ok (.iload_n 1, 1) := by decide +kernel
theorem dX12_writeNumber_3 : decode cX12_writeNumber 3 = .ok (.iload_n 2, 1) := by decide +kernel
theorem dX12_writeNumber_4 : decode cX12_writeNumber 4 = .ok (.idiv, 1) := by decide +kernel
theorem dX12_writeNumber_5 : decode cX12_writeNumber 5 = .ok (.bipush 9, 2) := by decide +kernel
theorem dX12_writeNumber_7 : decode cX12_writeNumber 7 = .ok (.if_icmp .le 11, 3) := by decide +kernel
theorem dX12_writeNumber_10 : decode cX12_writeNumber 10 = .ok (.iload_n 2, 1) := by decide +kernel
theorem dX12_writeNumber_11 : decode cX12_writeNumber 11 = .ok (.bipush 10, 2) := by decide +kernel
theorem dX12_writeNumber_13 : decode cX12_writeNumber 13 = .ok (.imul, 1) := by decide +kernel
theorem dX12_writeNumber_14 : decode cX12_writeNumber 14 = .ok (.istore_n 2, 1) := by decide +kernel
theorem dX12_writeNumber_15 : decode cX12_writeNumber 15 = .ok (.goto (-13), 3) := by decide +kernel
theorem dX12_writeNumber_18 : decode cX12_writeNumber 18 = .ok (.iload_n 2, 1) := by decide +kernel
theorem dX12_writeNumber_19 : decode cX12_writeNumber 19 = .ok (.ifCond .le 24, 3) := by decide +kernel
theorem dX12_writeNumber_22 : decode cX12_writeNumber 22 = .ok (.aload_n 0, 1) := by decide +kernel
theorem dX12_writeNumber_23 : decode cX12_writeNumber 23 = .ok (.bipush 48, 2) := by decide +kernel
theorem dX12_writeNumber_25 : decode cX12_writeNumber 25 = .ok (.iload_n 1, 1) := by decide +kernel
theorem dX12_writeNumber_26 : decode cX12_writeNumber 26 = .ok (.iload_n 2, 1) := by decide +kernel
theorem dX12_writeNumber_27 : decode cX12_writeNumber 27 = .ok (.idiv, 1) := by decide +kernel
theorem dX12_writeNumber_28 : decode cX12_writeNumber 28 = .ok (.bipush 10, 2) := by decide +kernel
theorem dX12_writeNumber_30 : decode cX12_writeNumber 30 = .ok (.irem, 1) := by decide +kernel
theorem dX12_writeNumber_31 : decode cX12_writeNumber 31 = .ok (.iadd, 1) := by decide +kernel
theorem dX12_writeNumber_32 : decode cX12_writeNumber 32 = .ok (.invokevirtual 280, 3) := by decide +kernel
theorem dX12_writeNumber_35 : decode cX12_writeNumber 35 = .ok (.iload_n 2, 1) := by decide +kernel
theorem dX12_writeNumber_36 : decode cX12_writeNumber 36 = .ok (.bipush 10, 2) := by decide +kernel
theorem dX12_writeNumber_38 : decode cX12_writeNumber 38 = .ok (.idiv, 1) := by decide +kernel
theorem dX12_writeNumber_39 : decode cX12_writeNumber 39 = .ok (.istore_n 2, 1) := by decide +kernel
theorem dX12_writeNumber_40 : decode cX12_writeNumber 40 = .ok (.goto (-22), 3) := by decide +kernel
theorem dX12_writeNumber_43 : decode cX12_writeNumber 43 = .ok (.return_, 1) := by decide +kernel
theorem dX12_writePolicy_0 : decode cX12_writePolicy 0 = .ok (.aload_n 0, 1) := by decide +kernel
theorem dX12_writePolicy_1 : decode cX12_writePolicy 1 = .ok (.aload_n 0, 1) := by decide +kernel
theorem dX12_writePolicy_2 : decode cX12_writePolicy 2 = .ok (.iload_n 1, 1) := by decide +kernel
theorem dX12_writePolicy_3 : decode cX12_writePolicy 3 = .ok (.invokevirtual 107, 3) := by decide +kernel
theorem dX12_writePolicy_6 : decode cX12_writePolicy 6 = .ok (.ifCond .lt 7, 3) := by decide +kernel
theorem dX12_writePolicy_9 : decode cX12_writePolicy 9 = .ok (.iconst 1, 1) := by decide +kernel
theorem dX12_writePolicy_10 : decode cX12_writePolicy 10 = .ok (.goto 4, 3) := by decide +kernel
theorem dX12_writePolicy_13 : decode cX12_writePolicy 13 = .ok (.iconst 0, 1) := by decide +kernel
theorem dX12_writePolicy_14 : decode cX12_writePolicy 14 = .ok (.invokevirtual 213, 3) := by decide +kernel
theorem dX12_writePolicy_17 : decode cX12_writePolicy 17 = .ok (.ifCond .le 5, 3) := by decide +kernel
theorem dX12_writePolicy_20 : decode cX12_writePolicy 20 = .ok (.iconst 0, 1) := by decide +kernel
theorem dX12_writePolicy_21 : decode cX12_writePolicy 21 = .ok (.ireturn, 1) := by decide +kernel
theorem dX12_writePolicy_22 : decode cX12_writePolicy 22 = .ok (.aload_n 0, 1) := by decide +kernel
theorem dX12_writePolicy_23 : decode cX12_writePolicy 23 = .ok (.iload_n 1, 1) := by decide +kernel
theorem dX12_writePolicy_24 : decode cX12_writePolicy 24 = .ok (.invokevirtual 107, 3) := by decide +kernel
theorem dX12_writePolicy_27 : decode cX12_writePolicy 27 = .ok (.istore_n 2, 1) := by decide +kernel
theorem dX12_writePolicy_28 : decode cX12_writePolicy 28 = .ok (.aload_n 0, 1) := by decide +kernel
theorem dX12_writePolicy_29 : decode cX12_writePolicy 29 = .ok (.iconst 0, 1) := by decide +kernel
theorem dX12_writePolicy_30 : decode cX12_writePolicy 30 = .ok (.putfield 48, 3) := by decide +kernel
theorem dX12_writePolicy_33 : decode cX12_writePolicy 33 = .ok (.aload_n 0, 1) := by decide +kernel
theorem dX12_writePolicy_34 : decode cX12_writePolicy 34 = .ok (.bipush 35, 2) := by decide +kernel
theorem dX12_writePolicy_36 : decode cX12_writePolicy 36 = .ok (.invokevirtual 280, 3) := by decide +kernel
theorem dX12_writePolicy_39 : decode cX12_writePolicy 39 = .ok (.aload_n 0, 1) := by decide +kernel
theorem dX12_writePolicy_40 : decode cX12_writePolicy 40 = .ok (.iload_n 1, 1) := by decide +kernel
theorem dX12_writePolicy_41 : decode cX12_writePolicy 41 = .ok (.invokevirtual 284, 3) := by decide +kernel
theorem dX12_writePolicy_44 : decode cX12_writePolicy 44 = .ok (.aload_n 0, 1) := by decide +kernel
theorem dX12_writePolicy_45 : decode cX12_writePolicy 45 = .ok (.bipush 58, 2) := by decide +kernel
theorem dX12_writePolicy_47 : decode cX12_writePolicy 47 = .ok (.invokevirtual 280, 3) := by decide +kernel
theorem dX12_writePolicy_50 : decode cX12_writePolicy 50 = .ok (.aload_n 0, 1) := by decide +kernel
theorem dX12_writePolicy_51 : decode cX12_writePolicy 51 = .ok (.aload_n 0, 1) := by decide +kernel
theorem dX12_writePolicy_52 : decode cX12_writePolicy 52 = .ok (.iload_n 2, 1) := by decide +kernel
theorem dX12_writePolicy_53 : decode cX12_writePolicy 53 = .ok (.iconst 1, 1) := by decide +kernel
theorem dX12_writePolicy_54 : decode cX12_writePolicy 54 = .ok (.invokevirtual 79, 3) := by decide +kernel
theorem dX12_writePolicy_57 : decode cX12_writePolicy 57 = .ok (.invokevirtual 284, 3) := by decide +kernel
theorem dX12_writePolicy_60 : decode cX12_writePolicy 60 = .ok (.aload_n 0, 1) := by decide +kernel
theorem dX12_writePolicy_61 : decode cX12_writePolicy 61 = .ok (.bipush 120, 2) := by decide +kernel
theorem dX12_writePolicy_63 : decode cX12_writePolicy 63 = .ok (.invokevirtual 280, 3) := by decide +kernel
theorem dX12_writePolicy_66 : decode cX12_writePolicy 66 = .ok (.aload_n 0, 1) := by decide +kernel
theorem dX12_writePolicy_67 : decode cX12_writePolicy 67 = .ok (.aload_n 0, 1) := by decide +kernel
theorem dX12_writePolicy_68 : decode cX12_writePolicy 68 = .ok (.iload_n 2, 1) := by decide +kernel
theorem dX12_writePolicy_69 : decode cX12_writePolicy 69 = .ok (.iconst 2, 1) := by decide +kernel
theorem dX12_writePolicy_70 : decode cX12_writePolicy 70 = .ok (.invokevirtual 79, 3) := by decide +kernel
theorem dX12_writePolicy_73 : decode cX12_writePolicy 73 = .ok (.invokevirtual 284, 3) := by decide +kernel
theorem dX12_writePolicy_76 : decode cX12_writePolicy 76 = .ok (.aload_n 0, 1) := by decide +kernel
theorem dX12_writePolicy_77 : decode cX12_writePolicy 77 = .ok (.bipush 64, 2) := by decide +kernel
theorem dX12_writePolicy_79 : decode cX12_writePolicy 79 = .ok (.invokevirtual 280, 3) := by decide +kernel
theorem dX12_writePolicy_82 : decode cX12_writePolicy 82 = .ok (.aload_n 0, 1) := by decide +kernel
theorem dX12_writePolicy_83 : decode cX12_writePolicy 83 = .ok (.aload_n 0, 1) := by decide +kernel
theorem dX12_writePolicy_84 : decode cX12_writePolicy 84 = .ok (.iload_n 2, 1) := by decide +kernel
theorem dX12_writePolicy_85 : decode cX12_writePolicy 85 = .ok (.iconst 4, 1) := by decide +kernel
theorem dX12_writePolicy_86 : decode cX12_writePolicy 86 = .ok (.invokevirtual 79, 3) := by decide +kernel
theorem dX12_writePolicy_89 : decode cX12_writePolicy 89 = .ok (.invokevirtual 284, 3) := by decide +kernel
theorem dX12_writePolicy_92 : decode cX12_writePolicy 92 = .ok (.aload_n 0, 1) := by decide +kernel
theorem dX12_writePolicy_93 : decode cX12_writePolicy 93 = .ok (.iload_n 2, 1) := by decide +kernel
theorem dX12_writePolicy_94 : decode cX12_writePolicy 94 = .ok (.invokevirtual 114, 3) := by decide +kernel
theorem dX12_writePolicy_97 : decode cX12_writePolicy 97 = .ok (.ifCond .ne 9, 3) := by decide +kernel
theorem dX12_writePolicy_100 : decode cX12_writePolicy 100 = .ok (.aload_n 0, 1) := by decide +kernel
theorem dX12_writePolicy_101 : decode cX12_writePolicy 101 = .ok (.bipush 33, 2) := by decide +kernel
theorem dX12_writePolicy_103 : decode cX12_writePolicy 103 = .ok (.invokevirtual 280, 3) := by decide +kernel
theorem dX12_writePolicy_106 : decode cX12_writePolicy 106 = .ok (.aload_n 0, 1) := by decide +kernel
theorem dX12_writePolicy_107 : decode cX12_writePolicy 107 = .ok (.getfield 48, 3) := by decide +kernel
theorem dX12_writePolicy_110 : decode cX12_writePolicy 110 = .ok (.ireturn, 1) := by decide +kernel
theorem dX12_writeClaim_0 : decode cX12_writeClaim 0 = .ok (.aload_n 0, 1) := by decide +kernel
theorem dX12_writeClaim_1 : decode cX12_writeClaim 1 = .ok (.aload_n 0, 1) := by decide +kernel
theorem dX12_writeClaim_2 : decode cX12_writeClaim 2 = .ok (.iload_n 1, 1) := by decide +kernel
theorem dX12_writeClaim_3 : decode cX12_writeClaim 3 = .ok (.invokevirtual 167, 3) := by decide +kernel
theorem dX12_writeClaim_6 : decode cX12_writeClaim 6 = .ok (.ifCond .lt 7, 3) := by decide +kernel
theorem dX12_writeClaim_9 : decode cX12_writeClaim 9 = .ok (.iconst 1, 1) := by decide +kernel
theorem dX12_writeClaim_10 : decode cX12_writeClaim 10 = .ok (.goto 4, 3) := by decide +kernel
theorem dX12_writeClaim_13 : decode cX12_writeClaim 13 = .ok (.iconst 0, 1) := by decide +kernel
theorem dX12_writeClaim_14 : decode cX12_writeClaim 14 = .ok (.invokevirtual 213, 3) := by decide +kernel
theorem dX12_writeClaim_17 : decode cX12_writeClaim 17 = .ok (.ifCond .le 5, 3) := by decide +kernel
theorem dX12_writeClaim_20 : decode cX12_writeClaim 20 = .ok (.iconst 0, 1) := by decide +kernel
theorem dX12_writeClaim_21 : decode cX12_writeClaim 21 = .ok (.ireturn, 1) := by decide +kernel
theorem dX12_writeClaim_22 : decode cX12_writeClaim 22 = .ok (.aload_n 0, 1) := by decide +kernel
theorem dX12_writeClaim_23 : decode cX12_writeClaim 23 = .ok (.iload_n 1, 1) := by decide +kernel
theorem dX12_writeClaim_24 : decode cX12_writeClaim 24 = .ok (.invokevirtual 167, 3) := by decide +kernel
theorem dX12_writeClaim_27 : decode cX12_writeClaim 27 = .ok (.istore_n 2, 1) := by decide +kernel
theorem dX12_writeClaim_28 : decode cX12_writeClaim 28 = .ok (.aload_n 0, 1) := by decide +kernel
theorem dX12_writeClaim_29 : decode cX12_writeClaim 29 = .ok (.iconst 0, 1) := by decide +kernel
theorem dX12_writeClaim_30 : decode cX12_writeClaim 30 = .ok (.putfield 48, 3) := by decide +kernel
theorem dX12_writeClaim_33 : decode cX12_writeClaim 33 = .ok (.aload_n 0, 1) := by decide +kernel
theorem dX12_writeClaim_34 : decode cX12_writeClaim 34 = .ok (.iload_n 1, 1) := by decide +kernel
theorem dX12_writeClaim_35 : decode cX12_writeClaim 35 = .ok (.invokevirtual 284, 3) := by decide +kernel
theorem dX12_writeClaim_38 : decode cX12_writeClaim 38 = .ok (.aload_n 0, 1) := by decide +kernel
theorem dX12_writeClaim_39 : decode cX12_writeClaim 39 = .ok (.aload_n 0, 1) := by decide +kernel
theorem dX12_writeClaim_40 : decode cX12_writeClaim 40 = .ok (.iload_n 2, 1) := by decide +kernel
theorem dX12_writeClaim_41 : decode cX12_writeClaim 41 = .ok (.iconst 2, 1) := by decide +kernel
theorem dX12_writeClaim_42 : decode cX12_writeClaim 42 = .ok (.invokevirtual 104, 3) := by decide +kernel
theorem dX12_writeClaim_45 : decode cX12_writeClaim 45 = .ok (.invokevirtual 280, 3) := by decide +kernel
theorem dX12_writeClaim_48 : decode cX12_writeClaim 48 = .ok (.aload_n 0, 1) := by decide +kernel
theorem dX12_writeClaim_49 : decode cX12_writeClaim 49 = .ok (.aload_n 0, 1) := by decide +kernel
theorem dX12_writeClaim_50 : decode cX12_writeClaim 50 = .ok (.iload_n 2, 1) := by decide +kernel
theorem dX12_writeClaim_51 : decode cX12_writeClaim 51 = .ok (.iconst 3, 1) := by decide +kernel
theorem dX12_writeClaim_52 : decode cX12_writeClaim 52 = .ok (.invokevirtual 104, 3) := by decide +kernel
theorem dX12_writeClaim_55 : decode cX12_writeClaim 55 = .ok (.invokevirtual 284, 3) := by decide +kernel
theorem dX12_writeClaim_58 : decode cX12_writeClaim 58 = .ok (.aload_n 0, 1) := by decide +kernel
theorem dX12_writeClaim_59 : decode cX12_writeClaim 59 = .ok (.bipush 47, 2) := by decide +kernel
theorem dX12_writeClaim_61 : decode cX12_writeClaim 61 = .ok (.invokevirtual 280, 3) := by decide +kernel
theorem dX12_writeClaim_64 : decode cX12_writeClaim 64 = .ok (.aload_n 0, 1) := by decide +kernel
theorem dX12_writeClaim_65 : decode cX12_writeClaim 65 = .ok (.aload_n 0, 1) := by decide +kernel
theorem dX12_writeClaim_66 : decode cX12_writeClaim 66 = .ok (.iload_n 2, 1) := by decide +kernel
theorem dX12_writeClaim_67 : decode cX12_writeClaim 67 = .ok (.iconst 4, 1) := by decide +kernel
theorem dX12_writeClaim_68 : decode cX12_writeClaim 68 = .ok (.invokevirtual 104, 3) := by decide +kernel
theorem dX12_writeClaim_71 : decode cX12_writeClaim 71 = .ok (.invokevirtual 284, 3) := by decide +kernel
theorem dX12_writeClaim_74 : decode cX12_writeClaim 74 = .ok (.aload_n 0, 1) := by decide +kernel
theorem dX12_writeClaim_75 : decode cX12_writeClaim 75 = .ok (.bipush 61, 2) := by decide +kernel
theorem dX12_writeClaim_77 : decode cX12_writeClaim 77 = .ok (.invokevirtual 280, 3) := by decide +kernel
theorem dX12_writeClaim_80 : decode cX12_writeClaim 80 = .ok (.aload_n 0, 1) := by decide +kernel
theorem dX12_writeClaim_81 : decode cX12_writeClaim 81 = .ok (.aload_n 0, 1) := by decide +kernel
theorem dX12_writeClaim_82 : decode cX12_writeClaim 82 = .ok (.iload_n 2, 1) := by decide +kernel
theorem dX12_writeClaim_83 : decode cX12_writeClaim 83 = .ok (.iconst 3, 1) := by decide +kernel
theorem dX12_writeClaim_84 : decode cX12_writeClaim 84 = .ok (.invokevirtual 104, 3) := by decide +kernel
theorem dX12_writeClaim_87 : decode cX12_writeClaim 87 = .ok (.aload_n 0, 1) := by decide +kernel
theorem dX12_writeClaim_88 : decode cX12_writeClaim 88 = .ok (.iload_n 2, 1) := by decide +kernel
theorem dX12_writeClaim_89 : decode cX12_writeClaim 89 = .ok (.invokevirtual 146, 3) := by decide +kernel
theorem dX12_writeClaim_92 : decode cX12_writeClaim 92 = .ok (.isub, 1) := by decide +kernel
theorem dX12_writeClaim_93 : decode cX12_writeClaim 93 = .ok (.invokevirtual 284, 3) := by decide +kernel
theorem dX12_writeClaim_96 : decode cX12_writeClaim 96 = .ok (.aload_n 0, 1) := by decide +kernel
theorem dX12_writeClaim_97 : decode cX12_writeClaim 97 = .ok (.getfield 48, 3) := by decide +kernel
theorem dX12_writeClaim_100 : decode cX12_writeClaim 100 = .ok (.ireturn, 1) := by decide +kernel
theorem dX12_outputAt_0 : decode cX12_outputAt 0 = .ok (.aload_n 0, 1) := by decide +kernel
theorem dX12_outputAt_1 : decode cX12_outputAt 1 = .ok (.iload_n 1, 1) := by decide +kernel
theorem dX12_outputAt_2 : decode cX12_outputAt 2 = .ok (.iconst 0, 1) := by decide +kernel
theorem dX12_outputAt_3 : decode cX12_outputAt 3 = .ok (.aload_n 0, 1) := by decide +kernel
theorem dX12_outputAt_4 : decode cX12_outputAt 4 = .ok (.getfield 48, 3) := by decide +kernel
theorem dX12_outputAt_7 : decode cX12_outputAt 7 = .ok (.iconst 1, 1) := by decide +kernel
theorem dX12_outputAt_8 : decode cX12_outputAt 8 = .ok (.isub, 1) := by decide +kernel
theorem dX12_outputAt_9 : decode cX12_outputAt 9 = .ok (.invokestatic 83, 3) := by decide +kernel
theorem dX12_outputAt_12 : decode cX12_outputAt 12 = .ok (.invokevirtual 213, 3) := by decide +kernel
theorem dX12_outputAt_15 : decode cX12_outputAt 15 = .ok (.ifCond .le 8, 3) := by decide +kernel
theorem dX12_outputAt_18 : decode cX12_outputAt 18 = .ok (.bipush 32, 2) := by decide +kernel
theorem dX12_outputAt_20 : decode cX12_outputAt 20 = .ok (.goto 10, 3) := by decide +kernel
theorem dX12_outputAt_23 : decode cX12_outputAt 23 = .ok (.aload_n 0, 1) := by decide +kernel
theorem dX12_outputAt_24 : decode cX12_outputAt 24 = .ok (.getfield 45, 3) := by decide +kernel
theorem dX12_outputAt_27 : decode cX12_outputAt 27 = .ok (.iload_n 1, 1) := by decide +kernel
theorem dX12_outputAt_28 : decode cX12_outputAt 28 = .ok (.iaload, 1) := by decide +kernel
theorem dX12_outputAt_29 : decode cX12_outputAt 29 = .ok (.i2c, 1) := by decide +kernel
theorem dX12_outputAt_30 : decode cX12_outputAt 30 = .ok (.ireturn, 1) := by decide +kernel
theorem dX12_type_0 : decode cX12_type 0 = .ok (.aload_n 0, 1) := by decide +kernel
theorem dX12_type_1 : decode cX12_type 1 = .ok (.iload_n 1, 1) := by decide +kernel
theorem dX12_type_2 : decode cX12_type 2 = .ok (.bipush 32, 2) := by decide +kernel
theorem dX12_type_4 : decode cX12_type 4 = .ok (.bipush 126, 2) := by decide +kernel
theorem dX12_type_6 : decode cX12_type 6 = .ok (.invokestatic 83, 3) := by decide +kernel
theorem dX12_type_9 : decode cX12_type 9 = .ok (.ifCond .ne 7, 3) := by decide +kernel
theorem dX12_type_12 : decode cX12_type 12 = .ok (.iconst 1, 1) := by decide +kernel
theorem dX12_type_13 : decode cX12_type 13 = .ok (.goto 17, 3) := by decide +kernel
theorem dX12_type_16 : decode cX12_type 16 = .ok (.aload_n 0, 1) := by decide +kernel
theorem dX12_type_17 : decode cX12_type 17 = .ok (.getfield 60, 3) := by decide +kernel
theorem dX12_type_20 : decode cX12_type 20 = .ok (.bipush 60, 2) := by decide +kernel
theorem dX12_type_22 : decode cX12_type 22 = .ok (.if_icmp .ne 7, 3) := by decide +kernel
theorem dX12_type_25 : decode cX12_type 25 = .ok (.iconst 2, 1) := by decide +kernel
theorem dX12_type_26 : decode cX12_type 26 = .ok (.goto 4, 3) := by decide +kernel
theorem dX12_type_29 : decode cX12_type 29 = .ok (.iconst 0, 1) := by decide +kernel
theorem dX12_type_30 : decode cX12_type 30 = .ok (.putfield 28, 3) := by decide +kernel
theorem dX12_type_33 : decode cX12_type 33 = .ok (.aload_n 0, 1) := by decide +kernel
theorem dX12_type_34 : decode cX12_type 34 = .ok (.getfield 28, 3) := by decide +kernel
theorem dX12_type_37 : decode cX12_type 37 = .ok (.ifCond .le 5, 3) := by decide +kernel
theorem dX12_type_40 : decode cX12_type 40 = .ok (.iconst 0, 1) := by decide +kernel
theorem dX12_type_41 : decode cX12_type 41 = .ok (.ireturn, 1) := by decide +kernel
theorem dX12_type_42 : decode cX12_type 42 = .ok (.aload_n 0, 1) := by decide +kernel
theorem dX12_type_43 : decode cX12_type 43 = .ok (.getfield 51, 3) := by decide +kernel
theorem dX12_type_46 : decode cX12_type 46 = .ok (.aload_n 0, 1) := by decide +kernel
theorem dX12_type_47 : decode cX12_type 47 = .ok (.getfield 60, 3) := by decide +kernel
theorem dX12_type_50 : decode cX12_type 50 = .ok (.iload_n 1, 1) := by decide +kernel
theorem dX12_type_51 : decode cX12_type 51 = .ok (.iastore, 1) := by decide +kernel
theorem dX12_type_52 : decode cX12_type 52 = .ok (.aload_n 0, 1) := by decide +kernel
theorem dX12_type_53 : decode cX12_type 53 = .ok (.dup, 1) := by decide +kernel
theorem dX12_type_54 : decode cX12_type 54 = .ok (.getfield 60, 3) := by decide +kernel
theorem dX12_type_57 : decode cX12_type 57 = .ok (.iconst 1, 1) := by decide +kernel
theorem dX12_type_58 : decode cX12_type 58 = .ok (.iadd, 1) := by decide +kernel
theorem dX12_type_59 : decode cX12_type 59 = .ok (.putfield 60, 3) := by decide +kernel
theorem dX12_type_62 : decode cX12_type 62 = .ok (.aload_n 0, 1) := by decide +kernel
theorem dX12_type_63 : decode cX12_type 63 = .ok (.getfield 60, 3) := by decide +kernel
theorem dX12_type_66 : decode cX12_type 66 = .ok (.ireturn, 1) := by decide +kernel
theorem dX12_mark_0 : decode cX12_mark 0 = .ok (.aload_n 0, 1) := by decide +kernel
theorem dX12_mark_1 : decode cX12_mark 1 = .ok (.getfield 72, 3) := by decide +kernel
theorem dX12_mark_4 : decode cX12_mark 4 = .ok (.ifCond .ne 26, 3) := by decide +kernel
theorem dX12_mark_7 : decode cX12_mark 7 = .ok (.aload_n 0, 1) := by decide +kernel
theorem dX12_mark_8 : decode cX12_mark 8 = .ok (.getfield 66, 3) := by decide +kernel
theorem dX12_mark_11 : decode cX12_mark 11 = .ok (.aload_n 0, 1) := by decide +kernel
theorem dX12_mark_12 : decode cX12_mark 12 = .ok (.getfield 63, 3) := by decide +kernel
theorem dX12_mark_15 : decode cX12_mark 15 = .ok (.if_icmp .ge 15, 3) := by decide +kernel
theorem dX12_mark_18 : decode cX12_mark 18 = .ok (.aload_n 0, 1) := by decide +kernel
theorem dX12_mark_19 : decode cX12_mark 19 = .ok (.getfield 51, 3) := by decide +kernel
theorem dX12_mark_22 : decode cX12_mark 22 = .ok (.aload_n 0, 1) := by decide +kernel
theorem dX12_mark_23 : decode cX12_mark 23 = .ok (.getfield 66, 3) := by decide +kernel
theorem dX12_mark_26 : decode cX12_mark 26 = .ok (.iaload, 1) := by decide +kernel
theorem dX12_mark_27 : decode cX12_mark 27 = .ok (.goto 4, 3) := by decide +kernel
theorem dX12_mark_30 : decode cX12_mark 30 = .ok (.iconst (-1), 1) := by decide +kernel
theorem dX12_mark_31 : decode cX12_mark 31 = .ok (.ireturn, 1) := by decide +kernel
theorem dX12_expect_0 : decode cX12_expect 0 = .ok (.aload_n 0, 1) := by decide +kernel
theorem dX12_expect_1 : decode cX12_expect 1 = .ok (.dup, 1) := by decide +kernel
theorem dX12_expect_2 : decode cX12_expect 2 = .ok (.getfield 72, 3) := by decide +kernel
theorem dX12_expect_5 : decode cX12_expect 5 = .ok (.aload_n 0, 1) := by decide +kernel
theorem dX12_expect_6 : decode cX12_expect 6 = .ok (.invokevirtual 287, 3) := by decide +kernel
theorem dX12_expect_9 : decode cX12_expect 9 = .ok (.iload_n 1, 1) := by decide +kernel
theorem dX12_expect_10 : decode cX12_expect 10 = .ok (.if_icmp .eq 7, 3) := by decide +kernel
theorem dX12_expect_13 : decode cX12_expect 13 = .ok (.iconst 1, 1) := by decide +kernel
theorem dX12_expect_14 : decode cX12_expect 14 = .ok (.goto 4, 3) := by decide +kernel
theorem dX12_expect_17 : decode cX12_expect 17 = .ok (.iconst 0, 1) := by decide +kernel
theorem dX12_expect_18 : decode cX12_expect 18 = .ok (.ior, 1) := by decide +kernel
theorem dX12_expect_19 : decode cX12_expect 19 = .ok (.putfield 72, 3) := by decide +kernel
theorem dX12_expect_22 : decode cX12_expect 22 = .ok (.aload_n 0, 1) := by decide +kernel
theorem dX12_expect_23 : decode cX12_expect 23 = .ok (.dup, 1) := by decide +kernel
theorem dX12_expect_24 : decode cX12_expect 24 = .ok (.getfield 66, 3) := by decide +kernel
theorem dX12_expect_27 : decode cX12_expect 27 = .ok (.aload_n 0, 1) := by decide +kernel
theorem dX12_expect_28 : decode cX12_expect 28 = .ok (.getfield 72, 3) := by decide +kernel
theorem dX12_expect_31 : decode cX12_expect 31 = .ok (.ifCond .eq 7, 3) := by decide +kernel
theorem dX12_expect_34 : decode cX12_expect 34 = .ok (.iconst 0, 1) := by decide +kernel
theorem dX12_expect_35 : decode cX12_expect 35 = .ok (.goto 4, 3) := by decide +kernel
theorem dX12_expect_38 : decode cX12_expect 38 = .ok (.iconst 1, 1) := by decide +kernel
theorem dX12_expect_39 : decode cX12_expect 39 = .ok (.iadd, 1) := by decide +kernel
theorem dX12_expect_40 : decode cX12_expect 40 = .ok (.putfield 66, 3) := by decide +kernel
theorem dX12_expect_43 : decode cX12_expect 43 = .ok (.return_, 1) := by decide +kernel
theorem dX12_number_0 : decode cX12_number 0 = .ok (.aload_n 0, 1) := by decide +kernel
theorem dX12_number_1 : decode cX12_number 1 = .ok (.dup, 1) := by decide +kernel
theorem dX12_number_2 : decode cX12_number 2 = .ok (.getfield 72, 3) := by decide +kernel
theorem dX12_number_5 : decode cX12_number 5 = .ok (.aload_n 0, 1) := by decide +kernel
theorem dX12_number_6 : decode cX12_number 6 = .ok (.invokevirtual 287, 3) := by decide +kernel
theorem dX12_number_9 : decode cX12_number 9 = .ok (.bipush 48, 2) := by decide +kernel
theorem dX12_number_11 : decode cX12_number 11 = .ok (.bipush 57, 2) := by decide +kernel
theorem dX12_number_13 : decode cX12_number 13 = .ok (.invokestatic 83, 3) := by decide +kernel
theorem dX12_number_16 : decode cX12_number 16 = .ok (.ifCond .ne 7, 3) := by decide +kernel
theorem dX12_number_19 : decode cX12_number 19 = .ok (.iconst 1, 1) := by decide +kernel
theorem dX12_number_20 : decode cX12_number 20 = .ok (.goto 4, 3) := by decide +kernel
theorem dX12_number_23 : decode cX12_number 23 = .ok (.iconst 0, 1) := by decide +kernel
theorem dX12_number_24 : decode cX12_number 24 = .ok (.ior, 1) := by decide +kernel
theorem dX12_number_25 : decode cX12_number 25 = .ok (.putfield 72, 3) := by decide +kernel
theorem dX12_number_28 : decode cX12_number 28 = .ok (.iconst 0, 1) := by decide +kernel
theorem dX12_number_29 : decode cX12_number 29 = .ok (.istore_n 2, 1) := by decide +kernel
theorem dX12_number_30 : decode cX12_number 30 = .ok (.iconst 0, 1) := by decide +kernel
theorem dX12_number_31 : decode cX12_number 31 = .ok (.istore_n 3, 1) := by decide +kernel
theorem dX12_number_32 : decode cX12_number 32 = .ok (.iload_n 3, 1) := by decide +kernel
theorem dX12_number_33 : decode cX12_number 33 = .ok (.iload_n 1, 1) := by decide +kernel
theorem dX12_number_34 : decode cX12_number 34 = .ok (.if_icmp .ge 51, 3) := by decide +kernel
theorem dX12_number_37 : decode cX12_number 37 = .ok (.aload_n 0, 1) := by decide +kernel
theorem dX12_number_38 : decode cX12_number 38 = .ok (.invokevirtual 287, 3) := by decide +kernel
theorem dX12_number_41 : decode cX12_number 41 = .ok (.bipush 48, 2) := by decide +kernel
theorem dX12_number_43 : decode cX12_number 43 = .ok (.bipush 57, 2) := by decide +kernel
theorem dX12_number_45 : decode cX12_number 45 = .ok (.invokestatic 83, 3) := by decide +kernel
theorem dX12_number_48 : decode cX12_number 48 = .ok (.ifCond .eq 37, 3) := by decide +kernel
theorem dX12_number_51 : decode cX12_number 51 = .ok (.bipush 10, 2) := by decide +kernel
theorem dX12_number_53 : decode cX12_number 53 = .ok (.iload_n 2, 1) := by decide +kernel
theorem dX12_number_54 : decode cX12_number 54 = .ok (.imul, 1) := by decide +kernel
theorem dX12_number_55 : decode cX12_number 55 = .ok (.aload_n 0, 1) := by decide +kernel
theorem dX12_number_56 : decode cX12_number 56 = .ok (.getfield 51, 3) := by decide +kernel
theorem dX12_number_59 : decode cX12_number 59 = .ok (.aload_n 0, 1) := by decide +kernel
theorem dX12_number_60 : decode cX12_number 60 = .ok (.getfield 66, 3) := by decide +kernel
theorem dX12_number_63 : decode cX12_number 63 = .ok (.iaload, 1) := by decide +kernel
theorem dX12_number_64 : decode cX12_number 64 = .ok (.iadd, 1) := by decide +kernel
theorem dX12_number_65 : decode cX12_number 65 = .ok (.bipush 48, 2) := by decide +kernel
theorem dX12_number_67 : decode cX12_number 67 = .ok (.isub, 1) := by decide +kernel
theorem dX12_number_68 : decode cX12_number 68 = .ok (.istore_n 2, 1) := by decide +kernel
theorem dX12_number_69 : decode cX12_number 69 = .ok (.aload_n 0, 1) := by decide +kernel
theorem dX12_number_70 : decode cX12_number 70 = .ok (.dup, 1) := by decide +kernel
theorem dX12_number_71 : decode cX12_number 71 = .ok (.getfield 66, 3) := by decide +kernel
theorem dX12_number_74 : decode cX12_number 74 = .ok (.iconst 1, 1) := by decide +kernel
theorem dX12_number_75 : decode cX12_number 75 = .ok (.iadd, 1) := by decide +kernel
theorem dX12_number_76 : decode cX12_number 76 = .ok (.putfield 66, 3) := by decide +kernel
theorem dX12_number_79 : decode cX12_number 79 = .ok (.iinc 3 1, 3) := by decide +kernel
theorem dX12_number_82 : decode cX12_number 82 = .ok (.goto (-50), 3) := by decide +kernel
theorem dX12_number_85 : decode cX12_number 85 = .ok (.iload_n 2, 1) := by decide +kernel
theorem dX12_number_86 : decode cX12_number 86 = .ok (.ireturn, 1) := by decide +kernel
theorem dX12_cause_0 : decode cX12_cause 0 = .ok (.aload_n 0, 1) := by decide +kernel
theorem dX12_cause_1 : decode cX12_cause 1 = .ok (.invokevirtual 287, 3) := by decide +kernel
theorem dX12_cause_4 : decode cX12_cause 4 = .ok (.istore_n 1, 1) := by decide +kernel
theorem dX12_cause_5 : decode cX12_cause 5 = .ok (.aload_n 0, 1) := by decide +kernel
theorem dX12_cause_6 : decode cX12_cause 6 = .ok (.dup, 1) := by decide +kernel
theorem dX12_cause_7 : decode cX12_cause 7 = .ok (.getfield 72, 3) := by decide +kernel
theorem dX12_cause_10 : decode cX12_cause 10 = .ok (.iload_n 1, 1) := by decide +kernel
theorem dX12_cause_11 : decode cX12_cause 11 = .ok (.invokestatic 152, 3) := by decide +kernel
theorem dX12_cause_14 : decode cX12_cause 14 = .ok (.ifCond .ne 7, 3) := by decide +kernel
theorem dX12_cause_17 : decode cX12_cause 17 = .ok (.iconst 1, 1) := by decide +kernel
theorem dX12_cause_18 : decode cX12_cause 18 = .ok (.goto 4, 3) := by decide +kernel
theorem dX12_cause_21 : decode cX12_cause 21 = .ok (.iconst 0, 1) := by decide +kernel
theorem dX12_cause_22 : decode cX12_cause 22 = .ok (.ior, 1) := by decide +kernel
theorem dX12_cause_23 : decode cX12_cause 23 = .ok (.putfield 72, 3) := by decide +kernel
theorem dX12_cause_26 : decode cX12_cause 26 = .ok (.aload_n 0, 1) := by decide +kernel
theorem dX12_cause_27 : decode cX12_cause 27 = .ok (.dup, 1) := by decide +kernel
theorem dX12_cause_28 : decode cX12_cause 28 = .ok (.getfield 66, 3) := by decide +kernel
theorem dX12_cause_31 : decode cX12_cause 31 = .ok (.aload_n 0, 1) := by decide +kernel
theorem dX12_cause_32 : decode cX12_cause 32 = .ok (.getfield 72, 3) := by decide +kernel
theorem dX12_cause_35 : decode cX12_cause 35 = .ok (.ifCond .eq 7, 3) := by decide +kernel
theorem dX12_cause_38 : decode cX12_cause 38 = .ok (.iconst 0, 1) := by decide +kernel
theorem dX12_cause_39 : decode cX12_cause 39 = .ok (.goto 4, 3) := by decide +kernel
theorem dX12_cause_42 : decode cX12_cause 42 = .ok (.iconst 1, 1) := by decide +kernel
theorem dX12_cause_43 : decode cX12_cause 43 = .ok (.iadd, 1) := by decide +kernel
theorem dX12_cause_44 : decode cX12_cause 44 = .ok (.putfield 66, 3) := by decide +kernel
theorem dX12_cause_47 : decode cX12_cause 47 = .ok (.iload_n 1, 1) := by decide +kernel
theorem dX12_cause_48 : decode cX12_cause 48 = .ok (.ireturn, 1) := by decide +kernel
theorem dX12_pick_0 : decode cX12_pick 0 = .ok (.iload_n 0, 1) := by decide +kernel
theorem dX12_pick_1 : decode cX12_pick 1 = .ok (.tableswitch 54 0 5 #[39, 41, 43, 45, 48, 51], 39) := by decide +kernel
theorem dX12_pick_40 : decode cX12_pick 40 = .ok (.iload_n 1, 1) := by decide +kernel
theorem dX12_pick_41 : decode cX12_pick 41 = .ok (.ireturn, 1) := by decide +kernel
theorem dX12_pick_42 : decode cX12_pick 42 = .ok (.iload_n 2, 1) := by decide +kernel
theorem dX12_pick_43 : decode cX12_pick 43 = .ok (.ireturn, 1) := by decide +kernel
theorem dX12_pick_44 : decode cX12_pick 44 = .ok (.iload_n 3, 1) := by decide +kernel
theorem dX12_pick_45 : decode cX12_pick 45 = .ok (.ireturn, 1) := by decide +kernel
theorem dX12_pick_46 : decode cX12_pick 46 = .ok (.iload 4, 2) := by decide +kernel
theorem dX12_pick_48 : decode cX12_pick 48 = .ok (.ireturn, 1) := by decide +kernel
theorem dX12_pick_49 : decode cX12_pick 49 = .ok (.iload 5, 2) := by decide +kernel
theorem dX12_pick_51 : decode cX12_pick 51 = .ok (.ireturn, 1) := by decide +kernel
theorem dX12_pick_52 : decode cX12_pick 52 = .ok (.iload 6, 2) := by decide +kernel
theorem dX12_pick_54 : decode cX12_pick 54 = .ok (.ireturn, 1) := by decide +kernel
theorem dX12_pick_55 : decode cX12_pick 55 = .ok (.iconst 0, 1) := by decide +kernel
theorem dX12_pick_56 : decode cX12_pick 56 = .ok (.ireturn, 1) := by decide +kernel
theorem dX12_spelled_0 : decode cX12_spelled 0 = .ok (.iload_n 0, 1) := by decide +kernel
theorem dX12_spelled_1 : decode cX12_spelled 1 = .ok (.tableswitch 192 0 8 #[51, 68, 82, 99, 114, 130, 144, 160, 176], 51) := by decide +kernel
theorem dX12_spelled_52 : decode cX12_spelled 52 = .ok (.iload_n 1, 1) := by decide +kernel
theorem dX12_spelled_53 : decode cX12_spelled 53 = .ok (.bipush 105, 2) := by decide +kernel
theorem dX12_spelled_55 : decode cX12_spelled 55 = .ok (.bipush 110, 2) := by decide +kernel
theorem dX12_spelled_57 : decode cX12_spelled 57 = .ok (.bipush 115, 2) := by decide +kernel
theorem dX12_spelled_59 : decode cX12_spelled 59 = .ok (.bipush 117, 2) := by decide +kernel
theorem dX12_spelled_61 : decode cX12_spelled 61 = .ok (.bipush 114, 2) := by decide +kernel
theorem dX12_spelled_63 : decode cX12_spelled 63 = .ok (.bipush 101, 2) := by decide +kernel
theorem dX12_spelled_65 : decode cX12_spelled 65 = .ok (.invokestatic 290, 3) := by decide +kernel
theorem dX12_spelled_68 : decode cX12_spelled 68 = .ok (.ireturn, 1) := by decide +kernel
theorem dX12_spelled_69 : decode cX12_spelled 69 = .ok (.iload_n 1, 1) := by decide +kernel
theorem dX12_spelled_70 : decode cX12_spelled 70 = .ok (.bipush 101, 2) := by decide +kernel
theorem dX12_spelled_72 : decode cX12_spelled 72 = .ok (.bipush 110, 2) := by decide +kernel
theorem dX12_spelled_74 : decode cX12_spelled 74 = .ok (.bipush 100, 2) := by decide +kernel
theorem dX12_spelled_76 : decode cX12_spelled 76 = .ok (.iconst 0, 1) := by decide +kernel
theorem dX12_spelled_77 : decode cX12_spelled 77 = .ok (.iconst 0, 1) := by decide +kernel
theorem dX12_spelled_78 : decode cX12_spelled 78 = .ok (.iconst 0, 1) := by decide +kernel
theorem dX12_spelled_79 : decode cX12_spelled 79 = .ok (.invokestatic 290, 3) := by decide +kernel
theorem dX12_spelled_82 : decode cX12_spelled 82 = .ok (.ireturn, 1) := by decide +kernel
theorem dX12_spelled_83 : decode cX12_spelled 83 = .ok (.iload_n 1, 1) := by decide +kernel
theorem dX12_spelled_84 : decode cX12_spelled 84 = .ok (.bipush 116, 2) := by decide +kernel
theorem dX12_spelled_86 : decode cX12_spelled 86 = .ok (.bipush 114, 2) := by decide +kernel
theorem dX12_spelled_88 : decode cX12_spelled 88 = .ok (.bipush 101, 2) := by decide +kernel
theorem dX12_spelled_90 : decode cX12_spelled 90 = .ok (.bipush 97, 2) := by decide +kernel
theorem dX12_spelled_92 : decode cX12_spelled 92 = .ok (.bipush 116, 2) := by decide +kernel
theorem dX12_spelled_94 : decode cX12_spelled 94 = .ok (.bipush 121, 2) := by decide +kernel
theorem dX12_spelled_96 : decode cX12_spelled 96 = .ok (.invokestatic 290, 3) := by decide +kernel
theorem dX12_spelled_99 : decode cX12_spelled 99 = .ok (.ireturn, 1) := by decide +kernel
theorem dX12_spelled_100 : decode cX12_spelled 100 = .ok (.iload_n 1, 1) := by decide +kernel
theorem dX12_spelled_101 : decode cX12_spelled 101 = .ok (.bipush 118, 2) := by decide +kernel
theorem dX12_spelled_103 : decode cX12_spelled 103 = .ok (.bipush 111, 2) := by decide +kernel
theorem dX12_spelled_105 : decode cX12_spelled 105 = .ok (.bipush 105, 2) := by decide +kernel
theorem dX12_spelled_107 : decode cX12_spelled 107 = .ok (.bipush 100, 2) := by decide +kernel
theorem dX12_spelled_109 : decode cX12_spelled 109 = .ok (.iconst 0, 1) := by decide +kernel
theorem dX12_spelled_110 : decode cX12_spelled 110 = .ok (.iconst 0, 1) := by decide +kernel
theorem dX12_spelled_111 : decode cX12_spelled 111 = .ok (.invokestatic 290, 3) := by decide +kernel
theorem dX12_spelled_114 : decode cX12_spelled 114 = .ok (.ireturn, 1) := by decide +kernel
theorem dX12_spelled_115 : decode cX12_spelled 115 = .ok (.iload_n 1, 1) := by decide +kernel
theorem dX12_spelled_116 : decode cX12_spelled 116 = .ok (.bipush 99, 2) := by decide +kernel
theorem dX12_spelled_118 : decode cX12_spelled 118 = .ok (.bipush 108, 2) := by decide +kernel
theorem dX12_spelled_120 : decode cX12_spelled 120 = .ok (.bipush 97, 2) := by decide +kernel
theorem dX12_spelled_122 : decode cX12_spelled 122 = .ok (.bipush 105, 2) := by decide +kernel
theorem dX12_spelled_124 : decode cX12_spelled 124 = .ok (.bipush 109, 2) := by decide +kernel
theorem dX12_spelled_126 : decode cX12_spelled 126 = .ok (.iconst 0, 1) := by decide +kernel
theorem dX12_spelled_127 : decode cX12_spelled 127 = .ok (.invokestatic 290, 3) := by decide +kernel
theorem dX12_spelled_130 : decode cX12_spelled 130 = .ok (.ireturn, 1) := by decide +kernel
theorem dX12_spelled_131 : decode cX12_spelled 131 = .ok (.iload_n 1, 1) := by decide +kernel
theorem dX12_spelled_132 : decode cX12_spelled 132 = .ok (.bipush 112, 2) := by decide +kernel
theorem dX12_spelled_134 : decode cX12_spelled 134 = .ok (.bipush 97, 2) := by decide +kernel
theorem dX12_spelled_136 : decode cX12_spelled 136 = .ok (.bipush 121, 2) := by decide +kernel
theorem dX12_spelled_138 : decode cX12_spelled 138 = .ok (.iconst 0, 1) := by decide +kernel
theorem dX12_spelled_139 : decode cX12_spelled 139 = .ok (.iconst 0, 1) := by decide +kernel
theorem dX12_spelled_140 : decode cX12_spelled 140 = .ok (.iconst 0, 1) := by decide +kernel
theorem dX12_spelled_141 : decode cX12_spelled 141 = .ok (.invokestatic 290, 3) := by decide +kernel
theorem dX12_spelled_144 : decode cX12_spelled 144 = .ok (.ireturn, 1) := by decide +kernel
theorem dX12_spelled_145 : decode cX12_spelled 145 = .ok (.iload_n 1, 1) := by decide +kernel
theorem dX12_spelled_146 : decode cX12_spelled 146 = .ok (.bipush 99, 2) := by decide +kernel
theorem dX12_spelled_148 : decode cX12_spelled 148 = .ok (.bipush 108, 2) := by decide +kernel
theorem dX12_spelled_150 : decode cX12_spelled 150 = .ok (.bipush 111, 2) := by decide +kernel
theorem dX12_spelled_152 : decode cX12_spelled 152 = .ok (.bipush 115, 2) := by decide +kernel
theorem dX12_spelled_154 : decode cX12_spelled 154 = .ok (.bipush 101, 2) := by decide +kernel
theorem dX12_spelled_156 : decode cX12_spelled 156 = .ok (.iconst 0, 1) := by decide +kernel
theorem dX12_spelled_157 : decode cX12_spelled 157 = .ok (.invokestatic 290, 3) := by decide +kernel
theorem dX12_spelled_160 : decode cX12_spelled 160 = .ok (.ireturn, 1) := by decide +kernel
theorem dX12_spelled_161 : decode cX12_spelled 161 = .ok (.iload_n 1, 1) := by decide +kernel
theorem dX12_spelled_162 : decode cX12_spelled 162 = .ok (.bipush 119, 2) := by decide +kernel
theorem dX12_spelled_164 : decode cX12_spelled 164 = .ok (.bipush 97, 2) := by decide +kernel
theorem dX12_spelled_166 : decode cX12_spelled 166 = .ok (.bipush 105, 2) := by decide +kernel
theorem dX12_spelled_168 : decode cX12_spelled 168 = .ok (.bipush 118, 2) := by decide +kernel
theorem dX12_spelled_170 : decode cX12_spelled 170 = .ok (.bipush 101, 2) := by decide +kernel
theorem dX12_spelled_172 : decode cX12_spelled 172 = .ok (.iconst 0, 1) := by decide +kernel
theorem dX12_spelled_173 : decode cX12_spelled 173 = .ok (.invokestatic 290, 3) := by decide +kernel
theorem dX12_spelled_176 : decode cX12_spelled 176 = .ok (.ireturn, 1) := by decide +kernel
theorem dX12_spelled_177 : decode cX12_spelled 177 = .ok (.iload_n 1, 1) := by decide +kernel
theorem dX12_spelled_178 : decode cX12_spelled 178 = .ok (.bipush 111, 2) := by decide +kernel
theorem dX12_spelled_180 : decode cX12_spelled 180 = .ok (.bipush 102, 2) := by decide +kernel
theorem dX12_spelled_182 : decode cX12_spelled 182 = .ok (.bipush 102, 2) := by decide +kernel
theorem dX12_spelled_184 : decode cX12_spelled 184 = .ok (.bipush 101, 2) := by decide +kernel
theorem dX12_spelled_186 : decode cX12_spelled 186 = .ok (.bipush 114, 2) := by decide +kernel
theorem dX12_spelled_188 : decode cX12_spelled 188 = .ok (.iconst 0, 1) := by decide +kernel
theorem dX12_spelled_189 : decode cX12_spelled 189 = .ok (.invokestatic 290, 3) := by decide +kernel
theorem dX12_spelled_192 : decode cX12_spelled 192 = .ok (.ireturn, 1) := by decide +kernel
theorem dX12_spelled_193 : decode cX12_spelled 193 = .ok (.iload_n 1, 1) := by decide +kernel
theorem dX12_spelled_194 : decode cX12_spelled 194 = .ok (.bipush 119, 2) := by decide +kernel
theorem dX12_spelled_196 : decode cX12_spelled 196 = .ok (.bipush 97, 2) := by decide +kernel
theorem dX12_spelled_198 : decode cX12_spelled 198 = .ok (.bipush 105, 2) := by decide +kernel
theorem dX12_spelled_200 : decode cX12_spelled 200 = .ok (.bipush 116, 2) := by decide +kernel
theorem dX12_spelled_202 : decode cX12_spelled 202 = .ok (.iconst 0, 1) := by decide +kernel
theorem dX12_spelled_203 : decode cX12_spelled 203 = .ok (.iconst 0, 1) := by decide +kernel
theorem dX12_spelled_204 : decode cX12_spelled 204 = .ok (.invokestatic 290, 3) := by decide +kernel
theorem dX12_spelled_207 : decode cX12_spelled 207 = .ok (.ireturn, 1) := by decide +kernel
theorem dX12_word_0 : decode cX12_word 0 = .ok (.iconst 0, 1) := by decide +kernel
theorem dX12_word_1 : decode cX12_word 1 = .ok (.istore_n 1, 1) := by decide +kernel
theorem dX12_word_2 : decode cX12_word 2 = .ok (.iconst 0, 1) := by decide +kernel
theorem dX12_word_3 : decode cX12_word 3 = .ok (.istore_n 2, 1) := by decide +kernel
theorem dX12_word_4 : decode cX12_word 4 = .ok (.iload_n 2, 1) := by decide +kernel
theorem dX12_word_5 : decode cX12_word 5 = .ok (.bipush 10, 2) := by decide +kernel
theorem dX12_word_7 : decode cX12_word 7 = .ok (.if_icmp .ge 88, 3) := by decide +kernel
theorem dX12_word_10 : decode cX12_word 10 = .ok (.iconst 0, 1) := by decide +kernel
theorem dX12_word_11 : decode cX12_word 11 = .ok (.istore_n 3, 1) := by decide +kernel
theorem dX12_word_12 : decode cX12_word 12 = .ok (.iload_n 2, 1) := by decide +kernel
theorem dX12_word_13 : decode cX12_word 13 = .ok (.iload_n 3, 1) := by decide +kernel
theorem dX12_word_14 : decode cX12_word 14 = .ok (.invokestatic 294, 3) := by decide +kernel
theorem dX12_word_17 : decode cX12_word 17 = .ok (.ifCond .le 41, 3) := by decide +kernel
theorem dX12_word_20 : decode cX12_word 20 = .ok (.aload_n 0, 1) := by decide +kernel
theorem dX12_word_21 : decode cX12_word 21 = .ok (.getfield 66, 3) := by decide +kernel
theorem dX12_word_24 : decode cX12_word 24 = .ok (.iload_n 3, 1) := by decide +kernel
theorem dX12_word_25 : decode cX12_word 25 = .ok (.iadd, 1) := by decide +kernel
theorem dX12_word_26 : decode cX12_word 26 = .ok (.aload_n 0, 1) := by decide +kernel
theorem dX12_word_27 : decode cX12_word 27 = .ok (.getfield 63, 3) := by decide +kernel
theorem dX12_word_30 : decode cX12_word 30 = .ok (.if_icmp .ge 28, 3) := by decide +kernel
theorem dX12_word_33 : decode cX12_word 33 = .ok (.aload_n 0, 1) := by decide +kernel
theorem dX12_word_34 : decode cX12_word 34 = .ok (.getfield 51, 3) := by decide +kernel
theorem dX12_word_37 : decode cX12_word 37 = .ok (.aload_n 0, 1) := by decide +kernel
theorem dX12_word_38 : decode cX12_word 38 = .ok (.getfield 66, 3) := by decide +kernel
theorem dX12_word_41 : decode cX12_word 41 = .ok (.iload_n 3, 1) := by decide +kernel
theorem dX12_word_42 : decode cX12_word 42 = .ok (.iadd, 1) := by decide +kernel
theorem dX12_word_43 : decode cX12_word 43 = .ok (.iaload, 1) := by decide +kernel
theorem dX12_word_44 : decode cX12_word 44 = .ok (.iload_n 2, 1) := by decide +kernel
theorem dX12_word_45 : decode cX12_word 45 = .ok (.iload_n 3, 1) := by decide +kernel
theorem dX12_word_46 : decode cX12_word 46 = .ok (.invokestatic 294, 3) := by decide +kernel
theorem dX12_word_49 : decode cX12_word 49 = .ok (.if_icmp .ne 9, 3) := by decide +kernel
theorem dX12_word_52 : decode cX12_word 52 = .ok (.iinc 3 1, 3) := by decide +kernel
theorem dX12_word_55 : decode cX12_word 55 = .ok (.goto (-43), 3) := by decide +kernel
theorem dX12_word_58 : decode cX12_word 58 = .ok (.iload_n 2, 1) := by decide +kernel
theorem dX12_word_59 : decode cX12_word 59 = .ok (.iload_n 3, 1) := by decide +kernel
theorem dX12_word_60 : decode cX12_word 60 = .ok (.invokestatic 294, 3) := by decide +kernel
theorem dX12_word_63 : decode cX12_word 63 = .ok (.ifCond .ne 15, 3) := by decide +kernel
theorem dX12_word_66 : decode cX12_word 66 = .ok (.aload_n 0, 1) := by decide +kernel
theorem dX12_word_67 : decode cX12_word 67 = .ok (.dup, 1) := by decide +kernel
theorem dX12_word_68 : decode cX12_word 68 = .ok (.getfield 66, 3) := by decide +kernel
theorem dX12_word_71 : decode cX12_word 71 = .ok (.iload_n 3, 1) := by decide +kernel
theorem dX12_word_72 : decode cX12_word 72 = .ok (.iadd, 1) := by decide +kernel
theorem dX12_word_73 : decode cX12_word 73 = .ok (.putfield 66, 3) := by decide +kernel
theorem dX12_word_76 : decode cX12_word 76 = .ok (.iload_n 2, 1) := by decide +kernel
theorem dX12_word_77 : decode cX12_word 77 = .ok (.ireturn, 1) := by decide +kernel
theorem dX12_word_78 : decode cX12_word 78 = .ok (.iload_n 3, 1) := by decide +kernel
theorem dX12_word_79 : decode cX12_word 79 = .ok (.iload_n 1, 1) := by decide +kernel
theorem dX12_word_80 : decode cX12_word 80 = .ok (.if_icmp .le 7, 3) := by decide +kernel
theorem dX12_word_83 : decode cX12_word 83 = .ok (.iload_n 3, 1) := by decide +kernel
theorem dX12_word_84 : decode cX12_word 84 = .ok (.goto 4, 3) := by decide +kernel
theorem dX12_word_87 : decode cX12_word 87 = .ok (.iload_n 1, 1) := by decide +kernel
theorem dX12_word_88 : decode cX12_word 88 = .ok (.istore_n 1, 1) := by decide +kernel
theorem dX12_word_89 : decode cX12_word 89 = .ok (.iinc 2 1, 3) := by decide +kernel
theorem dX12_word_92 : decode cX12_word 92 = .ok (.goto (-88), 3) := by decide +kernel
theorem dX12_word_95 : decode cX12_word 95 = .ok (.aload_n 0, 1) := by decide +kernel
theorem dX12_word_96 : decode cX12_word 96 = .ok (.dup, 1) := by decide +kernel
theorem dX12_word_97 : decode cX12_word 97 = .ok (.getfield 66, 3) := by decide +kernel
theorem dX12_word_100 : decode cX12_word 100 = .ok (.iload_n 1, 1) := by decide +kernel
theorem dX12_word_101 : decode cX12_word 101 = .ok (.iadd, 1) := by decide +kernel
theorem dX12_word_102 : decode cX12_word 102 = .ok (.putfield 66, 3) := by decide +kernel
theorem dX12_word_105 : decode cX12_word 105 = .ok (.aload_n 0, 1) := by decide +kernel
theorem dX12_word_106 : decode cX12_word 106 = .ok (.iconst 1, 1) := by decide +kernel
theorem dX12_word_107 : decode cX12_word 107 = .ok (.putfield 72, 3) := by decide +kernel
theorem dX12_word_110 : decode cX12_word 110 = .ok (.iconst 0, 1) := by decide +kernel
theorem dX12_word_111 : decode cX12_word 111 = .ok (.ireturn, 1) := by decide +kernel
theorem dX12_put_0 : decode cX12_put 0 = .ok (.aload_n 0, 1) := by decide +kernel
theorem dX12_put_1 : decode cX12_put 1 = .ok (.getfield 57, 3) := by decide +kernel
theorem dX12_put_4 : decode cX12_put 4 = .ok (.iconst 4, 1) := by decide +kernel
theorem dX12_put_5 : decode cX12_put 5 = .ok (.aload_n 0, 1) := by decide +kernel
theorem dX12_put_6 : decode cX12_put 6 = .ok (.getfield 69, 3) := by decide +kernel
theorem dX12_put_9 : decode cX12_put 9 = .ok (.imul, 1) := by decide +kernel
theorem dX12_put_10 : decode cX12_put 10 = .ok (.iload_n 1, 1) := by decide +kernel
theorem dX12_put_11 : decode cX12_put 11 = .ok (.iadd, 1) := by decide +kernel
theorem dX12_put_12 : decode cX12_put 12 = .ok (.iload_n 2, 1) := by decide +kernel
theorem dX12_put_13 : decode cX12_put 13 = .ok (.iastore, 1) := by decide +kernel
theorem dX12_put_14 : decode cX12_put 14 = .ok (.return_, 1) := by decide +kernel
theorem dX12_putBehind_0 : decode cX12_putBehind 0 = .ok (.aload_n 0, 1) := by decide +kernel
theorem dX12_putBehind_1 : decode cX12_putBehind 1 = .ok (.iload_n 1, 1) := by decide +kernel
theorem dX12_putBehind_2 : decode cX12_putBehind 2 = .ok (.invokevirtual 297, 3) := by decide +kernel
theorem dX12_putBehind_5 : decode cX12_putBehind 5 = .ok (.aload_n 0, 1) := by decide +kernel
theorem dX12_putBehind_6 : decode cX12_putBehind 6 = .ok (.iload_n 2, 1) := by decide +kernel
theorem dX12_putBehind_7 : decode cX12_putBehind 7 = .ok (.aload_n 0, 1) := by decide +kernel
theorem dX12_putBehind_8 : decode cX12_putBehind 8 = .ok (.iload_n 3, 1) := by decide +kernel
theorem dX12_putBehind_9 : decode cX12_putBehind 9 = .ok (.invokevirtual 300, 3) := by decide +kernel
theorem dX12_putBehind_12 : decode cX12_putBehind 12 = .ok (.invokevirtual 303, 3) := by decide +kernel
theorem dX12_putBehind_15 : decode cX12_putBehind 15 = .ok (.return_, 1) := by decide +kernel
theorem dX12_readsRest_0 : decode cX12_readsRest 0 = .ok (.iload_n 1, 1) := by decide +kernel
theorem dX12_readsRest_1 : decode cX12_readsRest 1 = .ok (.tableswitch 149 0 8 #[51, 149, 70, 149, 97, 119, 149, 149, 130], 51) := by decide +kernel
theorem dX12_readsRest_52 : decode cX12_readsRest 52 = .ok (.aload_n 0, 1) := by decide +kernel
theorem dX12_readsRest_53 : decode cX12_readsRest 53 = .ok (.bipush 32, 2) := by decide +kernel
theorem dX12_readsRest_55 : decode cX12_readsRest 55 = .ok (.iconst 1, 1) := by decide +kernel
theorem dX12_readsRest_56 : decode cX12_readsRest 56 = .ok (.iconst 1, 1) := by decide +kernel
theorem dX12_readsRest_57 : decode cX12_readsRest 57 = .ok (.invokevirtual 307, 3) := by decide +kernel
theorem dX12_readsRest_60 : decode cX12_readsRest 60 = .ok (.aload_n 0, 1) := by decide +kernel
theorem dX12_readsRest_61 : decode cX12_readsRest 61 = .ok (.bipush 32, 2) := by decide +kernel
theorem dX12_readsRest_63 : decode cX12_readsRest 63 = .ok (.iconst 2, 1) := by decide +kernel
theorem dX12_readsRest_64 : decode cX12_readsRest 64 = .ok (.iconst 2, 1) := by decide +kernel
theorem dX12_readsRest_65 : decode cX12_readsRest 65 = .ok (.invokevirtual 307, 3) := by decide +kernel
theorem dX12_readsRest_68 : decode cX12_readsRest 68 = .ok (.goto 82, 3) := by decide +kernel
theorem dX12_readsRest_71 : decode cX12_readsRest 71 = .ok (.aload_n 0, 1) := by decide +kernel
theorem dX12_readsRest_72 : decode cX12_readsRest 72 = .ok (.bipush 43, 2) := by decide +kernel
theorem dX12_readsRest_74 : decode cX12_readsRest 74 = .ok (.iconst 1, 1) := by decide +kernel
theorem dX12_readsRest_75 : decode cX12_readsRest 75 = .ok (.iconst 2, 1) := by decide +kernel
theorem dX12_readsRest_76 : decode cX12_readsRest 76 = .ok (.invokevirtual 307, 3) := by decide +kernel
theorem dX12_readsRest_79 : decode cX12_readsRest 79 = .ok (.aload_n 0, 1) := by decide +kernel
theorem dX12_readsRest_80 : decode cX12_readsRest 80 = .ok (.bipush 42, 2) := by decide +kernel
theorem dX12_readsRest_82 : decode cX12_readsRest 82 = .ok (.iconst 2, 1) := by decide +kernel
theorem dX12_readsRest_83 : decode cX12_readsRest 83 = .ok (.iconst 2, 1) := by decide +kernel
theorem dX12_readsRest_84 : decode cX12_readsRest 84 = .ok (.invokevirtual 307, 3) := by decide +kernel
theorem dX12_readsRest_87 : decode cX12_readsRest 87 = .ok (.aload_n 0, 1) := by decide +kernel
theorem dX12_readsRest_88 : decode cX12_readsRest 88 = .ok (.bipush 32, 2) := by decide +kernel
theorem dX12_readsRest_90 : decode cX12_readsRest 90 = .ok (.iconst 3, 1) := by decide +kernel
theorem dX12_readsRest_91 : decode cX12_readsRest 91 = .ok (.iconst 2, 1) := by decide +kernel
theorem dX12_readsRest_92 : decode cX12_readsRest 92 = .ok (.invokevirtual 307, 3) := by decide +kernel
theorem dX12_readsRest_95 : decode cX12_readsRest 95 = .ok (.goto 55, 3) := by decide +kernel
theorem dX12_readsRest_98 : decode cX12_readsRest 98 = .ok (.aload_n 0, 1) := by decide +kernel
theorem dX12_readsRest_99 : decode cX12_readsRest 99 = .ok (.iconst 1, 1) := by decide +kernel
theorem dX12_readsRest_100 : decode cX12_readsRest 100 = .ok (.aload_n 0, 1) := by decide +kernel
theorem dX12_readsRest_101 : decode cX12_readsRest 101 = .ok (.invokevirtual 311, 3) := by decide +kernel
theorem dX12_readsRest_104 : decode cX12_readsRest 104 = .ok (.invokevirtual 303, 3) := by decide +kernel
theorem dX12_readsRest_107 : decode cX12_readsRest 107 = .ok (.aload_n 0, 1) := by decide +kernel
theorem dX12_readsRest_108 : decode cX12_readsRest 108 = .ok (.iconst 2, 1) := by decide +kernel
theorem dX12_readsRest_109 : decode cX12_readsRest 109 = .ok (.aload_n 0, 1) := by decide +kernel
theorem dX12_readsRest_110 : decode cX12_readsRest 110 = .ok (.iconst 2, 1) := by decide +kernel
theorem dX12_readsRest_111 : decode cX12_readsRest 111 = .ok (.invokevirtual 300, 3) := by decide +kernel
theorem dX12_readsRest_114 : decode cX12_readsRest 114 = .ok (.invokevirtual 303, 3) := by decide +kernel
theorem dX12_readsRest_117 : decode cX12_readsRest 117 = .ok (.goto 33, 3) := by decide +kernel
theorem dX12_readsRest_120 : decode cX12_readsRest 120 = .ok (.aload_n 0, 1) := by decide +kernel
theorem dX12_readsRest_121 : decode cX12_readsRest 121 = .ok (.bipush 32, 2) := by decide +kernel
theorem dX12_readsRest_123 : decode cX12_readsRest 123 = .ok (.iconst 1, 1) := by decide +kernel
theorem dX12_readsRest_124 : decode cX12_readsRest 124 = .ok (.iconst 2, 1) := by decide +kernel
theorem dX12_readsRest_125 : decode cX12_readsRest 125 = .ok (.invokevirtual 307, 3) := by decide +kernel
theorem dX12_readsRest_128 : decode cX12_readsRest 128 = .ok (.goto 22, 3) := by decide +kernel
theorem dX12_readsRest_131 : decode cX12_readsRest 131 = .ok (.aload_n 0, 1) := by decide +kernel
theorem dX12_readsRest_132 : decode cX12_readsRest 132 = .ok (.bipush 45, 2) := by decide +kernel
theorem dX12_readsRest_134 : decode cX12_readsRest 134 = .ok (.iconst 1, 1) := by decide +kernel
theorem dX12_readsRest_135 : decode cX12_readsRest 135 = .ok (.iconst 2, 1) := by decide +kernel
theorem dX12_readsRest_136 : decode cX12_readsRest 136 = .ok (.invokevirtual 307, 3) := by decide +kernel
theorem dX12_readsRest_139 : decode cX12_readsRest 139 = .ok (.aload_n 0, 1) := by decide +kernel
theorem dX12_readsRest_140 : decode cX12_readsRest 140 = .ok (.bipush 32, 2) := by decide +kernel
theorem dX12_readsRest_142 : decode cX12_readsRest 142 = .ok (.iconst 2, 1) := by decide +kernel
theorem dX12_readsRest_143 : decode cX12_readsRest 143 = .ok (.iconst 2, 1) := by decide +kernel
theorem dX12_readsRest_144 : decode cX12_readsRest 144 = .ok (.invokevirtual 307, 3) := by decide +kernel
theorem dX12_readsRest_147 : decode cX12_readsRest 147 = .ok (.goto 3, 3) := by decide +kernel
theorem dX12_readsRest_150 : decode cX12_readsRest 150 = .ok (.return_, 1) := by decide +kernel
theorem dX12_command_0 : decode cX12_command 0 = .ok (.aload_n 0, 1) := by decide +kernel
theorem dX12_command_1 : decode cX12_command 1 = .ok (.invokevirtual 314, 3) := by decide +kernel
theorem dX12_command_4 : decode cX12_command 4 = .ok (.istore_n 1, 1) := by decide +kernel
theorem dX12_command_5 : decode cX12_command 5 = .ok (.aload_n 0, 1) := by decide +kernel
theorem dX12_command_6 : decode cX12_command 6 = .ok (.bipush 32, 2) := by decide +kernel
theorem dX12_command_8 : decode cX12_command 8 = .ok (.iconst 0, 1) := by decide +kernel
theorem dX12_command_9 : decode cX12_command 9 = .ok (.iload_n 1, 1) := by decide +kernel
theorem dX12_command_10 : decode cX12_command 10 = .ok (.iconst 3, 1) := by decide +kernel
theorem dX12_command_11 : decode cX12_command 11 = .ok (.if_icmp .ne 7, 3) := by decide +kernel
theorem dX12_command_14 : decode cX12_command 14 = .ok (.iconst 1, 1) := by decide +kernel
theorem dX12_command_15 : decode cX12_command 15 = .ok (.goto 4, 3) := by decide +kernel
theorem dX12_command_18 : decode cX12_command 18 = .ok (.iconst 2, 1) := by decide +kernel
theorem dX12_command_19 : decode cX12_command 19 = .ok (.invokevirtual 307, 3) := by decide +kernel
theorem dX12_command_22 : decode cX12_command 22 = .ok (.aload_n 0, 1) := by decide +kernel
theorem dX12_command_23 : decode cX12_command 23 = .ok (.iload_n 1, 1) := by decide +kernel
theorem dX12_command_24 : decode cX12_command 24 = .ok (.invokevirtual 317, 3) := by decide +kernel
theorem dX12_command_27 : decode cX12_command 27 = .ok (.aload_n 0, 1) := by decide +kernel
theorem dX12_command_28 : decode cX12_command 28 = .ok (.getfield 72, 3) := by decide +kernel
theorem dX12_command_31 : decode cX12_command 31 = .ok (.ifCond .eq 4, 3) := by decide +kernel
theorem dX12_command_34 : decode cX12_command 34 = .ok (.return_, 1) := by decide +kernel
theorem dX12_command_35 : decode cX12_command 35 = .ok (.aload_n 0, 1) := by decide +kernel
theorem dX12_command_36 : decode cX12_command 36 = .ok (.getfield 54, 3) := by decide +kernel
theorem dX12_command_39 : decode cX12_command 39 = .ok (.aload_n 0, 1) := by decide +kernel
theorem dX12_command_40 : decode cX12_command 40 = .ok (.getfield 69, 3) := by decide +kernel
theorem dX12_command_43 : decode cX12_command 43 = .ok (.iload_n 1, 1) := by decide +kernel
theorem dX12_command_44 : decode cX12_command 44 = .ok (.iastore, 1) := by decide +kernel
theorem dX12_command_45 : decode cX12_command 45 = .ok (.aload_n 0, 1) := by decide +kernel
theorem dX12_command_46 : decode cX12_command 46 = .ok (.dup, 1) := by decide +kernel
theorem dX12_command_47 : decode cX12_command 47 = .ok (.getfield 69, 3) := by decide +kernel
theorem dX12_command_50 : decode cX12_command 50 = .ok (.iconst 1, 1) := by decide +kernel
theorem dX12_command_51 : decode cX12_command 51 = .ok (.iadd, 1) := by decide +kernel
theorem dX12_command_52 : decode cX12_command 52 = .ok (.putfield 69, 3) := by decide +kernel
theorem dX12_command_55 : decode cX12_command 55 = .ok (.return_, 1) := by decide +kernel
theorem dX12_parse_0 : decode cX12_parse 0 = .ok (.aload_n 0, 1) := by decide +kernel
theorem dX12_parse_1 : decode cX12_parse 1 = .ok (.aload_n 0, 1) := by decide +kernel
theorem dX12_parse_2 : decode cX12_parse 2 = .ok (.getfield 60, 3) := by decide +kernel
theorem dX12_parse_5 : decode cX12_parse 5 = .ok (.putfield 63, 3) := by decide +kernel
theorem dX12_parse_8 : decode cX12_parse 8 = .ok (.aload_n 0, 1) := by decide +kernel
theorem dX12_parse_9 : decode cX12_parse 9 = .ok (.iconst 0, 1) := by decide +kernel
theorem dX12_parse_10 : decode cX12_parse 10 = .ok (.putfield 60, 3) := by decide +kernel
theorem dX12_parse_13 : decode cX12_parse 13 = .ok (.aload_n 0, 1) := by decide +kernel
theorem dX12_parse_14 : decode cX12_parse 14 = .ok (.iconst 0, 1) := by decide +kernel
theorem dX12_parse_15 : decode cX12_parse 15 = .ok (.putfield 66, 3) := by decide +kernel
theorem dX12_parse_18 : decode cX12_parse 18 = .ok (.aload_n 0, 1) := by decide +kernel
theorem dX12_parse_19 : decode cX12_parse 19 = .ok (.iconst 0, 1) := by decide +kernel
theorem dX12_parse_20 : decode cX12_parse 20 = .ok (.putfield 69, 3) := by decide +kernel
theorem dX12_parse_23 : decode cX12_parse 23 = .ok (.aload_n 0, 1) := by decide +kernel
theorem dX12_parse_24 : decode cX12_parse 24 = .ok (.iconst 0, 1) := by decide +kernel
theorem dX12_parse_25 : decode cX12_parse 25 = .ok (.putfield 72, 3) := by decide +kernel
theorem dX12_parse_28 : decode cX12_parse 28 = .ok (.aload_n 0, 1) := by decide +kernel
theorem dX12_parse_29 : decode cX12_parse 29 = .ok (.invokevirtual 320, 3) := by decide +kernel
theorem dX12_parse_32 : decode cX12_parse 32 = .ok (.aload_n 0, 1) := by decide +kernel
theorem dX12_parse_33 : decode cX12_parse 33 = .ok (.invokevirtual 287, 3) := by decide +kernel
theorem dX12_parse_36 : decode cX12_parse 36 = .ok (.bipush 59, 2) := by decide +kernel
theorem dX12_parse_38 : decode cX12_parse 38 = .ok (.if_icmp .ne 20, 3) := by decide +kernel
theorem dX12_parse_41 : decode cX12_parse 41 = .ok (.aload_n 0, 1) := by decide +kernel
theorem dX12_parse_42 : decode cX12_parse 42 = .ok (.dup, 1) := by decide +kernel
theorem dX12_parse_43 : decode cX12_parse 43 = .ok (.getfield 66, 3) := by decide +kernel
theorem dX12_parse_46 : decode cX12_parse 46 = .ok (.iconst 1, 1) := by decide +kernel
theorem dX12_parse_47 : decode cX12_parse 47 = .ok (.iadd, 1) := by decide +kernel
theorem dX12_parse_48 : decode cX12_parse 48 = .ok (.putfield 66, 3) := by decide +kernel
theorem dX12_parse_51 : decode cX12_parse 51 = .ok (.aload_n 0, 1) := by decide +kernel
theorem dX12_parse_52 : decode cX12_parse 52 = .ok (.invokevirtual 320, 3) := by decide +kernel
theorem dX12_parse_55 : decode cX12_parse 55 = .ok (.goto (-23), 3) := by decide +kernel
theorem dX12_parse_58 : decode cX12_parse 58 = .ok (.aload_n 0, 1) := by decide +kernel
theorem dX12_parse_59 : decode cX12_parse 59 = .ok (.dup, 1) := by decide +kernel
theorem dX12_parse_60 : decode cX12_parse 60 = .ok (.getfield 72, 3) := by decide +kernel
theorem dX12_parse_63 : decode cX12_parse 63 = .ok (.aload_n 0, 1) := by decide +kernel
theorem dX12_parse_64 : decode cX12_parse 64 = .ok (.getfield 66, 3) := by decide +kernel
theorem dX12_parse_67 : decode cX12_parse 67 = .ok (.aload_n 0, 1) := by decide +kernel
theorem dX12_parse_68 : decode cX12_parse 68 = .ok (.getfield 63, 3) := by decide +kernel
theorem dX12_parse_71 : decode cX12_parse 71 = .ok (.if_icmp .ge 7, 3) := by decide +kernel
theorem dX12_parse_74 : decode cX12_parse 74 = .ok (.iconst 1, 1) := by decide +kernel
theorem dX12_parse_75 : decode cX12_parse 75 = .ok (.goto 4, 3) := by decide +kernel
theorem dX12_parse_78 : decode cX12_parse 78 = .ok (.iconst 0, 1) := by decide +kernel
theorem dX12_parse_79 : decode cX12_parse 79 = .ok (.ior, 1) := by decide +kernel
theorem dX12_parse_80 : decode cX12_parse 80 = .ok (.putfield 72, 3) := by decide +kernel
theorem dX12_parse_83 : decode cX12_parse 83 = .ok (.return_, 1) := by decide +kernel
theorem dX12_why_0 : decode cX12_why 0 = .ok (.iload_n 1, 1) := by decide +kernel
theorem dX12_why_1 : decode cX12_why 1 = .ok (.tableswitch 120 0 8 #[51, 60, 66, 77, 83, 92, 99, 105, 111], 51) := by decide +kernel
theorem dX12_why_52 : decode cX12_why 52 = .ok (.aload_n 0, 1) := by decide +kernel
theorem dX12_why_53 : decode cX12_why 53 = .ok (.iload_n 2, 1) := by decide +kernel
theorem dX12_why_54 : decode cX12_why 54 = .ok (.iload_n 3, 1) := by decide +kernel
theorem dX12_why_55 : decode cX12_why 55 = .ok (.iload 4, 2) := by decide +kernel
theorem dX12_why_57 : decode cX12_why 57 = .ok (.invokevirtual 90, 3) := by decide +kernel
theorem dX12_why_60 : decode cX12_why 60 = .ok (.ireturn, 1) := by decide +kernel
theorem dX12_why_61 : decode cX12_why 61 = .ok (.aload_n 0, 1) := by decide +kernel
theorem dX12_why_62 : decode cX12_why 62 = .ok (.iload_n 2, 1) := by decide +kernel
theorem dX12_why_63 : decode cX12_why 63 = .ok (.invokevirtual 121, 3) := by decide +kernel
theorem dX12_why_66 : decode cX12_why 66 = .ok (.ireturn, 1) := by decide +kernel
theorem dX12_why_67 : decode cX12_why 67 = .ok (.aload_n 0, 1) := by decide +kernel
theorem dX12_why_68 : decode cX12_why 68 = .ok (.iload_n 2, 1) := by decide +kernel
theorem dX12_why_69 : decode cX12_why 69 = .ok (.iload_n 3, 1) := by decide +kernel
theorem dX12_why_70 : decode cX12_why 70 = .ok (.iload 4, 2) := by decide +kernel
theorem dX12_why_72 : decode cX12_why 72 = .ok (.iload 5, 2) := by decide +kernel
theorem dX12_why_74 : decode cX12_why 74 = .ok (.invokevirtual 127, 3) := by decide +kernel
theorem dX12_why_77 : decode cX12_why 77 = .ok (.ireturn, 1) := by decide +kernel
theorem dX12_why_78 : decode cX12_why 78 = .ok (.aload_n 0, 1) := by decide +kernel
theorem dX12_why_79 : decode cX12_why 79 = .ok (.iload_n 2, 1) := by decide +kernel
theorem dX12_why_80 : decode cX12_why 80 = .ok (.invokevirtual 140, 3) := by decide +kernel
theorem dX12_why_83 : decode cX12_why 83 = .ok (.ireturn, 1) := by decide +kernel
theorem dX12_why_84 : decode cX12_why 84 = .ok (.aload_n 0, 1) := by decide +kernel
theorem dX12_why_85 : decode cX12_why 85 = .ok (.iload_n 2, 1) := by decide +kernel
theorem dX12_why_86 : decode cX12_why 86 = .ok (.iload_n 3, 1) := by decide +kernel
theorem dX12_why_87 : decode cX12_why 87 = .ok (.iload 4, 2) := by decide +kernel
theorem dX12_why_89 : decode cX12_why 89 = .ok (.invokevirtual 161, 3) := by decide +kernel
theorem dX12_why_92 : decode cX12_why 92 = .ok (.ireturn, 1) := by decide +kernel
theorem dX12_why_93 : decode cX12_why 93 = .ok (.aload_n 0, 1) := by decide +kernel
theorem dX12_why_94 : decode cX12_why 94 = .ok (.iload_n 2, 1) := by decide +kernel
theorem dX12_why_95 : decode cX12_why 95 = .ok (.iload_n 3, 1) := by decide +kernel
theorem dX12_why_96 : decode cX12_why 96 = .ok (.invokevirtual 173, 3) := by decide +kernel
theorem dX12_why_99 : decode cX12_why 99 = .ok (.ireturn, 1) := by decide +kernel
theorem dX12_why_100 : decode cX12_why 100 = .ok (.aload_n 0, 1) := by decide +kernel
theorem dX12_why_101 : decode cX12_why 101 = .ok (.iload_n 2, 1) := by decide +kernel
theorem dX12_why_102 : decode cX12_why 102 = .ok (.invokevirtual 179, 3) := by decide +kernel
theorem dX12_why_105 : decode cX12_why 105 = .ok (.ireturn, 1) := by decide +kernel
theorem dX12_why_106 : decode cX12_why 106 = .ok (.aload_n 0, 1) := by decide +kernel
theorem dX12_why_107 : decode cX12_why 107 = .ok (.iload_n 2, 1) := by decide +kernel
theorem dX12_why_108 : decode cX12_why 108 = .ok (.invokevirtual 185, 3) := by decide +kernel
theorem dX12_why_111 : decode cX12_why 111 = .ok (.ireturn, 1) := by decide +kernel
theorem dX12_why_112 : decode cX12_why 112 = .ok (.aload_n 0, 1) := by decide +kernel
theorem dX12_why_113 : decode cX12_why 113 = .ok (.iload_n 2, 1) := by decide +kernel
theorem dX12_why_114 : decode cX12_why 114 = .ok (.iload_n 3, 1) := by decide +kernel
theorem dX12_why_115 : decode cX12_why 115 = .ok (.iload 4, 2) := by decide +kernel
theorem dX12_why_117 : decode cX12_why 117 = .ok (.invokevirtual 195, 3) := by decide +kernel
theorem dX12_why_120 : decode cX12_why 120 = .ok (.ireturn, 1) := by decide +kernel
theorem dX12_why_121 : decode cX12_why 121 = .ok (.iload_n 2, 1) := by decide +kernel
theorem dX12_why_122 : decode cX12_why 122 = .ok (.iconst 1, 1) := by decide +kernel
theorem dX12_why_123 : decode cX12_why 123 = .ok (.bipush 60, 2) := by decide +kernel
theorem dX12_why_125 : decode cX12_why 125 = .ok (.invokestatic 83, 3) := by decide +kernel
theorem dX12_why_128 : decode cX12_why 128 = .ok (.ifCond .eq 7, 3) := by decide +kernel
theorem dX12_why_131 : decode cX12_why 131 = .ok (.iconst 0, 1) := by decide +kernel
theorem dX12_why_132 : decode cX12_why 132 = .ok (.goto 4, 3) := by decide +kernel
theorem dX12_why_135 : decode cX12_why 135 = .ok (.iconst 1, 1) := by decide +kernel
theorem dX12_why_136 : decode cX12_why 136 = .ok (.ireturn, 1) := by decide +kernel
theorem dX12_does_0 : decode cX12_does 0 = .ok (.iload_n 1, 1) := by decide +kernel
theorem dX12_does_1 : decode cX12_does 1 = .ok (.tableswitch 124 0 8 #[51, 60, 66, 77, 83, 92, 99, 109, 115], 51) := by decide +kernel
theorem dX12_does_52 : decode cX12_does 52 = .ok (.aload_n 0, 1) := by decide +kernel
theorem dX12_does_53 : decode cX12_does 53 = .ok (.iload_n 2, 1) := by decide +kernel
theorem dX12_does_54 : decode cX12_does 54 = .ok (.iload_n 3, 1) := by decide +kernel
theorem dX12_does_55 : decode cX12_does 55 = .ok (.iload 4, 2) := by decide +kernel
theorem dX12_does_57 : decode cX12_does 57 = .ok (.invokevirtual 98, 3) := by decide +kernel
theorem dX12_does_60 : decode cX12_does 60 = .ok (.ireturn, 1) := by decide +kernel
theorem dX12_does_61 : decode cX12_does 61 = .ok (.aload_n 0, 1) := by decide +kernel
theorem dX12_does_62 : decode cX12_does 62 = .ok (.iload_n 2, 1) := by decide +kernel
theorem dX12_does_63 : decode cX12_does 63 = .ok (.invokevirtual 124, 3) := by decide +kernel
theorem dX12_does_66 : decode cX12_does 66 = .ok (.ireturn, 1) := by decide +kernel
theorem dX12_does_67 : decode cX12_does 67 = .ok (.aload_n 0, 1) := by decide +kernel
theorem dX12_does_68 : decode cX12_does 68 = .ok (.iload_n 2, 1) := by decide +kernel
theorem dX12_does_69 : decode cX12_does 69 = .ok (.iload_n 3, 1) := by decide +kernel
theorem dX12_does_70 : decode cX12_does 70 = .ok (.iload 4, 2) := by decide +kernel
theorem dX12_does_72 : decode cX12_does 72 = .ok (.iload 5, 2) := by decide +kernel
theorem dX12_does_74 : decode cX12_does 74 = .ok (.invokevirtual 131, 3) := by decide +kernel
theorem dX12_does_77 : decode cX12_does 77 = .ok (.ireturn, 1) := by decide +kernel
theorem dX12_does_78 : decode cX12_does 78 = .ok (.aload_n 0, 1) := by decide +kernel
theorem dX12_does_79 : decode cX12_does 79 = .ok (.iload_n 2, 1) := by decide +kernel
theorem dX12_does_80 : decode cX12_does 80 = .ok (.invokevirtual 143, 3) := by decide +kernel
theorem dX12_does_83 : decode cX12_does 83 = .ok (.ireturn, 1) := by decide +kernel
theorem dX12_does_84 : decode cX12_does 84 = .ok (.aload_n 0, 1) := by decide +kernel
theorem dX12_does_85 : decode cX12_does 85 = .ok (.iload_n 2, 1) := by decide +kernel
theorem dX12_does_86 : decode cX12_does 86 = .ok (.iload_n 3, 1) := by decide +kernel
theorem dX12_does_87 : decode cX12_does 87 = .ok (.iload 4, 2) := by decide +kernel
theorem dX12_does_89 : decode cX12_does 89 = .ok (.invokevirtual 164, 3) := by decide +kernel
theorem dX12_does_92 : decode cX12_does 92 = .ok (.ireturn, 1) := by decide +kernel
theorem dX12_does_93 : decode cX12_does 93 = .ok (.aload_n 0, 1) := by decide +kernel
theorem dX12_does_94 : decode cX12_does 94 = .ok (.iload_n 2, 1) := by decide +kernel
theorem dX12_does_95 : decode cX12_does 95 = .ok (.iload_n 3, 1) := by decide +kernel
theorem dX12_does_96 : decode cX12_does 96 = .ok (.invokevirtual 176, 3) := by decide +kernel
theorem dX12_does_99 : decode cX12_does 99 = .ok (.ireturn, 1) := by decide +kernel
theorem dX12_does_100 : decode cX12_does 100 = .ok (.aload_n 0, 1) := by decide +kernel
theorem dX12_does_101 : decode cX12_does 101 = .ok (.aload_n 0, 1) := by decide +kernel
theorem dX12_does_102 : decode cX12_does 102 = .ok (.iload_n 2, 1) := by decide +kernel
theorem dX12_does_103 : decode cX12_does 103 = .ok (.invokevirtual 167, 3) := by decide +kernel
theorem dX12_does_106 : decode cX12_does 106 = .ok (.invokevirtual 182, 3) := by decide +kernel
theorem dX12_does_109 : decode cX12_does 109 = .ok (.ireturn, 1) := by decide +kernel
theorem dX12_does_110 : decode cX12_does 110 = .ok (.aload_n 0, 1) := by decide +kernel
theorem dX12_does_111 : decode cX12_does 111 = .ok (.iload_n 2, 1) := by decide +kernel
theorem dX12_does_112 : decode cX12_does 112 = .ok (.invokevirtual 188, 3) := by decide +kernel
theorem dX12_does_115 : decode cX12_does 115 = .ok (.ireturn, 1) := by decide +kernel
theorem dX12_does_116 : decode cX12_does 116 = .ok (.aload_n 0, 1) := by decide +kernel
theorem dX12_does_117 : decode cX12_does 117 = .ok (.iload_n 2, 1) := by decide +kernel
theorem dX12_does_118 : decode cX12_does 118 = .ok (.iload_n 3, 1) := by decide +kernel
theorem dX12_does_119 : decode cX12_does 119 = .ok (.iload 4, 2) := by decide +kernel
theorem dX12_does_121 : decode cX12_does 121 = .ok (.invokevirtual 198, 3) := by decide +kernel
theorem dX12_does_124 : decode cX12_does 124 = .ok (.ireturn, 1) := by decide +kernel
theorem dX12_does_125 : decode cX12_does 125 = .ok (.aload_n 0, 1) := by decide +kernel
theorem dX12_does_126 : decode cX12_does 126 = .ok (.iload_n 2, 1) := by decide +kernel
theorem dX12_does_127 : decode cX12_does 127 = .ok (.invokevirtual 207, 3) := by decide +kernel
theorem dX12_does_130 : decode cX12_does 130 = .ok (.ireturn, 1) := by decide +kernel
theorem dX12_runScript_0 : decode cX12_runScript 0 = .ok (.aload_n 0, 1) := by decide +kernel
theorem dX12_runScript_1 : decode cX12_runScript 1 = .ok (.invokevirtual 87, 3) := by decide +kernel
theorem dX12_runScript_4 : decode cX12_runScript 4 = .ok (.aload_n 0, 1) := by decide +kernel
theorem dX12_runScript_5 : decode cX12_runScript 5 = .ok (.invokevirtual 323, 3) := by decide +kernel
theorem dX12_runScript_8 : decode cX12_runScript 8 = .ok (.aload_n 0, 1) := by decide +kernel
theorem dX12_runScript_9 : decode cX12_runScript 9 = .ok (.getfield 72, 3) := by decide +kernel
theorem dX12_runScript_12 : decode cX12_runScript 12 = .ok (.ifCond .eq 17, 3) := by decide +kernel
theorem dX12_runScript_15 : decode cX12_runScript 15 = .ok (.aload_n 0, 1) := by decide +kernel
theorem dX12_runScript_16 : decode cX12_runScript 16 = .ok (.aload_n 0, 1) := by decide +kernel
theorem dX12_runScript_17 : decode cX12_runScript 17 = .ok (.getfield 66, 3) := by decide +kernel
theorem dX12_runScript_20 : decode cX12_runScript 20 = .ok (.putfield 35, 3) := by decide +kernel
theorem dX12_runScript_23 : decode cX12_runScript 23 = .ok (.aload_n 0, 1) := by decide +kernel
theorem dX12_runScript_24 : decode cX12_runScript 24 = .ok (.iconst 1, 1) := by decide +kernel
theorem dX12_runScript_25 : decode cX12_runScript 25 = .ok (.invokevirtual 94, 3) := by decide +kernel
theorem dX12_runScript_28 : decode cX12_runScript 28 = .ok (.ireturn, 1) := by decide +kernel
theorem dX12_runScript_29 : decode cX12_runScript 29 = .ok (.iconst 0, 1) := by decide +kernel
theorem dX12_runScript_30 : decode cX12_runScript 30 = .ok (.istore_n 1, 1) := by decide +kernel
theorem dX12_runScript_31 : decode cX12_runScript 31 = .ok (.iconst 0, 1) := by decide +kernel
theorem dX12_runScript_32 : decode cX12_runScript 32 = .ok (.istore_n 2, 1) := by decide +kernel
theorem dX12_runScript_33 : decode cX12_runScript 33 = .ok (.iload_n 2, 1) := by decide +kernel
theorem dX12_runScript_34 : decode cX12_runScript 34 = .ok (.aload_n 0, 1) := by decide +kernel
theorem dX12_runScript_35 : decode cX12_runScript 35 = .ok (.getfield 69, 3) := by decide +kernel
theorem dX12_runScript_38 : decode cX12_runScript 38 = .ok (.if_icmp .ge 124, 3) := by decide +kernel
theorem dX12_runScript_41 : decode cX12_runScript 41 = .ok (.iconst 4, 1) := by decide +kernel
theorem dX12_runScript_42 : decode cX12_runScript 42 = .ok (.iload_n 2, 1) := by decide +kernel
theorem dX12_runScript_43 : decode cX12_runScript 43 = .ok (.imul, 1) := by decide +kernel
theorem dX12_runScript_44 : decode cX12_runScript 44 = .ok (.istore_n 3, 1) := by decide +kernel
theorem dX12_runScript_45 : decode cX12_runScript 45 = .ok (.aload_n 0, 1) := by decide +kernel
theorem dX12_runScript_46 : decode cX12_runScript 46 = .ok (.aload_n 0, 1) := by decide +kernel
theorem dX12_runScript_47 : decode cX12_runScript 47 = .ok (.getfield 54, 3) := by decide +kernel
theorem dX12_runScript_50 : decode cX12_runScript 50 = .ok (.iload_n 2, 1) := by decide +kernel
theorem dX12_runScript_51 : decode cX12_runScript 51 = .ok (.iaload, 1) := by decide +kernel
theorem dX12_runScript_52 : decode cX12_runScript 52 = .ok (.aload_n 0, 1) := by decide +kernel
theorem dX12_runScript_53 : decode cX12_runScript 53 = .ok (.getfield 57, 3) := by decide +kernel
theorem dX12_runScript_56 : decode cX12_runScript 56 = .ok (.iload_n 3, 1) := by decide +kernel
theorem dX12_runScript_57 : decode cX12_runScript 57 = .ok (.iaload, 1) := by decide +kernel
theorem dX12_runScript_58 : decode cX12_runScript 58 = .ok (.aload_n 0, 1) := by decide +kernel
theorem dX12_runScript_59 : decode cX12_runScript 59 = .ok (.getfield 57, 3) := by decide +kernel
theorem dX12_runScript_62 : decode cX12_runScript 62 = .ok (.iload_n 3, 1) := by decide +kernel
theorem dX12_runScript_63 : decode cX12_runScript 63 = .ok (.iconst 1, 1) := by decide +kernel
theorem dX12_runScript_64 : decode cX12_runScript 64 = .ok (.iadd, 1) := by decide +kernel
theorem dX12_runScript_65 : decode cX12_runScript 65 = .ok (.iaload, 1) := by decide +kernel
theorem dX12_runScript_66 : decode cX12_runScript 66 = .ok (.aload_n 0, 1) := by decide +kernel
theorem dX12_runScript_67 : decode cX12_runScript 67 = .ok (.getfield 57, 3) := by decide +kernel
theorem dX12_runScript_70 : decode cX12_runScript 70 = .ok (.iload_n 3, 1) := by decide +kernel
theorem dX12_runScript_71 : decode cX12_runScript 71 = .ok (.iconst 2, 1) := by decide +kernel
theorem dX12_runScript_72 : decode cX12_runScript 72 = .ok (.iadd, 1) := by decide +kernel
theorem dX12_runScript_73 : decode cX12_runScript 73 = .ok (.iaload, 1) := by decide +kernel
theorem dX12_runScript_74 : decode cX12_runScript 74 = .ok (.aload_n 0, 1) := by decide +kernel
theorem dX12_runScript_75 : decode cX12_runScript 75 = .ok (.getfield 57, 3) := by decide +kernel
theorem dX12_runScript_78 : decode cX12_runScript 78 = .ok (.iload_n 3, 1) := by decide +kernel
theorem dX12_runScript_79 : decode cX12_runScript 79 = .ok (.iconst 3, 1) := by decide +kernel
theorem dX12_runScript_80 : decode cX12_runScript 80 = .ok (.iadd, 1) := by decide +kernel
theorem dX12_runScript_81 : decode cX12_runScript 81 = .ok (.iaload, 1) := by decide +kernel
theorem dX12_runScript_82 : decode cX12_runScript 82 = .ok (.invokevirtual 326, 3) := by decide +kernel
theorem dX12_runScript_85 : decode cX12_runScript 85 = .ok (.ifCond .ne 47, 3) := by decide +kernel
theorem dX12_runScript_88 : decode cX12_runScript 88 = .ok (.aload_n 0, 1) := by decide +kernel
theorem dX12_runScript_89 : decode cX12_runScript 89 = .ok (.aload_n 0, 1) := by decide +kernel
theorem dX12_runScript_90 : decode cX12_runScript 90 = .ok (.getfield 54, 3) := by decide +kernel
theorem dX12_runScript_93 : decode cX12_runScript 93 = .ok (.iload_n 2, 1) := by decide +kernel
theorem dX12_runScript_94 : decode cX12_runScript 94 = .ok (.iaload, 1) := by decide +kernel
theorem dX12_runScript_95 : decode cX12_runScript 95 = .ok (.aload_n 0, 1) := by decide +kernel
theorem dX12_runScript_96 : decode cX12_runScript 96 = .ok (.getfield 57, 3) := by decide +kernel
theorem dX12_runScript_99 : decode cX12_runScript 99 = .ok (.iload_n 3, 1) := by decide +kernel
theorem dX12_runScript_100 : decode cX12_runScript 100 = .ok (.iaload, 1) := by decide +kernel
theorem dX12_runScript_101 : decode cX12_runScript 101 = .ok (.aload_n 0, 1) := by decide +kernel
theorem dX12_runScript_102 : decode cX12_runScript 102 = .ok (.getfield 57, 3) := by decide +kernel
theorem dX12_runScript_105 : decode cX12_runScript 105 = .ok (.iload_n 3, 1) := by decide +kernel
theorem dX12_runScript_106 : decode cX12_runScript 106 = .ok (.iconst 1, 1) := by decide +kernel
theorem dX12_runScript_107 : decode cX12_runScript 107 = .ok (.iadd, 1) := by decide +kernel
theorem dX12_runScript_108 : decode cX12_runScript 108 = .ok (.iaload, 1) := by decide +kernel
theorem dX12_runScript_109 : decode cX12_runScript 109 = .ok (.aload_n 0, 1) := by decide +kernel
theorem dX12_runScript_110 : decode cX12_runScript 110 = .ok (.getfield 57, 3) := by decide +kernel
theorem dX12_runScript_113 : decode cX12_runScript 113 = .ok (.iload_n 3, 1) := by decide +kernel
theorem dX12_runScript_114 : decode cX12_runScript 114 = .ok (.iconst 2, 1) := by decide +kernel
theorem dX12_runScript_115 : decode cX12_runScript 115 = .ok (.iadd, 1) := by decide +kernel
theorem dX12_runScript_116 : decode cX12_runScript 116 = .ok (.iaload, 1) := by decide +kernel
theorem dX12_runScript_117 : decode cX12_runScript 117 = .ok (.aload_n 0, 1) := by decide +kernel
theorem dX12_runScript_118 : decode cX12_runScript 118 = .ok (.getfield 57, 3) := by decide +kernel
theorem dX12_runScript_121 : decode cX12_runScript 121 = .ok (.iload_n 3, 1) := by decide +kernel
theorem dX12_runScript_122 : decode cX12_runScript 122 = .ok (.iconst 3, 1) := by decide +kernel
theorem dX12_runScript_123 : decode cX12_runScript 123 = .ok (.iadd, 1) := by decide +kernel
theorem dX12_runScript_124 : decode cX12_runScript 124 = .ok (.iaload, 1) := by decide +kernel
theorem dX12_runScript_125 : decode cX12_runScript 125 = .ok (.invokevirtual 330, 3) := by decide +kernel
theorem dX12_runScript_128 : decode cX12_runScript 128 = .ok (.istore_n 1, 1) := by decide +kernel
theorem dX12_runScript_129 : decode cX12_runScript 129 = .ok (.goto 27, 3) := by decide +kernel
theorem dX12_runScript_132 : decode cX12_runScript 132 = .ok (.aload_n 0, 1) := by decide +kernel
theorem dX12_runScript_133 : decode cX12_runScript 133 = .ok (.getfield 13, 3) := by decide +kernel
theorem dX12_runScript_136 : decode cX12_runScript 136 = .ok (.iconst 0, 1) := by decide +kernel
theorem dX12_runScript_137 : decode cX12_runScript 137 = .ok (.aload_n 0, 1) := by decide +kernel
theorem dX12_runScript_138 : decode cX12_runScript 138 = .ok (.getfield 7, 3) := by decide +kernel
theorem dX12_runScript_141 : decode cX12_runScript 141 = .ok (.iconst 0, 1) := by decide +kernel
theorem dX12_runScript_142 : decode cX12_runScript 142 = .ok (.invokestatic 75, 3) := by decide +kernel
theorem dX12_runScript_145 : decode cX12_runScript 145 = .ok (.aload_n 0, 1) := by decide +kernel
theorem dX12_runScript_146 : decode cX12_runScript 146 = .ok (.iload_n 2, 1) := by decide +kernel
theorem dX12_runScript_147 : decode cX12_runScript 147 = .ok (.putfield 38, 3) := by decide +kernel
theorem dX12_runScript_150 : decode cX12_runScript 150 = .ok (.aload_n 0, 1) := by decide +kernel
theorem dX12_runScript_151 : decode cX12_runScript 151 = .ok (.iconst 2, 1) := by decide +kernel
theorem dX12_runScript_152 : decode cX12_runScript 152 = .ok (.invokevirtual 94, 3) := by decide +kernel
theorem dX12_runScript_155 : decode cX12_runScript 155 = .ok (.ireturn, 1) := by decide +kernel
theorem dX12_runScript_156 : decode cX12_runScript 156 = .ok (.iinc 2 1, 3) := by decide +kernel
theorem dX12_runScript_159 : decode cX12_runScript 159 = .ok (.goto (-126), 3) := by decide +kernel
theorem dX12_runScript_162 : decode cX12_runScript 162 = .ok (.aload_n 0, 1) := by decide +kernel
theorem dX12_runScript_163 : decode cX12_runScript 163 = .ok (.aload_n 0, 1) := by decide +kernel
theorem dX12_runScript_164 : decode cX12_runScript 164 = .ok (.getfield 69, 3) := by decide +kernel
theorem dX12_runScript_167 : decode cX12_runScript 167 = .ok (.invokevirtual 101, 3) := by decide +kernel
theorem dX12_runScript_170 : decode cX12_runScript 170 = .ok (.ireturn, 1) := by decide +kernel
theorem dX12_present_0 : decode cX12_present 0 = .ok (.aload_n 0, 1) := by decide +kernel
theorem dX12_present_1 : decode cX12_present 1 = .ok (.iload_n 1, 1) := by decide +kernel
theorem dX12_present_2 : decode cX12_present 2 = .ok (.ifCond .lt 7, 3) := by decide +kernel
theorem dX12_present_5 : decode cX12_present 5 = .ok (.iconst 1, 1) := by decide +kernel
theorem dX12_present_6 : decode cX12_present 6 = .ok (.goto 4, 3) := by decide +kernel
theorem dX12_present_9 : decode cX12_present 9 = .ok (.iconst 0, 1) := by decide +kernel
theorem dX12_present_10 : decode cX12_present 10 = .ok (.invokevirtual 213, 3) := by decide +kernel
theorem dX12_present_13 : decode cX12_present 13 = .ok (.ifCond .le 7, 3) := by decide +kernel
theorem dX12_present_16 : decode cX12_present 16 = .ok (.iconst 0, 1) := by decide +kernel
theorem dX12_present_17 : decode cX12_present 17 = .ok (.goto 4, 3) := by decide +kernel
theorem dX12_present_20 : decode cX12_present 20 = .ok (.iload_n 1, 1) := by decide +kernel
theorem dX12_present_21 : decode cX12_present 21 = .ok (.ireturn, 1) := by decide +kernel
theorem dX12_errorPosition_0 : decode cX12_errorPosition 0 = .ok (.aload_n 0, 1) := by decide +kernel
theorem dX12_errorPosition_1 : decode cX12_errorPosition 1 = .ok (.aload_n 0, 1) := by decide +kernel
theorem dX12_errorPosition_2 : decode cX12_errorPosition 2 = .ok (.getfield 35, 3) := by decide +kernel
theorem dX12_errorPosition_5 : decode cX12_errorPosition 5 = .ok (.invokevirtual 333, 3) := by decide +kernel
theorem dX12_errorPosition_8 : decode cX12_errorPosition 8 = .ok (.ireturn, 1) := by decide +kernel
theorem dX12_failedCommand_0 : decode cX12_failedCommand 0 = .ok (.aload_n 0, 1) := by decide +kernel
theorem dX12_failedCommand_1 : decode cX12_failedCommand 1 = .ok (.aload_n 0, 1) := by decide +kernel
theorem dX12_failedCommand_2 : decode cX12_failedCommand 2 = .ok (.getfield 38, 3) := by decide +kernel
theorem dX12_failedCommand_5 : decode cX12_failedCommand 5 = .ok (.invokevirtual 333, 3) := by decide +kernel
theorem dX12_failedCommand_8 : decode cX12_failedCommand 8 = .ok (.ireturn, 1) := by decide +kernel
theorem dX12_undo_0 : decode cX12_undo 0 = .ok (.aload_n 0, 1) := by decide +kernel
theorem dX12_undo_1 : decode cX12_undo 1 = .ok (.aload_n 0, 1) := by decide +kernel
theorem dX12_undo_2 : decode cX12_undo 2 = .ok (.getfield 32, 3) := by decide +kernel
theorem dX12_undo_5 : decode cX12_undo 5 = .ok (.ifCond .le 7, 3) := by decide +kernel
theorem dX12_undo_8 : decode cX12_undo 8 = .ok (.iconst 1, 1) := by decide +kernel
theorem dX12_undo_9 : decode cX12_undo 9 = .ok (.goto 4, 3) := by decide +kernel
theorem dX12_undo_12 : decode cX12_undo 12 = .ok (.iconst 0, 1) := by decide +kernel
theorem dX12_undo_13 : decode cX12_undo 13 = .ok (.invokevirtual 213, 3) := by decide +kernel
theorem dX12_undo_16 : decode cX12_undo 16 = .ok (.ifCond .le 5, 3) := by decide +kernel
theorem dX12_undo_19 : decode cX12_undo 19 = .ok (.iconst 0, 1) := by decide +kernel
theorem dX12_undo_20 : decode cX12_undo 20 = .ok (.ireturn, 1) := by decide +kernel
theorem dX12_undo_21 : decode cX12_undo 21 = .ok (.aload_n 0, 1) := by decide +kernel
theorem dX12_undo_22 : decode cX12_undo 22 = .ok (.dup, 1) := by decide +kernel
theorem dX12_undo_23 : decode cX12_undo 23 = .ok (.getfield 32, 3) := by decide +kernel
theorem dX12_undo_26 : decode cX12_undo 26 = .ok (.iconst 1, 1) := by decide +kernel
theorem dX12_undo_27 : decode cX12_undo 27 = .ok (.isub, 1) := by decide +kernel
theorem dX12_undo_28 : decode cX12_undo 28 = .ok (.putfield 32, 3) := by decide +kernel
theorem dX12_undo_31 : decode cX12_undo 31 = .ok (.aload_n 0, 1) := by decide +kernel
theorem dX12_undo_32 : decode cX12_undo 32 = .ok (.getfield 19, 3) := by decide +kernel
theorem dX12_undo_35 : decode cX12_undo 35 = .ok (.sipush 300, 3) := by decide +kernel
theorem dX12_undo_38 : decode cX12_undo 38 = .ok (.aload_n 0, 1) := by decide +kernel
theorem dX12_undo_39 : decode cX12_undo 39 = .ok (.getfield 32, 3) := by decide +kernel
theorem dX12_undo_42 : decode cX12_undo 42 = .ok (.imul, 1) := by decide +kernel
theorem dX12_undo_43 : decode cX12_undo 43 = .ok (.aload_n 0, 1) := by decide +kernel
theorem dX12_undo_44 : decode cX12_undo 44 = .ok (.getfield 7, 3) := by decide +kernel
theorem dX12_undo_47 : decode cX12_undo 47 = .ok (.iconst 0, 1) := by decide +kernel
theorem dX12_undo_48 : decode cX12_undo 48 = .ok (.invokestatic 75, 3) := by decide +kernel
theorem dX12_undo_51 : decode cX12_undo 51 = .ok (.aload_n 0, 1) := by decide +kernel
theorem dX12_undo_52 : decode cX12_undo 52 = .ok (.getfield 32, 3) := by decide +kernel
theorem dX12_undo_55 : decode cX12_undo 55 = .ok (.ireturn, 1) := by decide +kernel
theorem dX12_save_0 : decode cX12_save 0 = .ok (.aload_n 0, 1) := by decide +kernel
theorem dX12_save_1 : decode cX12_save 1 = .ok (.iconst 0, 1) := by decide +kernel
theorem dX12_save_2 : decode cX12_save 2 = .ok (.putfield 28, 3) := by decide +kernel
theorem dX12_save_5 : decode cX12_save 5 = .ok (.aload_n 0, 1) := by decide +kernel
theorem dX12_save_6 : decode cX12_save 6 = .ok (.getfield 7, 3) := by decide +kernel
theorem dX12_save_9 : decode cX12_save 9 = .ok (.iconst 0, 1) := by decide +kernel
theorem dX12_save_10 : decode cX12_save 10 = .ok (.aload_n 0, 1) := by decide +kernel
theorem dX12_save_11 : decode cX12_save 11 = .ok (.getfield 16, 3) := by decide +kernel
theorem dX12_save_14 : decode cX12_save 14 = .ok (.iconst 0, 1) := by decide +kernel
theorem dX12_save_15 : decode cX12_save 15 = .ok (.invokestatic 75, 3) := by decide +kernel
theorem dX12_save_18 : decode cX12_save 18 = .ok (.aload_n 0, 1) := by decide +kernel
theorem dX12_save_19 : decode cX12_save 19 = .ok (.iconst 1, 1) := by decide +kernel
theorem dX12_save_20 : decode cX12_save 20 = .ok (.putfield 41, 3) := by decide +kernel
theorem dX12_save_23 : decode cX12_save 23 = .ok (.aload_n 0, 1) := by decide +kernel
theorem dX12_save_24 : decode cX12_save 24 = .ok (.getfield 7, 3) := by decide +kernel
theorem dX12_save_27 : decode cX12_save 27 = .ok (.iconst 0, 1) := by decide +kernel
theorem dX12_save_28 : decode cX12_save 28 = .ok (.iaload, 1) := by decide +kernel
theorem dX12_save_29 : decode cX12_save 29 = .ok (.ireturn, 1) := by decide +kernel
theorem dX12_restore_0 : decode cX12_restore 0 = .ok (.aload_n 0, 1) := by decide +kernel
theorem dX12_restore_1 : decode cX12_restore 1 = .ok (.aload_n 0, 1) := by decide +kernel
theorem dX12_restore_2 : decode cX12_restore 2 = .ok (.getfield 41, 3) := by decide +kernel
theorem dX12_restore_5 : decode cX12_restore 5 = .ok (.invokevirtual 213, 3) := by decide +kernel
theorem dX12_restore_8 : decode cX12_restore 8 = .ok (.ifCond .le 5, 3) := by decide +kernel
theorem dX12_restore_11 : decode cX12_restore 11 = .ok (.iconst 0, 1) := by decide +kernel
theorem dX12_restore_12 : decode cX12_restore 12 = .ok (.ireturn, 1) := by decide +kernel
theorem dX12_restore_13 : decode cX12_restore 13 = .ok (.aload_n 0, 1) := by decide +kernel
theorem dX12_restore_14 : decode cX12_restore 14 = .ok (.getfield 16, 3) := by decide +kernel
theorem dX12_restore_17 : decode cX12_restore 17 = .ok (.iconst 0, 1) := by decide +kernel
theorem dX12_restore_18 : decode cX12_restore 18 = .ok (.aload_n 0, 1) := by decide +kernel
theorem dX12_restore_19 : decode cX12_restore 19 = .ok (.getfield 7, 3) := by decide +kernel
theorem dX12_restore_22 : decode cX12_restore 22 = .ok (.iconst 0, 1) := by decide +kernel
theorem dX12_restore_23 : decode cX12_restore 23 = .ok (.invokestatic 75, 3) := by decide +kernel
theorem dX12_restore_26 : decode cX12_restore 26 = .ok (.aload_n 0, 1) := by decide +kernel
theorem dX12_restore_27 : decode cX12_restore 27 = .ok (.iconst 0, 1) := by decide +kernel
theorem dX12_restore_28 : decode cX12_restore 28 = .ok (.putfield 32, 3) := by decide +kernel
theorem dX12_restore_31 : decode cX12_restore 31 = .ok (.aload_n 0, 1) := by decide +kernel
theorem dX12_restore_32 : decode cX12_restore 32 = .ok (.getfield 7, 3) := by decide +kernel
theorem dX12_restore_35 : decode cX12_restore 35 = .ok (.iconst 0, 1) := by decide +kernel
theorem dX12_restore_36 : decode cX12_restore 36 = .ok (.iaload, 1) := by decide +kernel
theorem dX12_restore_37 : decode cX12_restore 37 = .ok (.ireturn, 1) := by decide +kernel
