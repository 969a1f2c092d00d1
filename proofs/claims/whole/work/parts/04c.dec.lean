theorem dA_init_0 : decode yA_init.2.1 0 = .ok (.aload_n 0, 1) := by decide +kernel
theorem dA_init_1 : decode yA_init.2.1 1 = .ok (.invokespecial 1, 3) := by decide +kernel
theorem dA_init_4 : decode yA_init.2.1 4 = .ok (.aload_n 0, 1) := by decide +kernel
theorem dA_init_5 : decode yA_init.2.1 5 = .ok (.new 7, 3) := by decide +kernel
theorem dA_init_8 : decode yA_init.2.1 8 = .ok (.dup, 1) := by decide +kernel
theorem dA_init_9 : decode yA_init.2.1 9 = .ok (.invokespecial 9, 3) := by decide +kernel
theorem dA_init_12 : decode yA_init.2.1 12 = .ok (.putfield 10, 3) := by decide +kernel
theorem dA_init_15 : decode yA_init.2.1 15 = .ok (.aload_n 0, 1) := by decide +kernel
theorem dA_init_16 : decode yA_init.2.1 16 = .ok (.new 7, 3) := by decide +kernel
theorem dA_init_19 : decode yA_init.2.1 19 = .ok (.dup, 1) := by decide +kernel
theorem dA_init_20 : decode yA_init.2.1 20 = .ok (.invokespecial 9, 3) := by decide +kernel
theorem dA_init_23 : decode yA_init.2.1 23 = .ok (.putfield 16, 3) := by decide +kernel
theorem dA_init_26 : decode yA_init.2.1 26 = .ok (.aload_n 0, 1) := by decide +kernel
theorem dA_init_27 : decode yA_init.2.1 27 = .ok (.new 7, 3) := by decide +kernel
theorem dA_init_30 : decode yA_init.2.1 30 = .ok (.dup, 1) := by decide +kernel
theorem dA_init_31 : decode yA_init.2.1 31 = .ok (.invokespecial 9, 3) := by decide +kernel
theorem dA_init_34 : decode yA_init.2.1 34 = .ok (.putfield 19, 3) := by decide +kernel
theorem dA_init_37 : decode yA_init.2.1 37 = .ok (.aload_n 0, 1) := by decide +kernel
theorem dA_init_38 : decode yA_init.2.1 38 = .ok (.new 22, 3) := by decide +kernel
theorem dA_init_41 : decode yA_init.2.1 41 = .ok (.dup, 1) := by decide +kernel
theorem dA_init_42 : decode yA_init.2.1 42 = .ok (.invokespecial 24, 3) := by decide +kernel
theorem dA_init_45 : decode yA_init.2.1 45 = .ok (.putfield 25, 3) := by decide +kernel
theorem dA_init_48 : decode yA_init.2.1 48 = .ok (.aload_n 0, 1) := by decide +kernel
theorem dA_init_49 : decode yA_init.2.1 49 = .ok (.iconst 4, 1) := by decide +kernel
theorem dA_init_50 : decode yA_init.2.1 50 = .ok (.anewarray 29, 3) := by decide +kernel
theorem dA_init_53 : decode yA_init.2.1 53 = .ok (.putfield 31, 3) := by decide +kernel
theorem dA_init_56 : decode yA_init.2.1 56 = .ok (.aload_n 0, 1) := by decide +kernel
theorem dA_init_57 : decode yA_init.2.1 57 = .ok (.iconst 5, 1) := by decide +kernel
theorem dA_init_58 : decode yA_init.2.1 58 = .ok (.anewarray 35, 3) := by decide +kernel
theorem dA_init_61 : decode yA_init.2.1 61 = .ok (.putfield 37, 3) := by decide +kernel
theorem dA_init_64 : decode yA_init.2.1 64 = .ok (.aload_n 0, 1) := by decide +kernel
theorem dA_init_65 : decode yA_init.2.1 65 = .ok (.bipush 60, 2) := by decide +kernel
theorem dA_init_67 : decode yA_init.2.1 67 = .ok (.newarray .int, 2) := by decide +kernel
theorem dA_init_69 : decode yA_init.2.1 69 = .ok (.putfield 41, 3) := by decide +kernel
theorem dA_init_72 : decode yA_init.2.1 72 = .ok (.aload_n 0, 1) := by decide +kernel
theorem dA_init_73 : decode yA_init.2.1 73 = .ok (.bipush 100, 2) := by decide +kernel
theorem dA_init_75 : decode yA_init.2.1 75 = .ok (.newarray .int, 2) := by decide +kernel
theorem dA_init_77 : decode yA_init.2.1 77 = .ok (.putfield 45, 3) := by decide +kernel
theorem dA_init_80 : decode yA_init.2.1 80 = .ok (.aload_n 0, 1) := by decide +kernel
theorem dA_init_81 : decode yA_init.2.1 81 = .ok (.bipush 10, 2) := by decide +kernel
theorem dA_init_83 : decode yA_init.2.1 83 = .ok (.newarray .int, 2) := by decide +kernel
theorem dA_init_85 : decode yA_init.2.1 85 = .ok (.putfield 48, 3) := by decide +kernel
theorem dA_init_88 : decode yA_init.2.1 88 = .ok (.aload_n 0, 1) := by decide +kernel
theorem dA_init_89 : decode yA_init.2.1 89 = .ok (.iconst 0, 1) := by decide +kernel
theorem dA_init_90 : decode yA_init.2.1 90 = .ok (.putfield 51, 3) := by decide +kernel
theorem dA_init_93 : decode yA_init.2.1 93 = .ok (.aload_n 0, 1) := by decide +kernel
theorem dA_init_94 : decode yA_init.2.1 94 = .ok (.iconst 0, 1) := by decide +kernel
theorem dA_init_95 : decode yA_init.2.1 95 = .ok (.putfield 55, 3) := by decide +kernel
theorem dA_init_98 : decode yA_init.2.1 98 = .ok (.iconst 0, 1) := by decide +kernel
theorem dA_init_99 : decode yA_init.2.1 99 = .ok (.istore_n 1, 1) := by decide +kernel
theorem dA_init_100 : decode yA_init.2.1 100 = .ok (.iload_n 1, 1) := by decide +kernel
theorem dA_init_101 : decode yA_init.2.1 101 = .ok (.iconst 4, 1) := by decide +kernel
theorem dA_init_102 : decode yA_init.2.1 102 = .ok (.if_icmp .ge 22, 3) := by decide +kernel
theorem dA_init_105 : decode yA_init.2.1 105 = .ok (.aload_n 0, 1) := by decide +kernel
theorem dA_init_106 : decode yA_init.2.1 106 = .ok (.getfield 31, 3) := by decide +kernel
theorem dA_init_109 : decode yA_init.2.1 109 = .ok (.iload_n 1, 1) := by decide +kernel
theorem dA_init_110 : decode yA_init.2.1 110 = .ok (.new 29, 3) := by decide +kernel
theorem dA_init_113 : decode yA_init.2.1 113 = .ok (.dup, 1) := by decide +kernel
theorem dA_init_114 : decode yA_init.2.1 114 = .ok (.invokespecial 59, 3) := by decide +kernel
theorem dA_init_117 : decode yA_init.2.1 117 = .ok (.aastore, 1) := by decide +kernel
theorem dA_init_118 : decode yA_init.2.1 118 = .ok (.iinc 1 1, 3) := by decide +kernel
theorem dA_init_121 : decode yA_init.2.1 121 = .ok (.goto (-21), 3) := by decide +kernel
theorem dA_init_124 : decode yA_init.2.1 124 = .ok (.iconst 0, 1) := by decide +kernel
theorem dA_init_125 : decode yA_init.2.1 125 = .ok (.istore_n 1, 1) := by decide +kernel
theorem dA_init_126 : decode yA_init.2.1 126 = .ok (.iload_n 1, 1) := by decide +kernel
theorem dA_init_127 : decode yA_init.2.1 127 = .ok (.iconst 5, 1) := by decide +kernel
theorem dA_init_128 : decode yA_init.2.1 128 = .ok (.if_icmp .ge 22, 3) := by decide +kernel
theorem dA_init_131 : decode yA_init.2.1 131 = .ok (.aload_n 0, 1) := by decide +kernel
theorem dA_init_132 : decode yA_init.2.1 132 = .ok (.getfield 37, 3) := by decide +kernel
theorem dA_init_135 : decode yA_init.2.1 135 = .ok (.iload_n 1, 1) := by decide +kernel
theorem dA_init_136 : decode yA_init.2.1 136 = .ok (.new 35, 3) := by decide +kernel
theorem dA_init_139 : decode yA_init.2.1 139 = .ok (.dup, 1) := by decide +kernel
theorem dA_init_140 : decode yA_init.2.1 140 = .ok (.invokespecial 60, 3) := by decide +kernel
theorem dA_init_143 : decode yA_init.2.1 143 = .ok (.aastore, 1) := by decide +kernel
theorem dA_init_144 : decode yA_init.2.1 144 = .ok (.iinc 1 1, 3) := by decide +kernel
theorem dA_init_147 : decode yA_init.2.1 147 = .ok (.goto (-21), 3) := by decide +kernel
theorem dA_init_150 : decode yA_init.2.1 150 = .ok (.return_, 1) := by decide +kernel
theorem dA_goose_0 : decode yA_goose.2.1 0 = .ok (.iload_n 1, 1) := by decide +kernel
theorem dA_goose_1 : decode yA_goose.2.1 1 = .ok (.iconst 0, 1) := by decide +kernel
theorem dA_goose_2 : decode yA_goose.2.1 2 = .ok (.iconst 5, 1) := by decide +kernel
theorem dA_goose_3 : decode yA_goose.2.1 3 = .ok (.invokestatic 61, 3) := by decide +kernel
theorem dA_goose_6 : decode yA_goose.2.1 6 = .ok (.ifCond .ne 33, 3) := by decide +kernel
theorem dA_goose_9 : decode yA_goose.2.1 9 = .ok (.iload_n 2, 1) := by decide +kernel
theorem dA_goose_10 : decode yA_goose.2.1 10 = .ok (.iconst 0, 1) := by decide +kernel
theorem dA_goose_11 : decode yA_goose.2.1 11 = .ok (.bipush 99, 2) := by decide +kernel
theorem dA_goose_13 : decode yA_goose.2.1 13 = .ok (.invokestatic 61, 3) := by decide +kernel
theorem dA_goose_16 : decode yA_goose.2.1 16 = .ok (.ifCond .ne 23, 3) := by decide +kernel
theorem dA_goose_19 : decode yA_goose.2.1 19 = .ok (.iload_n 3, 1) := by decide +kernel
theorem dA_goose_20 : decode yA_goose.2.1 20 = .ok (.iconst 0, 1) := by decide +kernel
theorem dA_goose_21 : decode yA_goose.2.1 21 = .ok (.bipush 99, 2) := by decide +kernel
theorem dA_goose_23 : decode yA_goose.2.1 23 = .ok (.invokestatic 61, 3) := by decide +kernel
theorem dA_goose_26 : decode yA_goose.2.1 26 = .ok (.ifCond .ne 13, 3) := by decide +kernel
theorem dA_goose_29 : decode yA_goose.2.1 29 = .ok (.iload 4, 2) := by decide +kernel
theorem dA_goose_31 : decode yA_goose.2.1 31 = .ok (.iconst 0, 1) := by decide +kernel
theorem dA_goose_32 : decode yA_goose.2.1 32 = .ok (.iconst 5, 1) := by decide +kernel
theorem dA_goose_33 : decode yA_goose.2.1 33 = .ok (.invokestatic 61, 3) := by decide +kernel
theorem dA_goose_36 : decode yA_goose.2.1 36 = .ok (.ifCond .eq 6, 3) := by decide +kernel
theorem dA_goose_39 : decode yA_goose.2.1 39 = .ok (.ldc 65, 2) := by decide +kernel
theorem dA_goose_41 : decode yA_goose.2.1 41 = .ok (.ireturn, 1) := by decide +kernel
theorem dA_goose_42 : decode yA_goose.2.1 42 = .ok (.aload_n 0, 1) := by decide +kernel
theorem dA_goose_43 : decode yA_goose.2.1 43 = .ok (.getfield 10, 3) := by decide +kernel
theorem dA_goose_46 : decode yA_goose.2.1 46 = .ok (.iload_n 1, 1) := by decide +kernel
theorem dA_goose_47 : decode yA_goose.2.1 47 = .ok (.iload_n 2, 1) := by decide +kernel
theorem dA_goose_48 : decode yA_goose.2.1 48 = .ok (.iload_n 3, 1) := by decide +kernel
theorem dA_goose_49 : decode yA_goose.2.1 49 = .ok (.iload 4, 2) := by decide +kernel
theorem dA_goose_51 : decode yA_goose.2.1 51 = .ok (.invokevirtual 66, 3) := by decide +kernel
theorem dA_goose_54 : decode yA_goose.2.1 54 = .ok (.ifCond .eq 15, 3) := by decide +kernel
theorem dA_goose_57 : decode yA_goose.2.1 57 = .ok (.aload_n 0, 1) := by decide +kernel
theorem dA_goose_58 : decode yA_goose.2.1 58 = .ok (.getfield 10, 3) := by decide +kernel
theorem dA_goose_61 : decode yA_goose.2.1 61 = .ok (.getfield 70, 3) := by decide +kernel
theorem dA_goose_64 : decode yA_goose.2.1 64 = .ok (.iconst 1, 1) := by decide +kernel
theorem dA_goose_65 : decode yA_goose.2.1 65 = .ok (.isub, 1) := by decide +kernel
theorem dA_goose_66 : decode yA_goose.2.1 66 = .ok (.goto 5, 3) := by decide +kernel
theorem dA_goose_69 : decode yA_goose.2.1 69 = .ok (.ldc 73, 2) := by decide +kernel
theorem dA_goose_71 : decode yA_goose.2.1 71 = .ok (.ireturn, 1) := by decide +kernel
theorem dA_outside_0 : decode yA_outside.2.1 0 = .ok (.iload_n 0, 1) := by decide +kernel
theorem dA_outside_1 : decode yA_outside.2.1 1 = .ok (.iload_n 1, 1) := by decide +kernel
theorem dA_outside_2 : decode yA_outside.2.1 2 = .ok (.if_icmp .lt 8, 3) := by decide +kernel
theorem dA_outside_5 : decode yA_outside.2.1 5 = .ok (.iload_n 0, 1) := by decide +kernel
theorem dA_outside_6 : decode yA_outside.2.1 6 = .ok (.iload_n 2, 1) := by decide +kernel
theorem dA_outside_7 : decode yA_outside.2.1 7 = .ok (.if_icmp .le 7, 3) := by decide +kernel
theorem dA_outside_10 : decode yA_outside.2.1 10 = .ok (.iconst 1, 1) := by decide +kernel
theorem dA_outside_11 : decode yA_outside.2.1 11 = .ok (.goto 4, 3) := by decide +kernel
theorem dA_outside_14 : decode yA_outside.2.1 14 = .ok (.iconst 0, 1) := by decide +kernel
theorem dA_outside_15 : decode yA_outside.2.1 15 = .ok (.ireturn, 1) := by decide +kernel
theorem dA_told_0 : decode yA_told.2.1 0 = .ok (.aload_n 0, 1) := by decide +kernel
theorem dA_told_1 : decode yA_told.2.1 1 = .ok (.getfield 10, 3) := by decide +kernel
theorem dA_told_4 : decode yA_told.2.1 4 = .ok (.iload_n 1, 1) := by decide +kernel
theorem dA_told_5 : decode yA_told.2.1 5 = .ok (.invokevirtual 74, 3) := by decide +kernel
theorem dA_told_8 : decode yA_told.2.1 8 = .ok (.ifCond .ne 6, 3) := by decide +kernel
theorem dA_told_11 : decode yA_told.2.1 11 = .ok (.ldc 65, 2) := by decide +kernel
theorem dA_told_13 : decode yA_told.2.1 13 = .ok (.ireturn, 1) := by decide +kernel
theorem dA_told_14 : decode yA_told.2.1 14 = .ok (.aload_n 0, 1) := by decide +kernel
theorem dA_told_15 : decode yA_told.2.1 15 = .ok (.getfield 10, 3) := by decide +kernel
theorem dA_told_18 : decode yA_told.2.1 18 = .ok (.getfield 78, 3) := by decide +kernel
theorem dA_told_21 : decode yA_told.2.1 21 = .ok (.iload_n 1, 1) := by decide +kernel
theorem dA_told_22 : decode yA_told.2.1 22 = .ok (.aaload, 1) := by decide +kernel
theorem dA_told_23 : decode yA_told.2.1 23 = .ok (.astore_n 3, 1) := by decide +kernel
theorem dA_told_24 : decode yA_told.2.1 24 = .ok (.iload_n 2, 1) := by decide +kernel
theorem dA_told_25 : decode yA_told.2.1 25 = .ok (.tableswitch 96 0 8 #[51, 51, 51, 51, 51, 57, 81, 86, 91], 51) := by decide +kernel
theorem dA_told_76 : decode yA_told.2.1 76 = .ok (.aload_n 3, 1) := by decide +kernel
theorem dA_told_77 : decode yA_told.2.1 77 = .ok (.iload_n 2, 1) := by decide +kernel
theorem dA_told_78 : decode yA_told.2.1 78 = .ok (.invokevirtual 82, 3) := by decide +kernel
theorem dA_told_81 : decode yA_told.2.1 81 = .ok (.ireturn, 1) := by decide +kernel
theorem dA_told_82 : decode yA_told.2.1 82 = .ok (.aload_n 0, 1) := by decide +kernel
theorem dA_told_83 : decode yA_told.2.1 83 = .ok (.getfield 10, 3) := by decide +kernel
theorem dA_told_86 : decode yA_told.2.1 86 = .ok (.aload_n 3, 1) := by decide +kernel
theorem dA_told_87 : decode yA_told.2.1 87 = .ok (.aload_n 3, 1) := by decide +kernel
theorem dA_told_88 : decode yA_told.2.1 88 = .ok (.getfield 88, 3) := by decide +kernel
theorem dA_told_91 : decode yA_told.2.1 91 = .ok (.aload_n 0, 1) := by decide +kernel
theorem dA_told_92 : decode yA_told.2.1 92 = .ok (.getfield 10, 3) := by decide +kernel
theorem dA_told_95 : decode yA_told.2.1 95 = .ok (.aload_n 3, 1) := by decide +kernel
theorem dA_told_96 : decode yA_told.2.1 96 = .ok (.getfield 88, 3) := by decide +kernel
theorem dA_told_99 : decode yA_told.2.1 99 = .ok (.invokevirtual 91, 3) := by decide +kernel
theorem dA_told_102 : decode yA_told.2.1 102 = .ok (.invokevirtual 94, 3) := by decide +kernel
theorem dA_told_105 : decode yA_told.2.1 105 = .ok (.ireturn, 1) := by decide +kernel
theorem dA_told_106 : decode yA_told.2.1 106 = .ok (.aload_n 3, 1) := by decide +kernel
theorem dA_told_107 : decode yA_told.2.1 107 = .ok (.invokevirtual 98, 3) := by decide +kernel
theorem dA_told_110 : decode yA_told.2.1 110 = .ok (.ireturn, 1) := by decide +kernel
theorem dA_told_111 : decode yA_told.2.1 111 = .ok (.aload_n 3, 1) := by decide +kernel
theorem dA_told_112 : decode yA_told.2.1 112 = .ok (.invokevirtual 102, 3) := by decide +kernel
theorem dA_told_115 : decode yA_told.2.1 115 = .ok (.ireturn, 1) := by decide +kernel
theorem dA_told_116 : decode yA_told.2.1 116 = .ok (.aload_n 3, 1) := by decide +kernel
theorem dA_told_117 : decode yA_told.2.1 117 = .ok (.invokevirtual 105, 3) := by decide +kernel
theorem dA_told_120 : decode yA_told.2.1 120 = .ok (.ireturn, 1) := by decide +kernel
theorem dA_told_121 : decode yA_told.2.1 121 = .ok (.ldc 65, 2) := by decide +kernel
theorem dA_told_123 : decode yA_told.2.1 123 = .ok (.ireturn, 1) := by decide +kernel
theorem dA_within_0 : decode yA_within.2.1 0 = .ok (.iload_n 0, 1) := by decide +kernel
theorem dA_within_1 : decode yA_within.2.1 1 = .ok (.iload_n 1, 1) := by decide +kernel
theorem dA_within_2 : decode yA_within.2.1 2 = .ok (.if_icmp .ge 7, 3) := by decide +kernel
theorem dA_within_5 : decode yA_within.2.1 5 = .ok (.iload_n 1, 1) := by decide +kernel
theorem dA_within_6 : decode yA_within.2.1 6 = .ok (.goto 13, 3) := by decide +kernel
theorem dA_within_9 : decode yA_within.2.1 9 = .ok (.iload_n 0, 1) := by decide +kernel
theorem dA_within_10 : decode yA_within.2.1 10 = .ok (.iload_n 2, 1) := by decide +kernel
theorem dA_within_11 : decode yA_within.2.1 11 = .ok (.if_icmp .le 7, 3) := by decide +kernel
theorem dA_within_14 : decode yA_within.2.1 14 = .ok (.iload_n 2, 1) := by decide +kernel
theorem dA_within_15 : decode yA_within.2.1 15 = .ok (.goto 4, 3) := by decide +kernel
theorem dA_within_18 : decode yA_within.2.1 18 = .ok (.iload_n 0, 1) := by decide +kernel
theorem dA_within_19 : decode yA_within.2.1 19 = .ok (.ireturn, 1) := by decide +kernel
theorem dA_as_0 : decode yA_as.2.1 0 = .ok (.aload_n 0, 1) := by decide +kernel
theorem dA_as_1 : decode yA_as.2.1 1 = .ok (.getfield 10, 3) := by decide +kernel
theorem dA_as_4 : decode yA_as.2.1 4 = .ok (.iload_n 1, 1) := by decide +kernel
theorem dA_as_5 : decode yA_as.2.1 5 = .ok (.invokevirtual 74, 3) := by decide +kernel
theorem dA_as_8 : decode yA_as.2.1 8 = .ok (.ifCond .eq 12, 3) := by decide +kernel
theorem dA_as_11 : decode yA_as.2.1 11 = .ok (.iload_n 2, 1) := by decide +kernel
theorem dA_as_12 : decode yA_as.2.1 12 = .ok (.iconst 0, 1) := by decide +kernel
theorem dA_as_13 : decode yA_as.2.1 13 = .ok (.iconst 5, 1) := by decide +kernel
theorem dA_as_14 : decode yA_as.2.1 14 = .ok (.invokestatic 61, 3) := by decide +kernel
theorem dA_as_17 : decode yA_as.2.1 17 = .ok (.ifCond .eq 6, 3) := by decide +kernel
theorem dA_as_20 : decode yA_as.2.1 20 = .ok (.ldc 65, 2) := by decide +kernel
theorem dA_as_22 : decode yA_as.2.1 22 = .ok (.ireturn, 1) := by decide +kernel
theorem dA_as_23 : decode yA_as.2.1 23 = .ok (.aload_n 0, 1) := by decide +kernel
theorem dA_as_24 : decode yA_as.2.1 24 = .ok (.getfield 10, 3) := by decide +kernel
theorem dA_as_27 : decode yA_as.2.1 27 = .ok (.getfield 78, 3) := by decide +kernel
theorem dA_as_30 : decode yA_as.2.1 30 = .ok (.iload_n 1, 1) := by decide +kernel
theorem dA_as_31 : decode yA_as.2.1 31 = .ok (.aaload, 1) := by decide +kernel
theorem dA_as_32 : decode yA_as.2.1 32 = .ok (.iload_n 2, 1) := by decide +kernel
theorem dA_as_33 : decode yA_as.2.1 33 = .ok (.invokevirtual 108, 3) := by decide +kernel
theorem dA_as_36 : decode yA_as.2.1 36 = .ok (.ifCond .eq 18, 3) := by decide +kernel
theorem dA_as_39 : decode yA_as.2.1 39 = .ok (.aload_n 0, 1) := by decide +kernel
theorem dA_as_40 : decode yA_as.2.1 40 = .ok (.getfield 10, 3) := by decide +kernel
theorem dA_as_43 : decode yA_as.2.1 43 = .ok (.getfield 78, 3) := by decide +kernel
theorem dA_as_46 : decode yA_as.2.1 46 = .ok (.iload_n 1, 1) := by decide +kernel
theorem dA_as_47 : decode yA_as.2.1 47 = .ok (.aaload, 1) := by decide +kernel
theorem dA_as_48 : decode yA_as.2.1 48 = .ok (.getfield 111, 3) := by decide +kernel
theorem dA_as_51 : decode yA_as.2.1 51 = .ok (.goto 5, 3) := by decide +kernel
theorem dA_as_54 : decode yA_as.2.1 54 = .ok (.ldc 114, 2) := by decide +kernel
theorem dA_as_56 : decode yA_as.2.1 56 = .ok (.ireturn, 1) := by decide +kernel
theorem dA_turns_0 : decode yA_turns.2.1 0 = .ok (.aload_n 0, 1) := by decide +kernel
theorem dA_turns_1 : decode yA_turns.2.1 1 = .ok (.iload_n 1, 1) := by decide +kernel
theorem dA_turns_2 : decode yA_turns.2.1 2 = .ok (.iconst 0, 1) := by decide +kernel
theorem dA_turns_3 : decode yA_turns.2.1 3 = .ok (.iload_n 2, 1) := by decide +kernel
theorem dA_turns_4 : decode yA_turns.2.1 4 = .ok (.invokevirtual 115, 3) := by decide +kernel
theorem dA_turns_7 : decode yA_turns.2.1 7 = .ok (.ireturn, 1) := by decide +kernel
theorem dA_changeTrait_0 : decode yA_changeTrait.2.1 0 = .ok (.aload_n 0, 1) := by decide +kernel
theorem dA_changeTrait_1 : decode yA_changeTrait.2.1 1 = .ok (.getfield 10, 3) := by decide +kernel
theorem dA_changeTrait_4 : decode yA_changeTrait.2.1 4 = .ok (.iload_n 1, 1) := by decide +kernel
theorem dA_changeTrait_5 : decode yA_changeTrait.2.1 5 = .ok (.invokevirtual 74, 3) := by decide +kernel
theorem dA_changeTrait_8 : decode yA_changeTrait.2.1 8 = .ok (.ifCond .eq 16, 3) := by decide +kernel
theorem dA_changeTrait_11 : decode yA_changeTrait.2.1 11 = .ok (.iload_n 3, 1) := by decide +kernel
theorem dA_changeTrait_12 : decode yA_changeTrait.2.1 12 = .ok (.iconst 0, 1) := by decide +kernel
theorem dA_changeTrait_13 : decode yA_changeTrait.2.1 13 = .ok (.getstatic 119, 3) := by decide +kernel
theorem dA_changeTrait_16 : decode yA_changeTrait.2.1 16 = .ok (.iload_n 2, 1) := by decide +kernel
theorem dA_changeTrait_17 : decode yA_changeTrait.2.1 17 = .ok (.iaload, 1) := by decide +kernel
theorem dA_changeTrait_18 : decode yA_changeTrait.2.1 18 = .ok (.invokestatic 61, 3) := by decide +kernel
theorem dA_changeTrait_21 : decode yA_changeTrait.2.1 21 = .ok (.ifCond .eq 6, 3) := by decide +kernel
theorem dA_changeTrait_24 : decode yA_changeTrait.2.1 24 = .ok (.ldc 65, 2) := by decide +kernel
theorem dA_changeTrait_26 : decode yA_changeTrait.2.1 26 = .ok (.ireturn, 1) := by decide +kernel
theorem dA_changeTrait_27 : decode yA_changeTrait.2.1 27 = .ok (.aload_n 0, 1) := by decide +kernel
theorem dA_changeTrait_28 : decode yA_changeTrait.2.1 28 = .ok (.getfield 10, 3) := by decide +kernel
theorem dA_changeTrait_31 : decode yA_changeTrait.2.1 31 = .ok (.getfield 78, 3) := by decide +kernel
theorem dA_changeTrait_34 : decode yA_changeTrait.2.1 34 = .ok (.iload_n 1, 1) := by decide +kernel
theorem dA_changeTrait_35 : decode yA_changeTrait.2.1 35 = .ok (.aaload, 1) := by decide +kernel
theorem dA_changeTrait_36 : decode yA_changeTrait.2.1 36 = .ok (.iload_n 2, 1) := by decide +kernel
theorem dA_changeTrait_37 : decode yA_changeTrait.2.1 37 = .ok (.invokevirtual 82, 3) := by decide +kernel
theorem dA_changeTrait_40 : decode yA_changeTrait.2.1 40 = .ok (.istore 4, 2) := by decide +kernel
theorem dA_changeTrait_42 : decode yA_changeTrait.2.1 42 = .ok (.aload_n 0, 1) := by decide +kernel
theorem dA_changeTrait_43 : decode yA_changeTrait.2.1 43 = .ok (.getfield 10, 3) := by decide +kernel
theorem dA_changeTrait_46 : decode yA_changeTrait.2.1 46 = .ok (.getfield 78, 3) := by decide +kernel
theorem dA_changeTrait_49 : decode yA_changeTrait.2.1 49 = .ok (.iload_n 1, 1) := by decide +kernel
theorem dA_changeTrait_50 : decode yA_changeTrait.2.1 50 = .ok (.aaload, 1) := by decide +kernel
theorem dA_changeTrait_51 : decode yA_changeTrait.2.1 51 = .ok (.iload_n 2, 1) := by decide +kernel
theorem dA_changeTrait_52 : decode yA_changeTrait.2.1 52 = .ok (.iload_n 3, 1) := by decide +kernel
theorem dA_changeTrait_53 : decode yA_changeTrait.2.1 53 = .ok (.invokevirtual 122, 3) := by decide +kernel
theorem dA_changeTrait_56 : decode yA_changeTrait.2.1 56 = .ok (.iload 4, 2) := by decide +kernel
theorem dA_changeTrait_58 : decode yA_changeTrait.2.1 58 = .ok (.ireturn, 1) := by decide +kernel
theorem dA_set_0 : decode yA_set.2.1 0 = .ok (.iload_n 2, 1) := by decide +kernel
theorem dA_set_1 : decode yA_set.2.1 1 = .ok (.iconst 1, 1) := by decide +kernel
theorem dA_set_2 : decode yA_set.2.1 2 = .ok (.iconst 4, 1) := by decide +kernel
theorem dA_set_3 : decode yA_set.2.1 3 = .ok (.invokestatic 61, 3) := by decide +kernel
theorem dA_set_6 : decode yA_set.2.1 6 = .ok (.ifCond .eq 8, 3) := by decide +kernel
theorem dA_set_9 : decode yA_set.2.1 9 = .ok (.ldc 65, 2) := by decide +kernel
theorem dA_set_11 : decode yA_set.2.1 11 = .ok (.goto 10, 3) := by decide +kernel
theorem dA_set_14 : decode yA_set.2.1 14 = .ok (.aload_n 0, 1) := by decide +kernel
theorem dA_set_15 : decode yA_set.2.1 15 = .ok (.iload_n 1, 1) := by decide +kernel
theorem dA_set_16 : decode yA_set.2.1 16 = .ok (.iload_n 2, 1) := by decide +kernel
theorem dA_set_17 : decode yA_set.2.1 17 = .ok (.iload_n 3, 1) := by decide +kernel
theorem dA_set_18 : decode yA_set.2.1 18 = .ok (.invokevirtual 115, 3) := by decide +kernel
theorem dA_set_21 : decode yA_set.2.1 21 = .ok (.ireturn, 1) := by decide +kernel
theorem dA_needs_0 : decode yA_needs.2.1 0 = .ok (.iload_n 1, 1) := by decide +kernel
theorem dA_needs_1 : decode yA_needs.2.1 1 = .ok (.iconst 0, 1) := by decide +kernel
theorem dA_needs_2 : decode yA_needs.2.1 2 = .ok (.iconst 5, 1) := by decide +kernel
theorem dA_needs_3 : decode yA_needs.2.1 3 = .ok (.invokestatic 61, 3) := by decide +kernel
theorem dA_needs_6 : decode yA_needs.2.1 6 = .ok (.ifCond .ne 13, 3) := by decide +kernel
theorem dA_needs_9 : decode yA_needs.2.1 9 = .ok (.iload_n 2, 1) := by decide +kernel
theorem dA_needs_10 : decode yA_needs.2.1 10 = .ok (.iconst 0, 1) := by decide +kernel
theorem dA_needs_11 : decode yA_needs.2.1 11 = .ok (.bipush 99, 2) := by decide +kernel
theorem dA_needs_13 : decode yA_needs.2.1 13 = .ok (.invokestatic 61, 3) := by decide +kernel
theorem dA_needs_16 : decode yA_needs.2.1 16 = .ok (.ifCond .eq 6, 3) := by decide +kernel
theorem dA_needs_19 : decode yA_needs.2.1 19 = .ok (.ldc 65, 2) := by decide +kernel
theorem dA_needs_21 : decode yA_needs.2.1 21 = .ok (.ireturn, 1) := by decide +kernel
theorem dA_needs_22 : decode yA_needs.2.1 22 = .ok (.aload_n 0, 1) := by decide +kernel
theorem dA_needs_23 : decode yA_needs.2.1 23 = .ok (.getfield 10, 3) := by decide +kernel
theorem dA_needs_26 : decode yA_needs.2.1 26 = .ok (.getfield 126, 3) := by decide +kernel
theorem dA_needs_29 : decode yA_needs.2.1 29 = .ok (.iload_n 1, 1) := by decide +kernel
theorem dA_needs_30 : decode yA_needs.2.1 30 = .ok (.iaload, 1) := by decide +kernel
theorem dA_needs_31 : decode yA_needs.2.1 31 = .ok (.istore_n 3, 1) := by decide +kernel
theorem dA_needs_32 : decode yA_needs.2.1 32 = .ok (.aload_n 0, 1) := by decide +kernel
theorem dA_needs_33 : decode yA_needs.2.1 33 = .ok (.getfield 10, 3) := by decide +kernel
theorem dA_needs_36 : decode yA_needs.2.1 36 = .ok (.getfield 126, 3) := by decide +kernel
theorem dA_needs_39 : decode yA_needs.2.1 39 = .ok (.iload_n 1, 1) := by decide +kernel
theorem dA_needs_40 : decode yA_needs.2.1 40 = .ok (.iload_n 2, 1) := by decide +kernel
theorem dA_needs_41 : decode yA_needs.2.1 41 = .ok (.iastore, 1) := by decide +kernel
theorem dA_needs_42 : decode yA_needs.2.1 42 = .ok (.iload_n 3, 1) := by decide +kernel
theorem dA_needs_43 : decode yA_needs.2.1 43 = .ok (.ireturn, 1) := by decide +kernel
theorem dA_yardOf_0 : decode yA_yardOf.2.1 0 = .ok (.iload_n 1, 1) := by decide +kernel
theorem dA_yardOf_1 : decode yA_yardOf.2.1 1 = .ok (.iconst 0, 1) := by decide +kernel
theorem dA_yardOf_2 : decode yA_yardOf.2.1 2 = .ok (.iconst 5, 1) := by decide +kernel
theorem dA_yardOf_3 : decode yA_yardOf.2.1 3 = .ok (.invokestatic 61, 3) := by decide +kernel
theorem dA_yardOf_6 : decode yA_yardOf.2.1 6 = .ok (.ifCond .eq 6, 3) := by decide +kernel
theorem dA_yardOf_9 : decode yA_yardOf.2.1 9 = .ok (.ldc 65, 2) := by decide +kernel
theorem dA_yardOf_11 : decode yA_yardOf.2.1 11 = .ok (.ireturn, 1) := by decide +kernel
theorem dA_yardOf_12 : decode yA_yardOf.2.1 12 = .ok (.iload_n 2, 1) := by decide +kernel
theorem dA_yardOf_13 : decode yA_yardOf.2.1 13 = .ok (.tableswitch 96 0 4 #[35, 45, 61, 70, 79], 35) := by decide +kernel
theorem dA_yardOf_48 : decode yA_yardOf.2.1 48 = .ok (.aload_n 0, 1) := by decide +kernel
theorem dA_yardOf_49 : decode yA_yardOf.2.1 49 = .ok (.getfield 10, 3) := by decide +kernel
theorem dA_yardOf_52 : decode yA_yardOf.2.1 52 = .ok (.getfield 126, 3) := by decide +kernel
theorem dA_yardOf_55 : decode yA_yardOf.2.1 55 = .ok (.iload_n 1, 1) := by decide +kernel
theorem dA_yardOf_56 : decode yA_yardOf.2.1 56 = .ok (.iaload, 1) := by decide +kernel
theorem dA_yardOf_57 : decode yA_yardOf.2.1 57 = .ok (.ireturn, 1) := by decide +kernel
theorem dA_yardOf_58 : decode yA_yardOf.2.1 58 = .ok (.aload_n 0, 1) := by decide +kernel
theorem dA_yardOf_59 : decode yA_yardOf.2.1 59 = .ok (.getfield 10, 3) := by decide +kernel
theorem dA_yardOf_62 : decode yA_yardOf.2.1 62 = .ok (.aload_n 0, 1) := by decide +kernel
theorem dA_yardOf_63 : decode yA_yardOf.2.1 63 = .ok (.getfield 10, 3) := by decide +kernel
theorem dA_yardOf_66 : decode yA_yardOf.2.1 66 = .ok (.iload_n 1, 1) := by decide +kernel
theorem dA_yardOf_67 : decode yA_yardOf.2.1 67 = .ok (.invokevirtual 129, 3) := by decide +kernel
theorem dA_yardOf_70 : decode yA_yardOf.2.1 70 = .ok (.invokevirtual 132, 3) := by decide +kernel
theorem dA_yardOf_73 : decode yA_yardOf.2.1 73 = .ok (.ireturn, 1) := by decide +kernel
theorem dA_yardOf_74 : decode yA_yardOf.2.1 74 = .ok (.aload_n 0, 1) := by decide +kernel
theorem dA_yardOf_75 : decode yA_yardOf.2.1 75 = .ok (.getfield 10, 3) := by decide +kernel
theorem dA_yardOf_78 : decode yA_yardOf.2.1 78 = .ok (.iload_n 1, 1) := by decide +kernel
theorem dA_yardOf_79 : decode yA_yardOf.2.1 79 = .ok (.invokevirtual 135, 3) := by decide +kernel
theorem dA_yardOf_82 : decode yA_yardOf.2.1 82 = .ok (.ireturn, 1) := by decide +kernel
theorem dA_yardOf_83 : decode yA_yardOf.2.1 83 = .ok (.aload_n 0, 1) := by decide +kernel
theorem dA_yardOf_84 : decode yA_yardOf.2.1 84 = .ok (.getfield 10, 3) := by decide +kernel
theorem dA_yardOf_87 : decode yA_yardOf.2.1 87 = .ok (.iload_n 1, 1) := by decide +kernel
theorem dA_yardOf_88 : decode yA_yardOf.2.1 88 = .ok (.invokevirtual 129, 3) := by decide +kernel
theorem dA_yardOf_91 : decode yA_yardOf.2.1 91 = .ok (.ireturn, 1) := by decide +kernel
theorem dA_yardOf_92 : decode yA_yardOf.2.1 92 = .ok (.aload_n 0, 1) := by decide +kernel
theorem dA_yardOf_93 : decode yA_yardOf.2.1 93 = .ok (.getfield 10, 3) := by decide +kernel
theorem dA_yardOf_96 : decode yA_yardOf.2.1 96 = .ok (.iload_n 1, 1) := by decide +kernel
theorem dA_yardOf_97 : decode yA_yardOf.2.1 97 = .ok (.invokevirtual 138, 3) := by decide +kernel
theorem dA_yardOf_100 : decode yA_yardOf.2.1 100 = .ok (.ifCond .eq 7, 3) := by decide +kernel
theorem dA_yardOf_103 : decode yA_yardOf.2.1 103 = .ok (.iconst 1, 1) := by decide +kernel
theorem dA_yardOf_104 : decode yA_yardOf.2.1 104 = .ok (.goto 4, 3) := by decide +kernel
theorem dA_yardOf_107 : decode yA_yardOf.2.1 107 = .ok (.iconst 0, 1) := by decide +kernel
theorem dA_yardOf_108 : decode yA_yardOf.2.1 108 = .ok (.ireturn, 1) := by decide +kernel
theorem dA_yardOf_109 : decode yA_yardOf.2.1 109 = .ok (.ldc 65, 2) := by decide +kernel
theorem dA_yardOf_111 : decode yA_yardOf.2.1 111 = .ok (.ireturn, 1) := by decide +kernel
theorem dA_rule_0 : decode yA_rule.2.1 0 = .ok (.iload_n 1, 1) := by decide +kernel
theorem dA_rule_1 : decode yA_rule.2.1 1 = .ok (.ifCond .ne 32, 3) := by decide +kernel
theorem dA_rule_4 : decode yA_rule.2.1 4 = .ok (.iload_n 2, 1) := by decide +kernel
theorem dA_rule_5 : decode yA_rule.2.1 5 = .ok (.iconst 0, 1) := by decide +kernel
theorem dA_rule_6 : decode yA_rule.2.1 6 = .ok (.bipush 99, 2) := by decide +kernel
theorem dA_rule_8 : decode yA_rule.2.1 8 = .ok (.invokestatic 61, 3) := by decide +kernel
theorem dA_rule_11 : decode yA_rule.2.1 11 = .ok (.ifCond .ne 22, 3) := by decide +kernel
theorem dA_rule_14 : decode yA_rule.2.1 14 = .ok (.aload_n 0, 1) := by decide +kernel
theorem dA_rule_15 : decode yA_rule.2.1 15 = .ok (.getfield 10, 3) := by decide +kernel
theorem dA_rule_18 : decode yA_rule.2.1 18 = .ok (.getfield 141, 3) := by decide +kernel
theorem dA_rule_21 : decode yA_rule.2.1 21 = .ok (.istore_n 3, 1) := by decide +kernel
theorem dA_rule_22 : decode yA_rule.2.1 22 = .ok (.aload_n 0, 1) := by decide +kernel
theorem dA_rule_23 : decode yA_rule.2.1 23 = .ok (.getfield 10, 3) := by decide +kernel
theorem dA_rule_26 : decode yA_rule.2.1 26 = .ok (.iload_n 2, 1) := by decide +kernel
theorem dA_rule_27 : decode yA_rule.2.1 27 = .ok (.putfield 141, 3) := by decide +kernel
theorem dA_rule_30 : decode yA_rule.2.1 30 = .ok (.goto 40, 3) := by decide +kernel
theorem dA_rule_33 : decode yA_rule.2.1 33 = .ok (.iload_n 1, 1) := by decide +kernel
theorem dA_rule_34 : decode yA_rule.2.1 34 = .ok (.iconst 1, 1) := by decide +kernel
theorem dA_rule_35 : decode yA_rule.2.1 35 = .ok (.if_icmp .ne 32, 3) := by decide +kernel
theorem dA_rule_38 : decode yA_rule.2.1 38 = .ok (.iload_n 2, 1) := by decide +kernel
theorem dA_rule_39 : decode yA_rule.2.1 39 = .ok (.iconst 0, 1) := by decide +kernel
theorem dA_rule_40 : decode yA_rule.2.1 40 = .ok (.bipush 100, 2) := by decide +kernel
theorem dA_rule_42 : decode yA_rule.2.1 42 = .ok (.invokestatic 61, 3) := by decide +kernel
theorem dA_rule_45 : decode yA_rule.2.1 45 = .ok (.ifCond .ne 22, 3) := by decide +kernel
theorem dA_rule_48 : decode yA_rule.2.1 48 = .ok (.aload_n 0, 1) := by decide +kernel
theorem dA_rule_49 : decode yA_rule.2.1 49 = .ok (.getfield 10, 3) := by decide +kernel
theorem dA_rule_52 : decode yA_rule.2.1 52 = .ok (.getfield 144, 3) := by decide +kernel
theorem dA_rule_55 : decode yA_rule.2.1 55 = .ok (.istore_n 3, 1) := by decide +kernel
theorem dA_rule_56 : decode yA_rule.2.1 56 = .ok (.aload_n 0, 1) := by decide +kernel
theorem dA_rule_57 : decode yA_rule.2.1 57 = .ok (.getfield 10, 3) := by decide +kernel
theorem dA_rule_60 : decode yA_rule.2.1 60 = .ok (.iload_n 2, 1) := by decide +kernel
theorem dA_rule_61 : decode yA_rule.2.1 61 = .ok (.putfield 144, 3) := by decide +kernel
theorem dA_rule_64 : decode yA_rule.2.1 64 = .ok (.goto 6, 3) := by decide +kernel
theorem dA_rule_67 : decode yA_rule.2.1 67 = .ok (.ldc 65, 2) := by decide +kernel
theorem dA_rule_69 : decode yA_rule.2.1 69 = .ok (.istore_n 3, 1) := by decide +kernel
theorem dA_rule_70 : decode yA_rule.2.1 70 = .ok (.iload_n 3, 1) := by decide +kernel
theorem dA_rule_71 : decode yA_rule.2.1 71 = .ok (.ireturn, 1) := by decide +kernel
theorem dA_deal_0 : decode yA_deal.2.1 0 = .ok (.iload_n 1, 1) := by decide +kernel
theorem dA_deal_1 : decode yA_deal.2.1 1 = .ok (.iconst 1, 1) := by decide +kernel
theorem dA_deal_2 : decode yA_deal.2.1 2 = .ok (.bipush 10, 2) := by decide +kernel
theorem dA_deal_4 : decode yA_deal.2.1 4 = .ok (.invokestatic 61, 3) := by decide +kernel
theorem dA_deal_7 : decode yA_deal.2.1 7 = .ok (.ifCond .eq 6, 3) := by decide +kernel
theorem dA_deal_10 : decode yA_deal.2.1 10 = .ok (.ldc 65, 2) := by decide +kernel
theorem dA_deal_12 : decode yA_deal.2.1 12 = .ok (.ireturn, 1) := by decide +kernel
theorem dA_deal_13 : decode yA_deal.2.1 13 = .ok (.iload_n 1, 1) := by decide +kernel
theorem dA_deal_14 : decode yA_deal.2.1 14 = .ok (.bipush 10, 2) := by decide +kernel
theorem dA_deal_16 : decode yA_deal.2.1 16 = .ok (.aload_n 0, 1) := by decide +kernel
theorem dA_deal_17 : decode yA_deal.2.1 17 = .ok (.getfield 10, 3) := by decide +kernel
theorem dA_deal_20 : decode yA_deal.2.1 20 = .ok (.getfield 70, 3) := by decide +kernel
theorem dA_deal_23 : decode yA_deal.2.1 23 = .ok (.isub, 1) := by decide +kernel
theorem dA_deal_24 : decode yA_deal.2.1 24 = .ok (.invokestatic 147, 3) := by decide +kernel
theorem dA_deal_27 : decode yA_deal.2.1 27 = .ok (.istore_n 2, 1) := by decide +kernel
theorem dA_deal_28 : decode yA_deal.2.1 28 = .ok (.iconst 0, 1) := by decide +kernel
theorem dA_deal_29 : decode yA_deal.2.1 29 = .ok (.istore_n 3, 1) := by decide +kernel
theorem dA_deal_30 : decode yA_deal.2.1 30 = .ok (.iload_n 3, 1) := by decide +kernel
theorem dA_deal_31 : decode yA_deal.2.1 31 = .ok (.iload_n 2, 1) := by decide +kernel
theorem dA_deal_32 : decode yA_deal.2.1 32 = .ok (.if_icmp .ge 16, 3) := by decide +kernel
theorem dA_deal_35 : decode yA_deal.2.1 35 = .ok (.aload_n 0, 1) := by decide +kernel
theorem dA_deal_36 : decode yA_deal.2.1 36 = .ok (.getfield 10, 3) := by decide +kernel
theorem dA_deal_39 : decode yA_deal.2.1 39 = .ok (.invokevirtual 153, 3) := by decide +kernel
theorem dA_deal_42 : decode yA_deal.2.1 42 = .ok (.iinc 3 1, 3) := by decide +kernel
theorem dA_deal_45 : decode yA_deal.2.1 45 = .ok (.goto (-15), 3) := by decide +kernel
theorem dA_deal_48 : decode yA_deal.2.1 48 = .ok (.iload_n 2, 1) := by decide +kernel
theorem dA_deal_49 : decode yA_deal.2.1 49 = .ok (.ireturn, 1) := by decide +kernel
theorem dA_seed_0 : decode yA_seed.2.1 0 = .ok (.aload_n 0, 1) := by decide +kernel
theorem dA_seed_1 : decode yA_seed.2.1 1 = .ok (.getfield 10, 3) := by decide +kernel
theorem dA_seed_4 : decode yA_seed.2.1 4 = .ok (.getfield 156, 3) := by decide +kernel
theorem dA_seed_7 : decode yA_seed.2.1 7 = .ok (.istore_n 2, 1) := by decide +kernel
theorem dA_seed_8 : decode yA_seed.2.1 8 = .ok (.aload_n 0, 1) := by decide +kernel
theorem dA_seed_9 : decode yA_seed.2.1 9 = .ok (.getfield 10, 3) := by decide +kernel
theorem dA_seed_12 : decode yA_seed.2.1 12 = .ok (.iload_n 1, 1) := by decide +kernel
theorem dA_seed_13 : decode yA_seed.2.1 13 = .ok (.putfield 156, 3) := by decide +kernel
theorem dA_seed_16 : decode yA_seed.2.1 16 = .ok (.iload_n 2, 1) := by decide +kernel
theorem dA_seed_17 : decode yA_seed.2.1 17 = .ok (.ireturn, 1) := by decide +kernel
theorem dA_drive_0 : decode yA_drive.2.1 0 = .ok (.iload_n 1, 1) := by decide +kernel
theorem dA_drive_1 : decode yA_drive.2.1 1 = .ok (.iconst 0, 1) := by decide +kernel
theorem dA_drive_2 : decode yA_drive.2.1 2 = .ok (.iconst 5, 1) := by decide +kernel
theorem dA_drive_3 : decode yA_drive.2.1 3 = .ok (.invokestatic 61, 3) := by decide +kernel
theorem dA_drive_6 : decode yA_drive.2.1 6 = .ok (.ifCond .ne 12, 3) := by decide +kernel
theorem dA_drive_9 : decode yA_drive.2.1 9 = .ok (.iload_n 2, 1) := by decide +kernel
theorem dA_drive_10 : decode yA_drive.2.1 10 = .ok (.iconst 0, 1) := by decide +kernel
theorem dA_drive_11 : decode yA_drive.2.1 11 = .ok (.iconst 1, 1) := by decide +kernel
theorem dA_drive_12 : decode yA_drive.2.1 12 = .ok (.invokestatic 61, 3) := by decide +kernel
theorem dA_drive_15 : decode yA_drive.2.1 15 = .ok (.ifCond .eq 6, 3) := by decide +kernel
theorem dA_drive_18 : decode yA_drive.2.1 18 = .ok (.ldc 65, 2) := by decide +kernel
theorem dA_drive_20 : decode yA_drive.2.1 20 = .ok (.ireturn, 1) := by decide +kernel
theorem dA_drive_21 : decode yA_drive.2.1 21 = .ok (.aload_n 0, 1) := by decide +kernel
theorem dA_drive_22 : decode yA_drive.2.1 22 = .ok (.getfield 10, 3) := by decide +kernel
theorem dA_drive_25 : decode yA_drive.2.1 25 = .ok (.iload_n 1, 1) := by decide +kernel
theorem dA_drive_26 : decode yA_drive.2.1 26 = .ok (.invokevirtual 159, 3) := by decide +kernel
theorem dA_drive_29 : decode yA_drive.2.1 29 = .ok (.istore_n 3, 1) := by decide +kernel
theorem dA_drive_30 : decode yA_drive.2.1 30 = .ok (.iload_n 3, 1) := by decide +kernel
theorem dA_drive_31 : decode yA_drive.2.1 31 = .ok (.ldc 162, 2) := by decide +kernel
theorem dA_drive_33 : decode yA_drive.2.1 33 = .ok (.if_icmp .eq 7, 3) := by decide +kernel
theorem dA_drive_36 : decode yA_drive.2.1 36 = .ok (.iload_n 2, 1) := by decide +kernel
theorem dA_drive_37 : decode yA_drive.2.1 37 = .ok (.ifCond .ne 7, 3) := by decide +kernel
theorem dA_drive_40 : decode yA_drive.2.1 40 = .ok (.iload_n 3, 1) := by decide +kernel
theorem dA_drive_41 : decode yA_drive.2.1 41 = .ok (.goto 7, 3) := by decide +kernel
theorem dA_drive_44 : decode yA_drive.2.1 44 = .ok (.iload_n 3, 1) := by decide +kernel
theorem dA_drive_45 : decode yA_drive.2.1 45 = .ok (.invokestatic 163, 3) := by decide +kernel
theorem dA_drive_48 : decode yA_drive.2.1 48 = .ok (.ireturn, 1) := by decide +kernel
theorem dA_strike_0 : decode yA_strike.2.1 0 = .ok (.iload_n 1, 1) := by decide +kernel
theorem dA_strike_1 : decode yA_strike.2.1 1 = .ok (.iconst 0, 1) := by decide +kernel
theorem dA_strike_2 : decode yA_strike.2.1 2 = .ok (.iconst 5, 1) := by decide +kernel
theorem dA_strike_3 : decode yA_strike.2.1 3 = .ok (.invokestatic 61, 3) := by decide +kernel
theorem dA_strike_6 : decode yA_strike.2.1 6 = .ok (.ifCond .eq 8, 3) := by decide +kernel
theorem dA_strike_9 : decode yA_strike.2.1 9 = .ok (.ldc 65, 2) := by decide +kernel
theorem dA_strike_11 : decode yA_strike.2.1 11 = .ok (.goto 11, 3) := by decide +kernel
theorem dA_strike_14 : decode yA_strike.2.1 14 = .ok (.aload_n 0, 1) := by decide +kernel
theorem dA_strike_15 : decode yA_strike.2.1 15 = .ok (.getfield 10, 3) := by decide +kernel
theorem dA_strike_18 : decode yA_strike.2.1 18 = .ok (.iload_n 1, 1) := by decide +kernel
theorem dA_strike_19 : decode yA_strike.2.1 19 = .ok (.invokevirtual 168, 3) := by decide +kernel
theorem dA_strike_22 : decode yA_strike.2.1 22 = .ok (.ireturn, 1) := by decide +kernel
theorem dA_days_0 : decode yA_days.2.1 0 = .ok (.iload_n 1, 1) := by decide +kernel
theorem dA_days_1 : decode yA_days.2.1 1 = .ok (.iconst 1, 1) := by decide +kernel
theorem dA_days_2 : decode yA_days.2.1 2 = .ok (.bipush 100, 2) := by decide +kernel
theorem dA_days_4 : decode yA_days.2.1 4 = .ok (.invokestatic 61, 3) := by decide +kernel
theorem dA_days_7 : decode yA_days.2.1 7 = .ok (.ifCond .eq 6, 3) := by decide +kernel
theorem dA_days_10 : decode yA_days.2.1 10 = .ok (.ldc 65, 2) := by decide +kernel
theorem dA_days_12 : decode yA_days.2.1 12 = .ok (.ireturn, 1) := by decide +kernel
theorem dA_days_13 : decode yA_days.2.1 13 = .ok (.aload_n 0, 1) := by decide +kernel
theorem dA_days_14 : decode yA_days.2.1 14 = .ok (.getfield 10, 3) := by decide +kernel
theorem dA_days_17 : decode yA_days.2.1 17 = .ok (.getfield 171, 3) := by decide +kernel
theorem dA_days_20 : decode yA_days.2.1 20 = .ok (.istore_n 2, 1) := by decide +kernel
theorem dA_days_21 : decode yA_days.2.1 21 = .ok (.aload_n 0, 1) := by decide +kernel
theorem dA_days_22 : decode yA_days.2.1 22 = .ok (.getfield 10, 3) := by decide +kernel
theorem dA_days_25 : decode yA_days.2.1 25 = .ok (.iload_n 1, 1) := by decide +kernel
theorem dA_days_26 : decode yA_days.2.1 26 = .ok (.sipush 9999, 3) := by decide +kernel
theorem dA_days_29 : decode yA_days.2.1 29 = .ok (.aload_n 0, 1) := by decide +kernel
theorem dA_days_30 : decode yA_days.2.1 30 = .ok (.getfield 10, 3) := by decide +kernel
theorem dA_days_33 : decode yA_days.2.1 33 = .ok (.getfield 174, 3) := by decide +kernel
theorem dA_days_36 : decode yA_days.2.1 36 = .ok (.isub, 1) := by decide +kernel
theorem dA_days_37 : decode yA_days.2.1 37 = .ok (.invokestatic 147, 3) := by decide +kernel
theorem dA_days_40 : decode yA_days.2.1 40 = .ok (.invokevirtual 177, 3) := by decide +kernel
theorem dA_days_43 : decode yA_days.2.1 43 = .ok (.aload_n 0, 1) := by decide +kernel
theorem dA_days_44 : decode yA_days.2.1 44 = .ok (.getfield 10, 3) := by decide +kernel
theorem dA_days_47 : decode yA_days.2.1 47 = .ok (.getfield 171, 3) := by decide +kernel
theorem dA_days_50 : decode yA_days.2.1 50 = .ok (.iload_n 2, 1) := by decide +kernel
theorem dA_days_51 : decode yA_days.2.1 51 = .ok (.isub, 1) := by decide +kernel
theorem dA_days_52 : decode yA_days.2.1 52 = .ok (.ireturn, 1) := by decide +kernel
theorem dA_county_0 : decode yA_county.2.1 0 = .ok (.iload_n 1, 1) := by decide +kernel
theorem dA_county_1 : decode yA_county.2.1 1 = .ok (.lookupswitch 43 #[(5, 27), (6, 35)], 27) := by decide +kernel
theorem dA_county_28 : decode yA_county.2.1 28 = .ok (.aload_n 0, 1) := by decide +kernel
theorem dA_county_29 : decode yA_county.2.1 29 = .ok (.getfield 10, 3) := by decide +kernel
theorem dA_county_32 : decode yA_county.2.1 32 = .ok (.invokevirtual 181, 3) := by decide +kernel
theorem dA_county_35 : decode yA_county.2.1 35 = .ok (.ireturn, 1) := by decide +kernel
theorem dA_county_36 : decode yA_county.2.1 36 = .ok (.aload_n 0, 1) := by decide +kernel
theorem dA_county_37 : decode yA_county.2.1 37 = .ok (.getfield 10, 3) := by decide +kernel
theorem dA_county_40 : decode yA_county.2.1 40 = .ok (.invokevirtual 184, 3) := by decide +kernel
theorem dA_county_43 : decode yA_county.2.1 43 = .ok (.ireturn, 1) := by decide +kernel
theorem dA_county_44 : decode yA_county.2.1 44 = .ok (.aload_n 0, 1) := by decide +kernel
theorem dA_county_45 : decode yA_county.2.1 45 = .ok (.getfield 10, 3) := by decide +kernel
theorem dA_county_48 : decode yA_county.2.1 48 = .ok (.iload_n 1, 1) := by decide +kernel
theorem dA_county_49 : decode yA_county.2.1 49 = .ok (.invokestatic 187, 3) := by decide +kernel
theorem dA_county_52 : decode yA_county.2.1 52 = .ok (.ireturn, 1) := by decide +kernel
theorem dA_figure_0 : decode yA_figure.2.1 0 = .ok (.iload_n 1, 1) := by decide +kernel
theorem dA_figure_1 : decode yA_figure.2.1 1 = .ok (.tableswitch 60 0 4 #[35, 40, 45, 50, 55], 35) := by decide +kernel
theorem dA_figure_36 : decode yA_figure.2.1 36 = .ok (.aload_n 0, 1) := by decide +kernel
theorem dA_figure_37 : decode yA_figure.2.1 37 = .ok (.getfield 171, 3) := by decide +kernel
theorem dA_figure_40 : decode yA_figure.2.1 40 = .ok (.ireturn, 1) := by decide +kernel
theorem dA_figure_41 : decode yA_figure.2.1 41 = .ok (.aload_n 0, 1) := by decide +kernel
theorem dA_figure_42 : decode yA_figure.2.1 42 = .ok (.getfield 191, 3) := by decide +kernel
theorem dA_figure_45 : decode yA_figure.2.1 45 = .ok (.ireturn, 1) := by decide +kernel
theorem dA_figure_46 : decode yA_figure.2.1 46 = .ok (.aload_n 0, 1) := by decide +kernel
theorem dA_figure_47 : decode yA_figure.2.1 47 = .ok (.getfield 194, 3) := by decide +kernel
theorem dA_figure_50 : decode yA_figure.2.1 50 = .ok (.ireturn, 1) := by decide +kernel
theorem dA_figure_51 : decode yA_figure.2.1 51 = .ok (.aload_n 0, 1) := by decide +kernel
theorem dA_figure_52 : decode yA_figure.2.1 52 = .ok (.invokevirtual 197, 3) := by decide +kernel
theorem dA_figure_55 : decode yA_figure.2.1 55 = .ok (.ireturn, 1) := by decide +kernel
theorem dA_figure_56 : decode yA_figure.2.1 56 = .ok (.aload_n 0, 1) := by decide +kernel
theorem dA_figure_57 : decode yA_figure.2.1 57 = .ok (.invokevirtual 200, 3) := by decide +kernel
theorem dA_figure_60 : decode yA_figure.2.1 60 = .ok (.ireturn, 1) := by decide +kernel
theorem dA_figure_61 : decode yA_figure.2.1 61 = .ok (.ldc 65, 2) := by decide +kernel
theorem dA_figure_63 : decode yA_figure.2.1 63 = .ok (.ireturn, 1) := by decide +kernel
theorem dA_behind_0 : decode yA_behind.2.1 0 = .ok (.iload_n 1, 1) := by decide +kernel
theorem dA_behind_1 : decode yA_behind.2.1 1 = .ok (.iconst 0, 1) := by decide +kernel
theorem dA_behind_2 : decode yA_behind.2.1 2 = .ok (.bipush 100, 2) := by decide +kernel
theorem dA_behind_4 : decode yA_behind.2.1 4 = .ok (.invokestatic 61, 3) := by decide +kernel
theorem dA_behind_7 : decode yA_behind.2.1 7 = .ok (.ifCond .ne 20, 3) := by decide +kernel
theorem dA_behind_10 : decode yA_behind.2.1 10 = .ok (.iload_n 2, 1) := by decide +kernel
theorem dA_behind_11 : decode yA_behind.2.1 11 = .ok (.iconst 0, 1) := by decide +kernel
theorem dA_behind_12 : decode yA_behind.2.1 12 = .ok (.iconst 4, 1) := by decide +kernel
theorem dA_behind_13 : decode yA_behind.2.1 13 = .ok (.aload_n 0, 1) := by decide +kernel
theorem dA_behind_14 : decode yA_behind.2.1 14 = .ok (.getfield 10, 3) := by decide +kernel
theorem dA_behind_17 : decode yA_behind.2.1 17 = .ok (.getfield 70, 3) := by decide +kernel
theorem dA_behind_20 : decode yA_behind.2.1 20 = .ok (.iadd, 1) := by decide +kernel
theorem dA_behind_21 : decode yA_behind.2.1 21 = .ok (.invokestatic 61, 3) := by decide +kernel
theorem dA_behind_24 : decode yA_behind.2.1 24 = .ok (.ifCond .eq 6, 3) := by decide +kernel
theorem dA_behind_27 : decode yA_behind.2.1 27 = .ok (.ldc 65, 2) := by decide +kernel
theorem dA_behind_29 : decode yA_behind.2.1 29 = .ok (.ireturn, 1) := by decide +kernel
theorem dA_behind_30 : decode yA_behind.2.1 30 = .ok (.aload_n 0, 1) := by decide +kernel
theorem dA_behind_31 : decode yA_behind.2.1 31 = .ok (.getfield 19, 3) := by decide +kernel
theorem dA_behind_34 : decode yA_behind.2.1 34 = .ok (.aload_n 0, 1) := by decide +kernel
theorem dA_behind_35 : decode yA_behind.2.1 35 = .ok (.getfield 10, 3) := by decide +kernel
theorem dA_behind_38 : decode yA_behind.2.1 38 = .ok (.invokevirtual 203, 3) := by decide +kernel
theorem dA_behind_41 : decode yA_behind.2.1 41 = .ok (.aload_n 0, 1) := by decide +kernel
theorem dA_behind_42 : decode yA_behind.2.1 42 = .ok (.getfield 19, 3) := by decide +kernel
theorem dA_behind_45 : decode yA_behind.2.1 45 = .ok (.iload_n 1, 1) := by decide +kernel
theorem dA_behind_46 : decode yA_behind.2.1 46 = .ok (.invokevirtual 177, 3) := by decide +kernel
theorem dA_behind_49 : decode yA_behind.2.1 49 = .ok (.iload_n 2, 1) := by decide +kernel
theorem dA_behind_50 : decode yA_behind.2.1 50 = .ok (.iconst 5, 1) := by decide +kernel
theorem dA_behind_51 : decode yA_behind.2.1 51 = .ok (.isub, 1) := by decide +kernel
theorem dA_behind_52 : decode yA_behind.2.1 52 = .ok (.istore_n 3, 1) := by decide +kernel
theorem dA_behind_53 : decode yA_behind.2.1 53 = .ok (.aload_n 0, 1) := by decide +kernel
theorem dA_behind_54 : decode yA_behind.2.1 54 = .ok (.getfield 19, 3) := by decide +kernel
theorem dA_behind_57 : decode yA_behind.2.1 57 = .ok (.iload_n 3, 1) := by decide +kernel
theorem dA_behind_58 : decode yA_behind.2.1 58 = .ok (.invokevirtual 74, 3) := by decide +kernel
theorem dA_behind_61 : decode yA_behind.2.1 61 = .ok (.ifCond .eq 18, 3) := by decide +kernel
theorem dA_behind_64 : decode yA_behind.2.1 64 = .ok (.aload_n 0, 1) := by decide +kernel
theorem dA_behind_65 : decode yA_behind.2.1 65 = .ok (.getfield 19, 3) := by decide +kernel
theorem dA_behind_68 : decode yA_behind.2.1 68 = .ok (.getfield 78, 3) := by decide +kernel
theorem dA_behind_71 : decode yA_behind.2.1 71 = .ok (.iload_n 3, 1) := by decide +kernel
theorem dA_behind_72 : decode yA_behind.2.1 72 = .ok (.aaload, 1) := by decide +kernel
theorem dA_behind_73 : decode yA_behind.2.1 73 = .ok (.getfield 207, 3) := by decide +kernel
theorem dA_behind_76 : decode yA_behind.2.1 76 = .ok (.goto 11, 3) := by decide +kernel
theorem dA_behind_79 : decode yA_behind.2.1 79 = .ok (.aload_n 0, 1) := by decide +kernel
theorem dA_behind_80 : decode yA_behind.2.1 80 = .ok (.getfield 19, 3) := by decide +kernel
theorem dA_behind_83 : decode yA_behind.2.1 83 = .ok (.iload_n 2, 1) := by decide +kernel
theorem dA_behind_84 : decode yA_behind.2.1 84 = .ok (.invokestatic 187, 3) := by decide +kernel
theorem dA_behind_87 : decode yA_behind.2.1 87 = .ok (.ireturn, 1) := by decide +kernel
theorem dA_holds_0 : decode yA_holds.2.1 0 = .ok (.iload_n 1, 1) := by decide +kernel
theorem dA_holds_1 : decode yA_holds.2.1 1 = .ok (.iconst 0, 1) := by decide +kernel
theorem dA_holds_2 : decode yA_holds.2.1 2 = .ok (.iconst 5, 1) := by decide +kernel
theorem dA_holds_3 : decode yA_holds.2.1 3 = .ok (.invokestatic 61, 3) := by decide +kernel
theorem dA_holds_6 : decode yA_holds.2.1 6 = .ok (.ifCond .eq 6, 3) := by decide +kernel
theorem dA_holds_9 : decode yA_holds.2.1 9 = .ok (.ldc 65, 2) := by decide +kernel
theorem dA_holds_11 : decode yA_holds.2.1 11 = .ok (.ireturn, 1) := by decide +kernel
theorem dA_holds_12 : decode yA_holds.2.1 12 = .ok (.aload_n 0, 1) := by decide +kernel
theorem dA_holds_13 : decode yA_holds.2.1 13 = .ok (.getfield 19, 3) := by decide +kernel
theorem dA_holds_16 : decode yA_holds.2.1 16 = .ok (.aload_n 0, 1) := by decide +kernel
theorem dA_holds_17 : decode yA_holds.2.1 17 = .ok (.getfield 10, 3) := by decide +kernel
theorem dA_holds_20 : decode yA_holds.2.1 20 = .ok (.invokevirtual 203, 3) := by decide +kernel
theorem dA_holds_23 : decode yA_holds.2.1 23 = .ok (.iconst 0, 1) := by decide +kernel
theorem dA_holds_24 : decode yA_holds.2.1 24 = .ok (.istore_n 2, 1) := by decide +kernel
theorem dA_holds_25 : decode yA_holds.2.1 25 = .ok (.iload_n 2, 1) := by decide +kernel
theorem dA_holds_26 : decode yA_holds.2.1 26 = .ok (.sipush 200, 3) := by decide +kernel
theorem dA_holds_29 : decode yA_holds.2.1 29 = .ok (.if_icmp .gt 30, 3) := by decide +kernel
theorem dA_holds_32 : decode yA_holds.2.1 32 = .ok (.aload_n 0, 1) := by decide +kernel
theorem dA_holds_33 : decode yA_holds.2.1 33 = .ok (.getfield 19, 3) := by decide +kernel
theorem dA_holds_36 : decode yA_holds.2.1 36 = .ok (.iload_n 1, 1) := by decide +kernel
theorem dA_holds_37 : decode yA_holds.2.1 37 = .ok (.invokevirtual 138, 3) := by decide +kernel
theorem dA_holds_40 : decode yA_holds.2.1 40 = .ok (.ifCond .eq 5, 3) := by decide +kernel
theorem dA_holds_43 : decode yA_holds.2.1 43 = .ok (.iload_n 2, 1) := by decide +kernel
theorem dA_holds_44 : decode yA_holds.2.1 44 = .ok (.ireturn, 1) := by decide +kernel
theorem dA_holds_45 : decode yA_holds.2.1 45 = .ok (.aload_n 0, 1) := by decide +kernel
theorem dA_holds_46 : decode yA_holds.2.1 46 = .ok (.getfield 19, 3) := by decide +kernel
theorem dA_holds_49 : decode yA_holds.2.1 49 = .ok (.iconst 1, 1) := by decide +kernel
theorem dA_holds_50 : decode yA_holds.2.1 50 = .ok (.invokevirtual 177, 3) := by decide +kernel
theorem dA_holds_53 : decode yA_holds.2.1 53 = .ok (.iinc 2 1, 3) := by decide +kernel
theorem dA_holds_56 : decode yA_holds.2.1 56 = .ok (.goto (-31), 3) := by decide +kernel
theorem dA_holds_59 : decode yA_holds.2.1 59 = .ok (.ldc 162, 2) := by decide +kernel
theorem dA_holds_61 : decode yA_holds.2.1 61 = .ok (.ireturn, 1) := by decide +kernel
theorem dA_meets_0 : decode yA_meets.2.1 0 = .ok (.aload_n 0, 1) := by decide +kernel
theorem dA_meets_1 : decode yA_meets.2.1 1 = .ok (.getfield 10, 3) := by decide +kernel
theorem dA_meets_4 : decode yA_meets.2.1 4 = .ok (.iload_n 1, 1) := by decide +kernel
theorem dA_meets_5 : decode yA_meets.2.1 5 = .ok (.invokevirtual 74, 3) := by decide +kernel
theorem dA_meets_8 : decode yA_meets.2.1 8 = .ok (.ifCond .eq 19, 3) := by decide +kernel
theorem dA_meets_11 : decode yA_meets.2.1 11 = .ok (.aload_n 0, 1) := by decide +kernel
theorem dA_meets_12 : decode yA_meets.2.1 12 = .ok (.getfield 10, 3) := by decide +kernel
theorem dA_meets_15 : decode yA_meets.2.1 15 = .ok (.iload_n 2, 1) := by decide +kernel
theorem dA_meets_16 : decode yA_meets.2.1 16 = .ok (.invokevirtual 74, 3) := by decide +kernel
theorem dA_meets_19 : decode yA_meets.2.1 19 = .ok (.ifCond .eq 8, 3) := by decide +kernel
theorem dA_meets_22 : decode yA_meets.2.1 22 = .ok (.iload_n 1, 1) := by decide +kernel
theorem dA_meets_23 : decode yA_meets.2.1 23 = .ok (.iload_n 2, 1) := by decide +kernel
theorem dA_meets_24 : decode yA_meets.2.1 24 = .ok (.if_icmp .ne 6, 3) := by decide +kernel
theorem dA_meets_27 : decode yA_meets.2.1 27 = .ok (.ldc 65, 2) := by decide +kernel
theorem dA_meets_29 : decode yA_meets.2.1 29 = .ok (.ireturn, 1) := by decide +kernel
theorem dA_meets_30 : decode yA_meets.2.1 30 = .ok (.aload_n 0, 1) := by decide +kernel
theorem dA_meets_31 : decode yA_meets.2.1 31 = .ok (.getfield 19, 3) := by decide +kernel
theorem dA_meets_34 : decode yA_meets.2.1 34 = .ok (.aload_n 0, 1) := by decide +kernel
theorem dA_meets_35 : decode yA_meets.2.1 35 = .ok (.getfield 10, 3) := by decide +kernel
theorem dA_meets_38 : decode yA_meets.2.1 38 = .ok (.invokevirtual 203, 3) := by decide +kernel
theorem dA_meets_41 : decode yA_meets.2.1 41 = .ok (.iconst 0, 1) := by decide +kernel
theorem dA_meets_42 : decode yA_meets.2.1 42 = .ok (.istore_n 3, 1) := by decide +kernel
theorem dA_meets_43 : decode yA_meets.2.1 43 = .ok (.iload_n 3, 1) := by decide +kernel
theorem dA_meets_44 : decode yA_meets.2.1 44 = .ok (.sipush 200, 3) := by decide +kernel
theorem dA_meets_47 : decode yA_meets.2.1 47 = .ok (.if_icmp .gt 45, 3) := by decide +kernel
theorem dA_meets_50 : decode yA_meets.2.1 50 = .ok (.aload_n 0, 1) := by decide +kernel
theorem dA_meets_51 : decode yA_meets.2.1 51 = .ok (.getfield 19, 3) := by decide +kernel
theorem dA_meets_54 : decode yA_meets.2.1 54 = .ok (.getfield 78, 3) := by decide +kernel
theorem dA_meets_57 : decode yA_meets.2.1 57 = .ok (.iload_n 1, 1) := by decide +kernel
theorem dA_meets_58 : decode yA_meets.2.1 58 = .ok (.aaload, 1) := by decide +kernel
theorem dA_meets_59 : decode yA_meets.2.1 59 = .ok (.getfield 88, 3) := by decide +kernel
theorem dA_meets_62 : decode yA_meets.2.1 62 = .ok (.aload_n 0, 1) := by decide +kernel
theorem dA_meets_63 : decode yA_meets.2.1 63 = .ok (.getfield 19, 3) := by decide +kernel
theorem dA_meets_66 : decode yA_meets.2.1 66 = .ok (.getfield 78, 3) := by decide +kernel
theorem dA_meets_69 : decode yA_meets.2.1 69 = .ok (.iload_n 2, 1) := by decide +kernel
theorem dA_meets_70 : decode yA_meets.2.1 70 = .ok (.aaload, 1) := by decide +kernel
theorem dA_meets_71 : decode yA_meets.2.1 71 = .ok (.getfield 88, 3) := by decide +kernel
theorem dA_meets_74 : decode yA_meets.2.1 74 = .ok (.if_icmp .ne 5, 3) := by decide +kernel
theorem dA_meets_77 : decode yA_meets.2.1 77 = .ok (.iload_n 3, 1) := by decide +kernel
theorem dA_meets_78 : decode yA_meets.2.1 78 = .ok (.ireturn, 1) := by decide +kernel
theorem dA_meets_79 : decode yA_meets.2.1 79 = .ok (.aload_n 0, 1) := by decide +kernel
theorem dA_meets_80 : decode yA_meets.2.1 80 = .ok (.getfield 19, 3) := by decide +kernel
theorem dA_meets_83 : decode yA_meets.2.1 83 = .ok (.invokevirtual 210, 3) := by decide +kernel
theorem dA_meets_86 : decode yA_meets.2.1 86 = .ok (.iinc 3 1, 3) := by decide +kernel
theorem dA_meets_89 : decode yA_meets.2.1 89 = .ok (.goto (-46), 3) := by decide +kernel
theorem dA_meets_92 : decode yA_meets.2.1 92 = .ok (.ldc 162, 2) := by decide +kernel
theorem dA_meets_94 : decode yA_meets.2.1 94 = .ok (.ireturn, 1) := by decide +kernel
theorem dA_place_0 : decode yA_place.2.1 0 = .ok (.aload_n 0, 1) := by decide +kernel
theorem dA_place_1 : decode yA_place.2.1 1 = .ok (.iload_n 1, 1) := by decide +kernel
theorem dA_place_2 : decode yA_place.2.1 2 = .ok (.iconst 3, 1) := by decide +kernel
theorem dA_place_3 : decode yA_place.2.1 3 = .ok (.iload_n 2, 1) := by decide +kernel
theorem dA_place_4 : decode yA_place.2.1 4 = .ok (.iload_n 3, 1) := by decide +kernel
theorem dA_place_5 : decode yA_place.2.1 5 = .ok (.invokevirtual 213, 3) := by decide +kernel
theorem dA_place_8 : decode yA_place.2.1 8 = .ok (.ireturn, 1) := by decide +kernel
theorem dA_best_0 : decode yA_best.2.1 0 = .ok (.aload_n 0, 1) := by decide +kernel
theorem dA_best_1 : decode yA_best.2.1 1 = .ok (.getfield 10, 3) := by decide +kernel
theorem dA_best_4 : decode yA_best.2.1 4 = .ok (.iload_n 1, 1) := by decide +kernel
theorem dA_best_5 : decode yA_best.2.1 5 = .ok (.invokevirtual 74, 3) := by decide +kernel
theorem dA_best_8 : decode yA_best.2.1 8 = .ok (.ifCond .eq 23, 3) := by decide +kernel
theorem dA_best_11 : decode yA_best.2.1 11 = .ok (.iload_n 3, 1) := by decide +kernel
theorem dA_best_12 : decode yA_best.2.1 12 = .ok (.iconst 1, 1) := by decide +kernel
theorem dA_best_13 : decode yA_best.2.1 13 = .ok (.bipush 60, 2) := by decide +kernel
theorem dA_best_15 : decode yA_best.2.1 15 = .ok (.invokestatic 61, 3) := by decide +kernel
theorem dA_best_18 : decode yA_best.2.1 18 = .ok (.ifCond .ne 13, 3) := by decide +kernel
theorem dA_best_21 : decode yA_best.2.1 21 = .ok (.iload 4, 2) := by decide +kernel
theorem dA_best_23 : decode yA_best.2.1 23 = .ok (.iconst 0, 1) := by decide +kernel
theorem dA_best_24 : decode yA_best.2.1 24 = .ok (.iconst 1, 1) := by decide +kernel
theorem dA_best_25 : decode yA_best.2.1 25 = .ok (.invokestatic 61, 3) := by decide +kernel
theorem dA_best_28 : decode yA_best.2.1 28 = .ok (.ifCond .eq 6, 3) := by decide +kernel
theorem dA_best_31 : decode yA_best.2.1 31 = .ok (.ldc 65, 2) := by decide +kernel
theorem dA_best_33 : decode yA_best.2.1 33 = .ok (.ireturn, 1) := by decide +kernel
theorem dA_best_34 : decode yA_best.2.1 34 = .ok (.iconst 0, 1) := by decide +kernel
theorem dA_best_35 : decode yA_best.2.1 35 = .ok (.istore 5, 2) := by decide +kernel
theorem dA_best_37 : decode yA_best.2.1 37 = .ok (.iconst (-1), 1) := by decide +kernel
theorem dA_best_38 : decode yA_best.2.1 38 = .ok (.istore 6, 2) := by decide +kernel
theorem dA_best_40 : decode yA_best.2.1 40 = .ok (.iconst 0, 1) := by decide +kernel
theorem dA_best_41 : decode yA_best.2.1 41 = .ok (.istore 7, 2) := by decide +kernel
theorem dA_best_43 : decode yA_best.2.1 43 = .ok (.iload 7, 2) := by decide +kernel
theorem dA_best_45 : decode yA_best.2.1 45 = .ok (.getstatic 119, 3) := by decide +kernel
theorem dA_best_48 : decode yA_best.2.1 48 = .ok (.iload_n 2, 1) := by decide +kernel
theorem dA_best_49 : decode yA_best.2.1 49 = .ok (.iaload, 1) := by decide +kernel
theorem dA_best_50 : decode yA_best.2.1 50 = .ok (.if_icmp .gt 68, 3) := by decide +kernel
theorem dA_best_53 : decode yA_best.2.1 53 = .ok (.aload_n 0, 1) := by decide +kernel
theorem dA_best_54 : decode yA_best.2.1 54 = .ok (.getfield 19, 3) := by decide +kernel
theorem dA_best_57 : decode yA_best.2.1 57 = .ok (.aload_n 0, 1) := by decide +kernel
theorem dA_best_58 : decode yA_best.2.1 58 = .ok (.getfield 10, 3) := by decide +kernel
theorem dA_best_61 : decode yA_best.2.1 61 = .ok (.invokevirtual 203, 3) := by decide +kernel
theorem dA_best_64 : decode yA_best.2.1 64 = .ok (.aload_n 0, 1) := by decide +kernel
theorem dA_best_65 : decode yA_best.2.1 65 = .ok (.getfield 19, 3) := by decide +kernel
theorem dA_best_68 : decode yA_best.2.1 68 = .ok (.getfield 78, 3) := by decide +kernel
theorem dA_best_71 : decode yA_best.2.1 71 = .ok (.iload_n 1, 1) := by decide +kernel
theorem dA_best_72 : decode yA_best.2.1 72 = .ok (.aaload, 1) := by decide +kernel
theorem dA_best_73 : decode yA_best.2.1 73 = .ok (.iload_n 2, 1) := by decide +kernel
theorem dA_best_74 : decode yA_best.2.1 74 = .ok (.iload 7, 2) := by decide +kernel
theorem dA_best_76 : decode yA_best.2.1 76 = .ok (.invokevirtual 122, 3) := by decide +kernel
theorem dA_best_79 : decode yA_best.2.1 79 = .ok (.aload_n 0, 1) := by decide +kernel
theorem dA_best_80 : decode yA_best.2.1 80 = .ok (.getfield 19, 3) := by decide +kernel
theorem dA_best_83 : decode yA_best.2.1 83 = .ok (.iload_n 3, 1) := by decide +kernel
theorem dA_best_84 : decode yA_best.2.1 84 = .ok (.invokevirtual 177, 3) := by decide +kernel
theorem dA_best_87 : decode yA_best.2.1 87 = .ok (.aload_n 0, 1) := by decide +kernel
theorem dA_best_88 : decode yA_best.2.1 88 = .ok (.getfield 19, 3) := by decide +kernel
theorem dA_best_91 : decode yA_best.2.1 91 = .ok (.getfield 171, 3) := by decide +kernel
theorem dA_best_94 : decode yA_best.2.1 94 = .ok (.iload 6, 2) := by decide +kernel
theorem dA_best_96 : decode yA_best.2.1 96 = .ok (.if_icmp .le 16, 3) := by decide +kernel
theorem dA_best_99 : decode yA_best.2.1 99 = .ok (.aload_n 0, 1) := by decide +kernel
theorem dA_best_100 : decode yA_best.2.1 100 = .ok (.getfield 19, 3) := by decide +kernel
theorem dA_best_103 : decode yA_best.2.1 103 = .ok (.getfield 171, 3) := by decide +kernel
theorem dA_best_106 : decode yA_best.2.1 106 = .ok (.istore 6, 2) := by decide +kernel
theorem dA_best_108 : decode yA_best.2.1 108 = .ok (.iload 7, 2) := by decide +kernel
theorem dA_best_110 : decode yA_best.2.1 110 = .ok (.istore 5, 2) := by decide +kernel
theorem dA_best_112 : decode yA_best.2.1 112 = .ok (.iinc 7 1, 3) := by decide +kernel
theorem dA_best_115 : decode yA_best.2.1 115 = .ok (.goto (-72), 3) := by decide +kernel
theorem dA_best_118 : decode yA_best.2.1 118 = .ok (.iload 4, 2) := by decide +kernel
theorem dA_best_120 : decode yA_best.2.1 120 = .ok (.ifCond .ne 8, 3) := by decide +kernel
theorem dA_best_123 : decode yA_best.2.1 123 = .ok (.iload 5, 2) := by decide +kernel
theorem dA_best_125 : decode yA_best.2.1 125 = .ok (.goto 5, 3) := by decide +kernel
theorem dA_best_128 : decode yA_best.2.1 128 = .ok (.iload 6, 2) := by decide +kernel
theorem dA_best_130 : decode yA_best.2.1 130 = .ok (.ireturn, 1) := by decide +kernel
theorem dA_becomes_0 : decode yA_becomes.2.1 0 = .ok (.aload_n 0, 1) := by decide +kernel
theorem dA_becomes_1 : decode yA_becomes.2.1 1 = .ok (.iload_n 1, 1) := by decide +kernel
theorem dA_becomes_2 : decode yA_becomes.2.1 2 = .ok (.iconst 0, 1) := by decide +kernel
theorem dA_becomes_3 : decode yA_becomes.2.1 3 = .ok (.iload_n 2, 1) := by decide +kernel
theorem dA_becomes_4 : decode yA_becomes.2.1 4 = .ok (.iload_n 3, 1) := by decide +kernel
theorem dA_becomes_5 : decode yA_becomes.2.1 5 = .ok (.invokevirtual 213, 3) := by decide +kernel
theorem dA_becomes_8 : decode yA_becomes.2.1 8 = .ok (.ireturn, 1) := by decide +kernel
theorem dA_eyes_0 : decode yA_eyes.2.1 0 = .ok (.iload_n 1, 1) := by decide +kernel
theorem dA_eyes_1 : decode yA_eyes.2.1 1 = .ok (.iconst 0, 1) := by decide +kernel
theorem dA_eyes_2 : decode yA_eyes.2.1 2 = .ok (.bipush 60, 2) := by decide +kernel
theorem dA_eyes_4 : decode yA_eyes.2.1 4 = .ok (.invokestatic 61, 3) := by decide +kernel
theorem dA_eyes_7 : decode yA_eyes.2.1 7 = .ok (.ifCond .ne 13, 3) := by decide +kernel
theorem dA_eyes_10 : decode yA_eyes.2.1 10 = .ok (.iload_n 2, 1) := by decide +kernel
theorem dA_eyes_11 : decode yA_eyes.2.1 11 = .ok (.iconst 0, 1) := by decide +kernel
theorem dA_eyes_12 : decode yA_eyes.2.1 12 = .ok (.ldc 217, 2) := by decide +kernel
theorem dA_eyes_14 : decode yA_eyes.2.1 14 = .ok (.invokestatic 61, 3) := by decide +kernel
theorem dA_eyes_17 : decode yA_eyes.2.1 17 = .ok (.ifCond .eq 6, 3) := by decide +kernel
theorem dA_eyes_20 : decode yA_eyes.2.1 20 = .ok (.ldc 65, 2) := by decide +kernel
theorem dA_eyes_22 : decode yA_eyes.2.1 22 = .ok (.ireturn, 1) := by decide +kernel
theorem dA_eyes_23 : decode yA_eyes.2.1 23 = .ok (.aload_n 0, 1) := by decide +kernel
theorem dA_eyes_24 : decode yA_eyes.2.1 24 = .ok (.getfield 45, 3) := by decide +kernel
theorem dA_eyes_27 : decode yA_eyes.2.1 27 = .ok (.aload_n 0, 1) := by decide +kernel
theorem dA_eyes_28 : decode yA_eyes.2.1 28 = .ok (.getfield 10, 3) := by decide +kernel
theorem dA_eyes_31 : decode yA_eyes.2.1 31 = .ok (.getfield 171, 3) := by decide +kernel
theorem dA_eyes_34 : decode yA_eyes.2.1 34 = .ok (.invokestatic 218, 3) := by decide +kernel
theorem dA_eyes_37 : decode yA_eyes.2.1 37 = .ok (.aload_n 0, 1) := by decide +kernel
theorem dA_eyes_38 : decode yA_eyes.2.1 38 = .ok (.getfield 19, 3) := by decide +kernel
theorem dA_eyes_41 : decode yA_eyes.2.1 41 = .ok (.aload_n 0, 1) := by decide +kernel
theorem dA_eyes_42 : decode yA_eyes.2.1 42 = .ok (.getfield 10, 3) := by decide +kernel
theorem dA_eyes_45 : decode yA_eyes.2.1 45 = .ok (.invokevirtual 203, 3) := by decide +kernel
theorem dA_eyes_48 : decode yA_eyes.2.1 48 = .ok (.iconst 0, 1) := by decide +kernel
theorem dA_eyes_49 : decode yA_eyes.2.1 49 = .ok (.istore_n 3, 1) := by decide +kernel
theorem dA_eyes_50 : decode yA_eyes.2.1 50 = .ok (.iload_n 3, 1) := by decide +kernel
theorem dA_eyes_51 : decode yA_eyes.2.1 51 = .ok (.iload_n 1, 1) := by decide +kernel
theorem dA_eyes_52 : decode yA_eyes.2.1 52 = .ok (.if_icmp .ge 28, 3) := by decide +kernel
theorem dA_eyes_55 : decode yA_eyes.2.1 55 = .ok (.aload_n 0, 1) := by decide +kernel
theorem dA_eyes_56 : decode yA_eyes.2.1 56 = .ok (.getfield 19, 3) := by decide +kernel
theorem dA_eyes_59 : decode yA_eyes.2.1 59 = .ok (.aload_n 0, 1) := by decide +kernel
theorem dA_eyes_60 : decode yA_eyes.2.1 60 = .ok (.getfield 45, 3) := by decide +kernel
theorem dA_eyes_63 : decode yA_eyes.2.1 63 = .ok (.invokevirtual 224, 3) := by decide +kernel
theorem dA_eyes_66 : decode yA_eyes.2.1 66 = .ok (.aload_n 0, 1) := by decide +kernel
theorem dA_eyes_67 : decode yA_eyes.2.1 67 = .ok (.getfield 19, 3) := by decide +kernel
theorem dA_eyes_70 : decode yA_eyes.2.1 70 = .ok (.iconst 1, 1) := by decide +kernel
theorem dA_eyes_71 : decode yA_eyes.2.1 71 = .ok (.invokevirtual 177, 3) := by decide +kernel
theorem dA_eyes_74 : decode yA_eyes.2.1 74 = .ok (.iinc 3 1, 3) := by decide +kernel
theorem dA_eyes_77 : decode yA_eyes.2.1 77 = .ok (.goto (-27), 3) := by decide +kernel
theorem dA_eyes_80 : decode yA_eyes.2.1 80 = .ok (.bipush 99, 2) := by decide +kernel
theorem dA_eyes_82 : decode yA_eyes.2.1 82 = .ok (.istore_n 3, 1) := by decide +kernel
theorem dA_eyes_83 : decode yA_eyes.2.1 83 = .ok (.iload_n 3, 1) := by decide +kernel
theorem dA_eyes_84 : decode yA_eyes.2.1 84 = .ok (.ifCond .lt 21, 3) := by decide +kernel
theorem dA_eyes_87 : decode yA_eyes.2.1 87 = .ok (.aload_n 0, 1) := by decide +kernel
theorem dA_eyes_88 : decode yA_eyes.2.1 88 = .ok (.getfield 45, 3) := by decide +kernel
theorem dA_eyes_91 : decode yA_eyes.2.1 91 = .ok (.iload_n 3, 1) := by decide +kernel
theorem dA_eyes_92 : decode yA_eyes.2.1 92 = .ok (.iaload, 1) := by decide +kernel
theorem dA_eyes_93 : decode yA_eyes.2.1 93 = .ok (.iload_n 2, 1) := by decide +kernel
theorem dA_eyes_94 : decode yA_eyes.2.1 94 = .ok (.if_icmp .lt 5, 3) := by decide +kernel
theorem dA_eyes_97 : decode yA_eyes.2.1 97 = .ok (.iload_n 3, 1) := by decide +kernel
theorem dA_eyes_98 : decode yA_eyes.2.1 98 = .ok (.ireturn, 1) := by decide +kernel
theorem dA_eyes_99 : decode yA_eyes.2.1 99 = .ok (.iinc 3 (-1), 3) := by decide +kernel
theorem dA_eyes_102 : decode yA_eyes.2.1 102 = .ok (.goto (-19), 3) := by decide +kernel
theorem dA_eyes_105 : decode yA_eyes.2.1 105 = .ok (.ldc 162, 2) := by decide +kernel
theorem dA_eyes_107 : decode yA_eyes.2.1 107 = .ok (.ireturn, 1) := by decide +kernel
theorem dA_like_0 : decode yA_like.2.1 0 = .ok (.iload_n 1, 1) := by decide +kernel
theorem dA_like_1 : decode yA_like.2.1 1 = .ok (.iconst 0, 1) := by decide +kernel
theorem dA_like_2 : decode yA_like.2.1 2 = .ok (.iconst 3, 1) := by decide +kernel
theorem dA_like_3 : decode yA_like.2.1 3 = .ok (.invokestatic 61, 3) := by decide +kernel
theorem dA_like_6 : decode yA_like.2.1 6 = .ok (.ifCond .ne 12, 3) := by decide +kernel
theorem dA_like_9 : decode yA_like.2.1 9 = .ok (.iload_n 2, 1) := by decide +kernel
theorem dA_like_10 : decode yA_like.2.1 10 = .ok (.iconst 0, 1) := by decide +kernel
theorem dA_like_11 : decode yA_like.2.1 11 = .ok (.iconst 1, 1) := by decide +kernel
theorem dA_like_12 : decode yA_like.2.1 12 = .ok (.invokestatic 61, 3) := by decide +kernel
theorem dA_like_15 : decode yA_like.2.1 15 = .ok (.ifCond .eq 6, 3) := by decide +kernel
theorem dA_like_18 : decode yA_like.2.1 18 = .ok (.ldc 65, 2) := by decide +kernel
theorem dA_like_20 : decode yA_like.2.1 20 = .ok (.ireturn, 1) := by decide +kernel
theorem dA_like_21 : decode yA_like.2.1 21 = .ok (.aload_n 0, 1) := by decide +kernel
theorem dA_like_22 : decode yA_like.2.1 22 = .ok (.getfield 31, 3) := by decide +kernel
theorem dA_like_25 : decode yA_like.2.1 25 = .ok (.iload_n 1, 1) := by decide +kernel
theorem dA_like_26 : decode yA_like.2.1 26 = .ok (.aaload, 1) := by decide +kernel
theorem dA_like_27 : decode yA_like.2.1 27 = .ok (.invokevirtual 228, 3) := by decide +kernel
theorem dA_like_30 : decode yA_like.2.1 30 = .ok (.ifCond .eq 6, 3) := by decide +kernel
theorem dA_like_33 : decode yA_like.2.1 33 = .ok (.ldc 232, 2) := by decide +kernel
theorem dA_like_35 : decode yA_like.2.1 35 = .ok (.ireturn, 1) := by decide +kernel
theorem dA_like_36 : decode yA_like.2.1 36 = .ok (.aload_n 0, 1) := by decide +kernel
theorem dA_like_37 : decode yA_like.2.1 37 = .ok (.getfield 10, 3) := by decide +kernel
theorem dA_like_40 : decode yA_like.2.1 40 = .ok (.getfield 70, 3) := by decide +kernel
theorem dA_like_43 : decode yA_like.2.1 43 = .ok (.ifCond .ne 6, 3) := by decide +kernel
theorem dA_like_46 : decode yA_like.2.1 46 = .ok (.ldc 162, 2) := by decide +kernel
theorem dA_like_48 : decode yA_like.2.1 48 = .ok (.ireturn, 1) := by decide +kernel
theorem dA_like_49 : decode yA_like.2.1 49 = .ok (.aload_n 0, 1) := by decide +kernel
theorem dA_like_50 : decode yA_like.2.1 50 = .ok (.aload_n 0, 1) := by decide +kernel
theorem dA_like_51 : decode yA_like.2.1 51 = .ok (.getfield 31, 3) := by decide +kernel
theorem dA_like_54 : decode yA_like.2.1 54 = .ok (.iload_n 1, 1) := by decide +kernel
theorem dA_like_55 : decode yA_like.2.1 55 = .ok (.aaload, 1) := by decide +kernel
theorem dA_like_56 : decode yA_like.2.1 56 = .ok (.invokevirtual 233, 3) := by decide +kernel
theorem dA_like_59 : decode yA_like.2.1 59 = .ok (.iconst 0, 1) := by decide +kernel
theorem dA_like_60 : decode yA_like.2.1 60 = .ok (.istore_n 3, 1) := by decide +kernel
theorem dA_like_61 : decode yA_like.2.1 61 = .ok (.iconst 1, 1) := by decide +kernel
theorem dA_like_62 : decode yA_like.2.1 62 = .ok (.istore 4, 2) := by decide +kernel
theorem dA_like_64 : decode yA_like.2.1 64 = .ok (.iload 4, 2) := by decide +kernel
theorem dA_like_66 : decode yA_like.2.1 66 = .ok (.aload_n 0, 1) := by decide +kernel
theorem dA_like_67 : decode yA_like.2.1 67 = .ok (.getfield 10, 3) := by decide +kernel
theorem dA_like_70 : decode yA_like.2.1 70 = .ok (.getfield 70, 3) := by decide +kernel
theorem dA_like_73 : decode yA_like.2.1 73 = .ok (.if_icmp .ge 28, 3) := by decide +kernel
theorem dA_like_76 : decode yA_like.2.1 76 = .ok (.aload_n 0, 1) := by decide +kernel
theorem dA_like_77 : decode yA_like.2.1 77 = .ok (.getfield 48, 3) := by decide +kernel
theorem dA_like_80 : decode yA_like.2.1 80 = .ok (.iload 4, 2) := by decide +kernel
theorem dA_like_82 : decode yA_like.2.1 82 = .ok (.iaload, 1) := by decide +kernel
theorem dA_like_83 : decode yA_like.2.1 83 = .ok (.aload_n 0, 1) := by decide +kernel
theorem dA_like_84 : decode yA_like.2.1 84 = .ok (.getfield 48, 3) := by decide +kernel
theorem dA_like_87 : decode yA_like.2.1 87 = .ok (.iload_n 3, 1) := by decide +kernel
theorem dA_like_88 : decode yA_like.2.1 88 = .ok (.iaload, 1) := by decide +kernel
theorem dA_like_89 : decode yA_like.2.1 89 = .ok (.if_icmp .ge 6, 3) := by decide +kernel
theorem dA_like_92 : decode yA_like.2.1 92 = .ok (.iload 4, 2) := by decide +kernel
theorem dA_like_94 : decode yA_like.2.1 94 = .ok (.istore_n 3, 1) := by decide +kernel
theorem dA_like_95 : decode yA_like.2.1 95 = .ok (.iinc 4 1, 3) := by decide +kernel
theorem dA_like_98 : decode yA_like.2.1 98 = .ok (.goto (-34), 3) := by decide +kernel
theorem dA_like_101 : decode yA_like.2.1 101 = .ok (.iload_n 2, 1) := by decide +kernel
theorem dA_like_102 : decode yA_like.2.1 102 = .ok (.ifCond .ne 7, 3) := by decide +kernel
theorem dA_like_105 : decode yA_like.2.1 105 = .ok (.iload_n 3, 1) := by decide +kernel
theorem dA_like_106 : decode yA_like.2.1 106 = .ok (.goto 9, 3) := by decide +kernel
theorem dA_like_109 : decode yA_like.2.1 109 = .ok (.aload_n 0, 1) := by decide +kernel
theorem dA_like_110 : decode yA_like.2.1 110 = .ok (.getfield 48, 3) := by decide +kernel
theorem dA_like_113 : decode yA_like.2.1 113 = .ok (.iload_n 3, 1) := by decide +kernel
theorem dA_like_114 : decode yA_like.2.1 114 = .ok (.iaload, 1) := by decide +kernel
theorem dA_like_115 : decode yA_like.2.1 115 = .ok (.ireturn, 1) := by decide +kernel
theorem dA_addDifferences_0 : decode yA_addDifferences.2.1 0 = .ok (.aload_n 0, 1) := by decide +kernel
theorem dA_addDifferences_1 : decode yA_addDifferences.2.1 1 = .ok (.getfield 48, 3) := by decide +kernel
theorem dA_addDifferences_4 : decode yA_addDifferences.2.1 4 = .ok (.iconst 0, 1) := by decide +kernel
theorem dA_addDifferences_5 : decode yA_addDifferences.2.1 5 = .ok (.invokestatic 218, 3) := by decide +kernel
theorem dA_addDifferences_8 : decode yA_addDifferences.2.1 8 = .ok (.aload_n 0, 1) := by decide +kernel
theorem dA_addDifferences_9 : decode yA_addDifferences.2.1 9 = .ok (.getfield 19, 3) := by decide +kernel
theorem dA_addDifferences_12 : decode yA_addDifferences.2.1 12 = .ok (.aload_n 0, 1) := by decide +kernel
theorem dA_addDifferences_13 : decode yA_addDifferences.2.1 13 = .ok (.getfield 10, 3) := by decide +kernel
theorem dA_addDifferences_16 : decode yA_addDifferences.2.1 16 = .ok (.invokevirtual 203, 3) := by decide +kernel
theorem dA_addDifferences_19 : decode yA_addDifferences.2.1 19 = .ok (.iconst 0, 1) := by decide +kernel
theorem dA_addDifferences_20 : decode yA_addDifferences.2.1 20 = .ok (.istore_n 2, 1) := by decide +kernel
theorem dA_addDifferences_21 : decode yA_addDifferences.2.1 21 = .ok (.iload_n 2, 1) := by decide +kernel
theorem dA_addDifferences_22 : decode yA_addDifferences.2.1 22 = .ok (.aload_n 1, 1) := by decide +kernel
theorem dA_addDifferences_23 : decode yA_addDifferences.2.1 23 = .ok (.getfield 237, 3) := by decide +kernel
theorem dA_addDifferences_26 : decode yA_addDifferences.2.1 26 = .ok (.if_icmp .ge 75, 3) := by decide +kernel
theorem dA_addDifferences_29 : decode yA_addDifferences.2.1 29 = .ok (.aload_n 1, 1) := by decide +kernel
theorem dA_addDifferences_30 : decode yA_addDifferences.2.1 30 = .ok (.iload_n 2, 1) := by decide +kernel
theorem dA_addDifferences_31 : decode yA_addDifferences.2.1 31 = .ok (.invokevirtual 240, 3) := by decide +kernel
theorem dA_addDifferences_34 : decode yA_addDifferences.2.1 34 = .ok (.ifCond .eq 53, 3) := by decide +kernel
theorem dA_addDifferences_37 : decode yA_addDifferences.2.1 37 = .ok (.iconst 0, 1) := by decide +kernel
theorem dA_addDifferences_38 : decode yA_addDifferences.2.1 38 = .ok (.istore_n 3, 1) := by decide +kernel
theorem dA_addDifferences_39 : decode yA_addDifferences.2.1 39 = .ok (.iload_n 3, 1) := by decide +kernel
theorem dA_addDifferences_40 : decode yA_addDifferences.2.1 40 = .ok (.aload_n 0, 1) := by decide +kernel
theorem dA_addDifferences_41 : decode yA_addDifferences.2.1 41 = .ok (.getfield 10, 3) := by decide +kernel
theorem dA_addDifferences_44 : decode yA_addDifferences.2.1 44 = .ok (.getfield 70, 3) := by decide +kernel
theorem dA_addDifferences_47 : decode yA_addDifferences.2.1 47 = .ok (.if_icmp .ge 40, 3) := by decide +kernel
theorem dA_addDifferences_50 : decode yA_addDifferences.2.1 50 = .ok (.aload_n 0, 1) := by decide +kernel
theorem dA_addDifferences_51 : decode yA_addDifferences.2.1 51 = .ok (.getfield 48, 3) := by decide +kernel
theorem dA_addDifferences_54 : decode yA_addDifferences.2.1 54 = .ok (.iload_n 3, 1) := by decide +kernel
theorem dA_addDifferences_55 : decode yA_addDifferences.2.1 55 = .ok (.dup2, 1) := by decide +kernel
theorem dA_addDifferences_56 : decode yA_addDifferences.2.1 56 = .ok (.iaload, 1) := by decide +kernel
theorem dA_addDifferences_57 : decode yA_addDifferences.2.1 57 = .ok (.aload_n 0, 1) := by decide +kernel
theorem dA_addDifferences_58 : decode yA_addDifferences.2.1 58 = .ok (.getfield 19, 3) := by decide +kernel
theorem dA_addDifferences_61 : decode yA_addDifferences.2.1 61 = .ok (.getfield 78, 3) := by decide +kernel
theorem dA_addDifferences_64 : decode yA_addDifferences.2.1 64 = .ok (.iload_n 3, 1) := by decide +kernel
theorem dA_addDifferences_65 : decode yA_addDifferences.2.1 65 = .ok (.aaload, 1) := by decide +kernel
theorem dA_addDifferences_66 : decode yA_addDifferences.2.1 66 = .ok (.getfield 207, 3) := by decide +kernel
theorem dA_addDifferences_69 : decode yA_addDifferences.2.1 69 = .ok (.aload_n 1, 1) := by decide +kernel
theorem dA_addDifferences_70 : decode yA_addDifferences.2.1 70 = .ok (.getfield 243, 3) := by decide +kernel
theorem dA_addDifferences_73 : decode yA_addDifferences.2.1 73 = .ok (.iload_n 2, 1) := by decide +kernel
theorem dA_addDifferences_74 : decode yA_addDifferences.2.1 74 = .ok (.iaload, 1) := by decide +kernel
theorem dA_addDifferences_75 : decode yA_addDifferences.2.1 75 = .ok (.isub, 1) := by decide +kernel
theorem dA_addDifferences_76 : decode yA_addDifferences.2.1 76 = .ok (.invokestatic 246, 3) := by decide +kernel
theorem dA_addDifferences_79 : decode yA_addDifferences.2.1 79 = .ok (.iadd, 1) := by decide +kernel
theorem dA_addDifferences_80 : decode yA_addDifferences.2.1 80 = .ok (.iastore, 1) := by decide +kernel
theorem dA_addDifferences_81 : decode yA_addDifferences.2.1 81 = .ok (.iinc 3 1, 3) := by decide +kernel
theorem dA_addDifferences_84 : decode yA_addDifferences.2.1 84 = .ok (.goto (-45), 3) := by decide +kernel
theorem dA_addDifferences_87 : decode yA_addDifferences.2.1 87 = .ok (.aload_n 0, 1) := by decide +kernel
theorem dA_addDifferences_88 : decode yA_addDifferences.2.1 88 = .ok (.getfield 19, 3) := by decide +kernel
theorem dA_addDifferences_91 : decode yA_addDifferences.2.1 91 = .ok (.iconst 1, 1) := by decide +kernel
theorem dA_addDifferences_92 : decode yA_addDifferences.2.1 92 = .ok (.invokevirtual 177, 3) := by decide +kernel
theorem dA_addDifferences_95 : decode yA_addDifferences.2.1 95 = .ok (.iinc 2 1, 3) := by decide +kernel
theorem dA_addDifferences_98 : decode yA_addDifferences.2.1 98 = .ok (.goto (-77), 3) := by decide +kernel
theorem dA_addDifferences_101 : decode yA_addDifferences.2.1 101 = .ok (.return_, 1) := by decide +kernel
theorem dA_fee_0 : decode yA_fee.2.1 0 = .ok (.aload_n 0, 1) := by decide +kernel
theorem dA_fee_1 : decode yA_fee.2.1 1 = .ok (.getfield 10, 3) := by decide +kernel
theorem dA_fee_4 : decode yA_fee.2.1 4 = .ok (.iconst 1, 1) := by decide +kernel
theorem dA_fee_5 : decode yA_fee.2.1 5 = .ok (.invokevirtual 249, 3) := by decide +kernel
theorem dA_fee_8 : decode yA_fee.2.1 8 = .ok (.astore_n 1, 1) := by decide +kernel
theorem dA_fee_9 : decode yA_fee.2.1 9 = .ok (.aload_n 1, 1) := by decide +kernel
theorem dA_fee_10 : decode yA_fee.2.1 10 = .ok (.ifnonnull 13, 3) := by decide +kernel
theorem dA_fee_13 : decode yA_fee.2.1 13 = .ok (.aload_n 0, 1) := by decide +kernel
theorem dA_fee_14 : decode yA_fee.2.1 14 = .ok (.getfield 10, 3) := by decide +kernel
theorem dA_fee_17 : decode yA_fee.2.1 17 = .ok (.getfield 171, 3) := by decide +kernel
theorem dA_fee_20 : decode yA_fee.2.1 20 = .ok (.goto 23, 3) := by decide +kernel
theorem dA_fee_23 : decode yA_fee.2.1 23 = .ok (.aload_n 1, 1) := by decide +kernel
theorem dA_fee_24 : decode yA_fee.2.1 24 = .ok (.aload_n 0, 1) := by decide +kernel
theorem dA_fee_25 : decode yA_fee.2.1 25 = .ok (.getfield 10, 3) := by decide +kernel
theorem dA_fee_28 : decode yA_fee.2.1 28 = .ok (.getfield 171, 3) := by decide +kernel
theorem dA_fee_31 : decode yA_fee.2.1 31 = .ok (.aload_n 0, 1) := by decide +kernel
theorem dA_fee_32 : decode yA_fee.2.1 32 = .ok (.getfield 10, 3) := by decide +kernel
theorem dA_fee_35 : decode yA_fee.2.1 35 = .ok (.getfield 191, 3) := by decide +kernel
theorem dA_fee_38 : decode yA_fee.2.1 38 = .ok (.iconst 0, 1) := by decide +kernel
theorem dA_fee_39 : decode yA_fee.2.1 39 = .ok (.iconst 0, 1) := by decide +kernel
theorem dA_fee_40 : decode yA_fee.2.1 40 = .ok (.invokevirtual 253, 3) := by decide +kernel
theorem dA_fee_43 : decode yA_fee.2.1 43 = .ok (.ireturn, 1) := by decide +kernel
theorem dA_fine_0 : decode yA_fine.2.1 0 = .ok (.aload_n 0, 1) := by decide +kernel
theorem dA_fine_1 : decode yA_fine.2.1 1 = .ok (.getfield 10, 3) := by decide +kernel
theorem dA_fine_4 : decode yA_fine.2.1 4 = .ok (.iload_n 1, 1) := by decide +kernel
theorem dA_fine_5 : decode yA_fine.2.1 5 = .ok (.invokevirtual 74, 3) := by decide +kernel
theorem dA_fine_8 : decode yA_fine.2.1 8 = .ok (.ifCond .ne 6, 3) := by decide +kernel
theorem dA_fine_11 : decode yA_fine.2.1 11 = .ok (.ldc 65, 2) := by decide +kernel
theorem dA_fine_13 : decode yA_fine.2.1 13 = .ok (.ireturn, 1) := by decide +kernel
theorem dA_fine_14 : decode yA_fine.2.1 14 = .ok (.aload_n 0, 1) := by decide +kernel
theorem dA_fine_15 : decode yA_fine.2.1 15 = .ok (.getfield 10, 3) := by decide +kernel
theorem dA_fine_18 : decode yA_fine.2.1 18 = .ok (.getfield 78, 3) := by decide +kernel
theorem dA_fine_21 : decode yA_fine.2.1 21 = .ok (.iload_n 1, 1) := by decide +kernel
theorem dA_fine_22 : decode yA_fine.2.1 22 = .ok (.aaload, 1) := by decide +kernel
theorem dA_fine_23 : decode yA_fine.2.1 23 = .ok (.astore_n 2, 1) := by decide +kernel
theorem dA_fine_24 : decode yA_fine.2.1 24 = .ok (.aload_n 0, 1) := by decide +kernel
theorem dA_fine_25 : decode yA_fine.2.1 25 = .ok (.getfield 10, 3) := by decide +kernel
theorem dA_fine_28 : decode yA_fine.2.1 28 = .ok (.iconst 2, 1) := by decide +kernel
theorem dA_fine_29 : decode yA_fine.2.1 29 = .ok (.invokevirtual 249, 3) := by decide +kernel
theorem dA_fine_32 : decode yA_fine.2.1 32 = .ok (.astore_n 3, 1) := by decide +kernel
theorem dA_fine_33 : decode yA_fine.2.1 33 = .ok (.aload_n 3, 1) := by decide +kernel
theorem dA_fine_34 : decode yA_fine.2.1 34 = .ok (.ifnonnull 10, 3) := by decide +kernel
theorem dA_fine_37 : decode yA_fine.2.1 37 = .ok (.aload_n 2, 1) := by decide +kernel
theorem dA_fine_38 : decode yA_fine.2.1 38 = .ok (.getfield 111, 3) := by decide +kernel
theorem dA_fine_41 : decode yA_fine.2.1 41 = .ok (.goto 17, 3) := by decide +kernel
theorem dA_fine_44 : decode yA_fine.2.1 44 = .ok (.aload_n 3, 1) := by decide +kernel
theorem dA_fine_45 : decode yA_fine.2.1 45 = .ok (.aload_n 2, 1) := by decide +kernel
theorem dA_fine_46 : decode yA_fine.2.1 46 = .ok (.getfield 111, 3) := by decide +kernel
theorem dA_fine_49 : decode yA_fine.2.1 49 = .ok (.aload_n 2, 1) := by decide +kernel
theorem dA_fine_50 : decode yA_fine.2.1 50 = .ok (.getfield 207, 3) := by decide +kernel
theorem dA_fine_53 : decode yA_fine.2.1 53 = .ok (.iconst 0, 1) := by decide +kernel
theorem dA_fine_54 : decode yA_fine.2.1 54 = .ok (.iconst 0, 1) := by decide +kernel
theorem dA_fine_55 : decode yA_fine.2.1 55 = .ok (.invokevirtual 253, 3) := by decide +kernel
theorem dA_fine_58 : decode yA_fine.2.1 58 = .ok (.ireturn, 1) := by decide +kernel
theorem dA_feed_0 : decode yA_feed.2.1 0 = .ok (.aload_n 0, 1) := by decide +kernel
theorem dA_feed_1 : decode yA_feed.2.1 1 = .ok (.getfield 25, 3) := by decide +kernel
theorem dA_feed_4 : decode yA_feed.2.1 4 = .ok (.getfield 258, 3) := by decide +kernel
theorem dA_feed_7 : decode yA_feed.2.1 7 = .ok (.bipush 12, 2) := by decide +kernel
theorem dA_feed_9 : decode yA_feed.2.1 9 = .ok (.iadd, 1) := by decide +kernel
theorem dA_feed_10 : decode yA_feed.2.1 10 = .ok (.bipush 96, 2) := by decide +kernel
theorem dA_feed_12 : decode yA_feed.2.1 12 = .ok (.if_icmp .le 6, 3) := by decide +kernel
theorem dA_feed_15 : decode yA_feed.2.1 15 = .ok (.ldc 73, 2) := by decide +kernel
theorem dA_feed_17 : decode yA_feed.2.1 17 = .ok (.ireturn, 1) := by decide +kernel
theorem dA_feed_18 : decode yA_feed.2.1 18 = .ok (.aload_n 0, 1) := by decide +kernel
theorem dA_feed_19 : decode yA_feed.2.1 19 = .ok (.getfield 25, 3) := by decide +kernel
theorem dA_feed_22 : decode yA_feed.2.1 22 = .ok (.iload_n 1, 1) := by decide +kernel
theorem dA_feed_23 : decode yA_feed.2.1 23 = .ok (.invokevirtual 261, 3) := by decide +kernel
theorem dA_feed_26 : decode yA_feed.2.1 26 = .ok (.aload_n 0, 1) := by decide +kernel
theorem dA_feed_27 : decode yA_feed.2.1 27 = .ok (.getfield 25, 3) := by decide +kernel
theorem dA_feed_30 : decode yA_feed.2.1 30 = .ok (.iload_n 2, 1) := by decide +kernel
theorem dA_feed_31 : decode yA_feed.2.1 31 = .ok (.invokevirtual 261, 3) := by decide +kernel
theorem dA_feed_34 : decode yA_feed.2.1 34 = .ok (.aload_n 0, 1) := by decide +kernel
theorem dA_feed_35 : decode yA_feed.2.1 35 = .ok (.getfield 25, 3) := by decide +kernel
theorem dA_feed_38 : decode yA_feed.2.1 38 = .ok (.iload_n 3, 1) := by decide +kernel
theorem dA_feed_39 : decode yA_feed.2.1 39 = .ok (.invokevirtual 261, 3) := by decide +kernel
theorem dA_feed_42 : decode yA_feed.2.1 42 = .ok (.aload_n 0, 1) := by decide +kernel
theorem dA_feed_43 : decode yA_feed.2.1 43 = .ok (.getfield 25, 3) := by decide +kernel
theorem dA_feed_46 : decode yA_feed.2.1 46 = .ok (.getfield 258, 3) := by decide +kernel
theorem dA_feed_49 : decode yA_feed.2.1 49 = .ok (.ireturn, 1) := by decide +kernel
theorem dA_trim_0 : decode yA_trim.2.1 0 = .ok (.iload_n 1, 1) := by decide +kernel
theorem dA_trim_1 : decode yA_trim.2.1 1 = .ok (.iconst 0, 1) := by decide +kernel
theorem dA_trim_2 : decode yA_trim.2.1 2 = .ok (.aload_n 0, 1) := by decide +kernel
theorem dA_trim_3 : decode yA_trim.2.1 3 = .ok (.getfield 25, 3) := by decide +kernel
theorem dA_trim_6 : decode yA_trim.2.1 6 = .ok (.getfield 258, 3) := by decide +kernel
theorem dA_trim_9 : decode yA_trim.2.1 9 = .ok (.invokestatic 61, 3) := by decide +kernel
theorem dA_trim_12 : decode yA_trim.2.1 12 = .ok (.ifCond .eq 6, 3) := by decide +kernel
theorem dA_trim_15 : decode yA_trim.2.1 15 = .ok (.ldc 65, 2) := by decide +kernel
theorem dA_trim_17 : decode yA_trim.2.1 17 = .ok (.ireturn, 1) := by decide +kernel
theorem dA_trim_18 : decode yA_trim.2.1 18 = .ok (.aload_n 0, 1) := by decide +kernel
theorem dA_trim_19 : decode yA_trim.2.1 19 = .ok (.getfield 25, 3) := by decide +kernel
theorem dA_trim_22 : decode yA_trim.2.1 22 = .ok (.iload_n 1, 1) := by decide +kernel
theorem dA_trim_23 : decode yA_trim.2.1 23 = .ok (.putfield 258, 3) := by decide +kernel
theorem dA_trim_26 : decode yA_trim.2.1 26 = .ok (.iload_n 1, 1) := by decide +kernel
theorem dA_trim_27 : decode yA_trim.2.1 27 = .ok (.ireturn, 1) := by decide +kernel
theorem dA_text_0 : decode yA_text.2.1 0 = .ok (.aload_n 0, 1) := by decide +kernel
theorem dA_text_1 : decode yA_text.2.1 1 = .ok (.getfield 25, 3) := by decide +kernel
theorem dA_text_4 : decode yA_text.2.1 4 = .ok (.invokevirtual 264, 3) := by decide +kernel
theorem dA_text_7 : decode yA_text.2.1 7 = .ok (.istore_n 1, 1) := by decide +kernel
theorem dA_text_8 : decode yA_text.2.1 8 = .ok (.aload_n 0, 1) := by decide +kernel
theorem dA_text_9 : decode yA_text.2.1 9 = .ok (.getfield 25, 3) := by decide +kernel
theorem dA_text_12 : decode yA_text.2.1 12 = .ok (.iconst 0, 1) := by decide +kernel
theorem dA_text_13 : decode yA_text.2.1 13 = .ok (.putfield 258, 3) := by decide +kernel
theorem dA_text_16 : decode yA_text.2.1 16 = .ok (.iload_n 1, 1) := by decide +kernel
theorem dA_text_17 : decode yA_text.2.1 17 = .ok (.ifCond .ne 14, 3) := by decide +kernel
theorem dA_text_20 : decode yA_text.2.1 20 = .ok (.bipush (-100), 2) := by decide +kernel
theorem dA_text_22 : decode yA_text.2.1 22 = .ok (.aload_n 0, 1) := by decide +kernel
theorem dA_text_23 : decode yA_text.2.1 23 = .ok (.getfield 25, 3) := by decide +kernel
theorem dA_text_26 : decode yA_text.2.1 26 = .ok (.getfield 267, 3) := by decide +kernel
theorem dA_text_29 : decode yA_text.2.1 29 = .ok (.isub, 1) := by decide +kernel
theorem dA_text_30 : decode yA_text.2.1 30 = .ok (.ireturn, 1) := by decide +kernel
theorem dA_text_31 : decode yA_text.2.1 31 = .ok (.aload_n 0, 1) := by decide +kernel
theorem dA_text_32 : decode yA_text.2.1 32 = .ok (.getfield 10, 3) := by decide +kernel
theorem dA_text_35 : decode yA_text.2.1 35 = .ok (.getfield 270, 3) := by decide +kernel
theorem dA_text_38 : decode yA_text.2.1 38 = .ok (.bipush 14, 2) := by decide +kernel
theorem dA_text_40 : decode yA_text.2.1 40 = .ok (.if_icmp .lt 6, 3) := by decide +kernel
theorem dA_text_43 : decode yA_text.2.1 43 = .ok (.ldc 73, 2) := by decide +kernel
theorem dA_text_45 : decode yA_text.2.1 45 = .ok (.ireturn, 1) := by decide +kernel
theorem dA_text_46 : decode yA_text.2.1 46 = .ok (.aload_n 0, 1) := by decide +kernel
theorem dA_text_47 : decode yA_text.2.1 47 = .ok (.getfield 10, 3) := by decide +kernel
theorem dA_text_50 : decode yA_text.2.1 50 = .ok (.aload_n 0, 1) := by decide +kernel
theorem dA_text_51 : decode yA_text.2.1 51 = .ok (.getfield 25, 3) := by decide +kernel
theorem dA_text_54 : decode yA_text.2.1 54 = .ok (.invokevirtual 273, 3) := by decide +kernel
theorem dA_text_57 : decode yA_text.2.1 57 = .ok (.invokevirtual 277, 3) := by decide +kernel
theorem dA_text_60 : decode yA_text.2.1 60 = .ok (.aload_n 0, 1) := by decide +kernel
theorem dA_text_61 : decode yA_text.2.1 61 = .ok (.getfield 10, 3) := by decide +kernel
theorem dA_text_64 : decode yA_text.2.1 64 = .ok (.getfield 270, 3) := by decide +kernel
theorem dA_text_67 : decode yA_text.2.1 67 = .ok (.iconst 1, 1) := by decide +kernel
theorem dA_text_68 : decode yA_text.2.1 68 = .ok (.isub, 1) := by decide +kernel
theorem dA_text_69 : decode yA_text.2.1 69 = .ok (.ireturn, 1) := by decide +kernel
theorem dA_textTold_0 : decode yA_textTold.2.1 0 = .ok (.iload_n 1, 1) := by decide +kernel
theorem dA_textTold_1 : decode yA_textTold.2.1 1 = .ok (.iconst 0, 1) := by decide +kernel
theorem dA_textTold_2 : decode yA_textTold.2.1 2 = .ok (.aload_n 0, 1) := by decide +kernel
theorem dA_textTold_3 : decode yA_textTold.2.1 3 = .ok (.getfield 10, 3) := by decide +kernel
theorem dA_textTold_6 : decode yA_textTold.2.1 6 = .ok (.getfield 270, 3) := by decide +kernel
theorem dA_textTold_9 : decode yA_textTold.2.1 9 = .ok (.iconst 1, 1) := by decide +kernel
theorem dA_textTold_10 : decode yA_textTold.2.1 10 = .ok (.isub, 1) := by decide +kernel
theorem dA_textTold_11 : decode yA_textTold.2.1 11 = .ok (.invokestatic 61, 3) := by decide +kernel
theorem dA_textTold_14 : decode yA_textTold.2.1 14 = .ok (.ifCond .ne 12, 3) := by decide +kernel
theorem dA_textTold_17 : decode yA_textTold.2.1 17 = .ok (.iload_n 2, 1) := by decide +kernel
theorem dA_textTold_18 : decode yA_textTold.2.1 18 = .ok (.iconst 0, 1) := by decide +kernel
theorem dA_textTold_19 : decode yA_textTold.2.1 19 = .ok (.iconst 1, 1) := by decide +kernel
theorem dA_textTold_20 : decode yA_textTold.2.1 20 = .ok (.invokestatic 61, 3) := by decide +kernel
theorem dA_textTold_23 : decode yA_textTold.2.1 23 = .ok (.ifCond .eq 6, 3) := by decide +kernel
theorem dA_textTold_26 : decode yA_textTold.2.1 26 = .ok (.ldc 65, 2) := by decide +kernel
theorem dA_textTold_28 : decode yA_textTold.2.1 28 = .ok (.ireturn, 1) := by decide +kernel
theorem dA_textTold_29 : decode yA_textTold.2.1 29 = .ok (.aload_n 0, 1) := by decide +kernel
theorem dA_textTold_30 : decode yA_textTold.2.1 30 = .ok (.getfield 10, 3) := by decide +kernel
theorem dA_textTold_33 : decode yA_textTold.2.1 33 = .ok (.getfield 281, 3) := by decide +kernel
theorem dA_textTold_36 : decode yA_textTold.2.1 36 = .ok (.iload_n 1, 1) := by decide +kernel
theorem dA_textTold_37 : decode yA_textTold.2.1 37 = .ok (.aaload, 1) := by decide +kernel
theorem dA_textTold_38 : decode yA_textTold.2.1 38 = .ok (.astore_n 3, 1) := by decide +kernel
theorem dA_textTold_39 : decode yA_textTold.2.1 39 = .ok (.aload_n 3, 1) := by decide +kernel
theorem dA_textTold_40 : decode yA_textTold.2.1 40 = .ok (.ifnonnull 6, 3) := by decide +kernel
theorem dA_textTold_43 : decode yA_textTold.2.1 43 = .ok (.ldc 65, 2) := by decide +kernel
theorem dA_textTold_45 : decode yA_textTold.2.1 45 = .ok (.ireturn, 1) := by decide +kernel
theorem dA_textTold_46 : decode yA_textTold.2.1 46 = .ok (.iload_n 2, 1) := by decide +kernel
theorem dA_textTold_47 : decode yA_textTold.2.1 47 = .ok (.ifCond .ne 10, 3) := by decide +kernel
theorem dA_textTold_50 : decode yA_textTold.2.1 50 = .ok (.aload_n 3, 1) := by decide +kernel
theorem dA_textTold_51 : decode yA_textTold.2.1 51 = .ok (.getfield 285, 3) := by decide +kernel
theorem dA_textTold_54 : decode yA_textTold.2.1 54 = .ok (.goto 7, 3) := by decide +kernel
theorem dA_textTold_57 : decode yA_textTold.2.1 57 = .ok (.aload_n 3, 1) := by decide +kernel
theorem dA_textTold_58 : decode yA_textTold.2.1 58 = .ok (.getfield 288, 3) := by decide +kernel
theorem dA_textTold_61 : decode yA_textTold.2.1 61 = .ok (.ireturn, 1) := by decide +kernel
theorem dA_why_0 : decode yA_why.2.1 0 = .ok (.iload_n 1, 1) := by decide +kernel
theorem dA_why_1 : decode yA_why.2.1 1 = .ok (.iconst 0, 1) := by decide +kernel
theorem dA_why_2 : decode yA_why.2.1 2 = .ok (.iconst 2, 1) := by decide +kernel
theorem dA_why_3 : decode yA_why.2.1 3 = .ok (.invokestatic 61, 3) := by decide +kernel
theorem dA_why_6 : decode yA_why.2.1 6 = .ok (.ifCond .eq 8, 3) := by decide +kernel
theorem dA_why_9 : decode yA_why.2.1 9 = .ok (.ldc 65, 2) := by decide +kernel
theorem dA_why_11 : decode yA_why.2.1 11 = .ok (.goto 12, 3) := by decide +kernel
theorem dA_why_14 : decode yA_why.2.1 14 = .ok (.aload_n 0, 1) := by decide +kernel
theorem dA_why_15 : decode yA_why.2.1 15 = .ok (.getfield 10, 3) := by decide +kernel
theorem dA_why_18 : decode yA_why.2.1 18 = .ok (.getfield 291, 3) := by decide +kernel
theorem dA_why_21 : decode yA_why.2.1 21 = .ok (.iload_n 1, 1) := by decide +kernel
theorem dA_why_22 : decode yA_why.2.1 22 = .ok (.iaload, 1) := by decide +kernel
theorem dA_why_23 : decode yA_why.2.1 23 = .ok (.ireturn, 1) := by decide +kernel
theorem dA_sheet_0 : decode yA_sheet.2.1 0 = .ok (.iload_n 1, 1) := by decide +kernel
theorem dA_sheet_1 : decode yA_sheet.2.1 1 = .ok (.iconst 0, 1) := by decide +kernel
theorem dA_sheet_2 : decode yA_sheet.2.1 2 = .ok (.iconst 3, 1) := by decide +kernel
theorem dA_sheet_3 : decode yA_sheet.2.1 3 = .ok (.invokestatic 61, 3) := by decide +kernel
theorem dA_sheet_6 : decode yA_sheet.2.1 6 = .ok (.ifCond .ne 12, 3) := by decide +kernel
theorem dA_sheet_9 : decode yA_sheet.2.1 9 = .ok (.iload_n 2, 1) := by decide +kernel
theorem dA_sheet_10 : decode yA_sheet.2.1 10 = .ok (.iconst (-1), 1) := by decide +kernel
theorem dA_sheet_11 : decode yA_sheet.2.1 11 = .ok (.iconst 1, 1) := by decide +kernel
theorem dA_sheet_12 : decode yA_sheet.2.1 12 = .ok (.invokestatic 61, 3) := by decide +kernel
theorem dA_sheet_15 : decode yA_sheet.2.1 15 = .ok (.ifCond .eq 6, 3) := by decide +kernel
theorem dA_sheet_18 : decode yA_sheet.2.1 18 = .ok (.ldc 65, 2) := by decide +kernel
theorem dA_sheet_20 : decode yA_sheet.2.1 20 = .ok (.ireturn, 1) := by decide +kernel
theorem dA_sheet_21 : decode yA_sheet.2.1 21 = .ok (.iload_n 2, 1) := by decide +kernel
theorem dA_sheet_22 : decode yA_sheet.2.1 22 = .ok (.iconst (-1), 1) := by decide +kernel
theorem dA_sheet_23 : decode yA_sheet.2.1 23 = .ok (.if_icmp .ne 16, 3) := by decide +kernel
theorem dA_sheet_26 : decode yA_sheet.2.1 26 = .ok (.aload_n 0, 1) := by decide +kernel
theorem dA_sheet_27 : decode yA_sheet.2.1 27 = .ok (.getfield 31, 3) := by decide +kernel
theorem dA_sheet_30 : decode yA_sheet.2.1 30 = .ok (.iload_n 1, 1) := by decide +kernel
theorem dA_sheet_31 : decode yA_sheet.2.1 31 = .ok (.aaload, 1) := by decide +kernel
theorem dA_sheet_32 : decode yA_sheet.2.1 32 = .ok (.iconst (-1), 1) := by decide +kernel
theorem dA_sheet_33 : decode yA_sheet.2.1 33 = .ok (.iconst 0, 1) := by decide +kernel
theorem dA_sheet_34 : decode yA_sheet.2.1 34 = .ok (.invokevirtual 294, 3) := by decide +kernel
theorem dA_sheet_37 : decode yA_sheet.2.1 37 = .ok (.iconst 0, 1) := by decide +kernel
theorem dA_sheet_38 : decode yA_sheet.2.1 38 = .ok (.ireturn, 1) := by decide +kernel
theorem dA_sheet_39 : decode yA_sheet.2.1 39 = .ok (.iload_n 3, 1) := by decide +kernel
theorem dA_sheet_40 : decode yA_sheet.2.1 40 = .ok (.bipush 24, 2) := by decide +kernel
theorem dA_sheet_42 : decode yA_sheet.2.1 42 = .ok (.if_icmp .le 6, 3) := by decide +kernel
theorem dA_sheet_45 : decode yA_sheet.2.1 45 = .ok (.ldc 65, 2) := by decide +kernel
theorem dA_sheet_47 : decode yA_sheet.2.1 47 = .ok (.ireturn, 1) := by decide +kernel
theorem dA_sheet_48 : decode yA_sheet.2.1 48 = .ok (.iload_n 3, 1) := by decide +kernel
theorem dA_sheet_49 : decode yA_sheet.2.1 49 = .ok (.ifCond .ge 7, 3) := by decide +kernel
theorem dA_sheet_52 : decode yA_sheet.2.1 52 = .ok (.ldc_w 297, 3) := by decide +kernel
theorem dA_sheet_55 : decode yA_sheet.2.1 55 = .ok (.ireturn, 1) := by decide +kernel
theorem dA_sheet_56 : decode yA_sheet.2.1 56 = .ok (.aload_n 0, 1) := by decide +kernel
theorem dA_sheet_57 : decode yA_sheet.2.1 57 = .ok (.getfield 31, 3) := by decide +kernel
theorem dA_sheet_60 : decode yA_sheet.2.1 60 = .ok (.iload_n 1, 1) := by decide +kernel
theorem dA_sheet_61 : decode yA_sheet.2.1 61 = .ok (.aaload, 1) := by decide +kernel
theorem dA_sheet_62 : decode yA_sheet.2.1 62 = .ok (.iload_n 2, 1) := by decide +kernel
theorem dA_sheet_63 : decode yA_sheet.2.1 63 = .ok (.iload_n 3, 1) := by decide +kernel
theorem dA_sheet_64 : decode yA_sheet.2.1 64 = .ok (.invokevirtual 294, 3) := by decide +kernel
theorem dA_sheet_67 : decode yA_sheet.2.1 67 = .ok (.iload_n 3, 1) := by decide +kernel
theorem dA_sheet_68 : decode yA_sheet.2.1 68 = .ok (.ireturn, 1) := by decide +kernel
theorem dA_mark_0 : decode yA_mark.2.1 0 = .ok (.iload_n 1, 1) := by decide +kernel
theorem dA_mark_1 : decode yA_mark.2.1 1 = .ok (.iconst 0, 1) := by decide +kernel
theorem dA_mark_2 : decode yA_mark.2.1 2 = .ok (.iconst 3, 1) := by decide +kernel
theorem dA_mark_3 : decode yA_mark.2.1 3 = .ok (.invokestatic 61, 3) := by decide +kernel
theorem dA_mark_6 : decode yA_mark.2.1 6 = .ok (.ifCond .eq 6, 3) := by decide +kernel
theorem dA_mark_9 : decode yA_mark.2.1 9 = .ok (.ldc 65, 2) := by decide +kernel
theorem dA_mark_11 : decode yA_mark.2.1 11 = .ok (.ireturn, 1) := by decide +kernel
theorem dA_mark_12 : decode yA_mark.2.1 12 = .ok (.aload_n 0, 1) := by decide +kernel
theorem dA_mark_13 : decode yA_mark.2.1 13 = .ok (.getfield 31, 3) := by decide +kernel
theorem dA_mark_16 : decode yA_mark.2.1 16 = .ok (.iload_n 1, 1) := by decide +kernel
theorem dA_mark_17 : decode yA_mark.2.1 17 = .ok (.aaload, 1) := by decide +kernel
theorem dA_mark_18 : decode yA_mark.2.1 18 = .ok (.astore 4, 2) := by decide +kernel
theorem dA_mark_20 : decode yA_mark.2.1 20 = .ok (.aload 4, 2) := by decide +kernel
theorem dA_mark_22 : decode yA_mark.2.1 22 = .ok (.invokevirtual 228, 3) := by decide +kernel
theorem dA_mark_25 : decode yA_mark.2.1 25 = .ok (.ifCond .eq 6, 3) := by decide +kernel
theorem dA_mark_28 : decode yA_mark.2.1 28 = .ok (.ldc 232, 2) := by decide +kernel
theorem dA_mark_30 : decode yA_mark.2.1 30 = .ok (.ireturn, 1) := by decide +kernel
theorem dA_mark_31 : decode yA_mark.2.1 31 = .ok (.iload_n 2, 1) := by decide +kernel
theorem dA_mark_32 : decode yA_mark.2.1 32 = .ok (.iconst 0, 1) := by decide +kernel
theorem dA_mark_33 : decode yA_mark.2.1 33 = .ok (.aload 4, 2) := by decide +kernel
theorem dA_mark_35 : decode yA_mark.2.1 35 = .ok (.getfield 237, 3) := by decide +kernel
theorem dA_mark_38 : decode yA_mark.2.1 38 = .ok (.iconst 1, 1) := by decide +kernel
theorem dA_mark_39 : decode yA_mark.2.1 39 = .ok (.isub, 1) := by decide +kernel
theorem dA_mark_40 : decode yA_mark.2.1 40 = .ok (.invokestatic 61, 3) := by decide +kernel
theorem dA_mark_43 : decode yA_mark.2.1 43 = .ok (.ifCond .eq 7, 3) := by decide +kernel
theorem dA_mark_46 : decode yA_mark.2.1 46 = .ok (.ldc_w 298, 3) := by decide +kernel
theorem dA_mark_49 : decode yA_mark.2.1 49 = .ok (.ireturn, 1) := by decide +kernel
theorem dA_mark_50 : decode yA_mark.2.1 50 = .ok (.aload 4, 2) := by decide +kernel
theorem dA_mark_52 : decode yA_mark.2.1 52 = .ok (.getfield 299, 3) := by decide +kernel
theorem dA_mark_55 : decode yA_mark.2.1 55 = .ok (.ifCond .ne 23, 3) := by decide +kernel
theorem dA_mark_58 : decode yA_mark.2.1 58 = .ok (.iload_n 3, 1) := by decide +kernel
theorem dA_mark_59 : decode yA_mark.2.1 59 = .ok (.ldc 162, 2) := by decide +kernel
theorem dA_mark_61 : decode yA_mark.2.1 61 = .ok (.if_icmp .ne 6, 3) := by decide +kernel
theorem dA_mark_64 : decode yA_mark.2.1 64 = .ok (.ldc 114, 2) := by decide +kernel
theorem dA_mark_66 : decode yA_mark.2.1 66 = .ok (.ireturn, 1) := by decide +kernel
theorem dA_mark_67 : decode yA_mark.2.1 67 = .ok (.aload 4, 2) := by decide +kernel
theorem dA_mark_69 : decode yA_mark.2.1 69 = .ok (.getfield 243, 3) := by decide +kernel
theorem dA_mark_72 : decode yA_mark.2.1 72 = .ok (.iload_n 2, 1) := by decide +kernel
theorem dA_mark_73 : decode yA_mark.2.1 73 = .ok (.iload_n 3, 1) := by decide +kernel
theorem dA_mark_74 : decode yA_mark.2.1 74 = .ok (.i2s, 1) := by decide +kernel
theorem dA_mark_75 : decode yA_mark.2.1 75 = .ok (.iastore, 1) := by decide +kernel
theorem dA_mark_76 : decode yA_mark.2.1 76 = .ok (.iconst 1, 1) := by decide +kernel
theorem dA_mark_77 : decode yA_mark.2.1 77 = .ok (.ireturn, 1) := by decide +kernel
theorem dA_mark_78 : decode yA_mark.2.1 78 = .ok (.iload_n 3, 1) := by decide +kernel
theorem dA_mark_79 : decode yA_mark.2.1 79 = .ok (.ldc 162, 2) := by decide +kernel
theorem dA_mark_81 : decode yA_mark.2.1 81 = .ok (.if_icmp .eq 18, 3) := by decide +kernel
theorem dA_mark_84 : decode yA_mark.2.1 84 = .ok (.iload_n 3, 1) := by decide +kernel
theorem dA_mark_85 : decode yA_mark.2.1 85 = .ok (.ldc_w 302, 3) := by decide +kernel
theorem dA_mark_88 : decode yA_mark.2.1 88 = .ok (.ldc 217, 2) := by decide +kernel
theorem dA_mark_90 : decode yA_mark.2.1 90 = .ok (.invokestatic 61, 3) := by decide +kernel
theorem dA_mark_93 : decode yA_mark.2.1 93 = .ok (.ifCond .eq 6, 3) := by decide +kernel
theorem dA_mark_96 : decode yA_mark.2.1 96 = .ok (.ldc 65, 2) := by decide +kernel
theorem dA_mark_98 : decode yA_mark.2.1 98 = .ok (.ireturn, 1) := by decide +kernel
theorem dA_mark_99 : decode yA_mark.2.1 99 = .ok (.aload 4, 2) := by decide +kernel
theorem dA_mark_101 : decode yA_mark.2.1 101 = .ok (.getfield 243, 3) := by decide +kernel
theorem dA_mark_104 : decode yA_mark.2.1 104 = .ok (.iload_n 2, 1) := by decide +kernel
theorem dA_mark_105 : decode yA_mark.2.1 105 = .ok (.iload_n 3, 1) := by decide +kernel
theorem dA_mark_106 : decode yA_mark.2.1 106 = .ok (.iastore, 1) := by decide +kernel
theorem dA_mark_107 : decode yA_mark.2.1 107 = .ok (.iconst 1, 1) := by decide +kernel
theorem dA_mark_108 : decode yA_mark.2.1 108 = .ok (.ireturn, 1) := by decide +kernel
theorem dA_pour_0 : decode yA_pour.2.1 0 = .ok (.iload_n 1, 1) := by decide +kernel
theorem dA_pour_1 : decode yA_pour.2.1 1 = .ok (.iconst 0, 1) := by decide +kernel
theorem dA_pour_2 : decode yA_pour.2.1 2 = .ok (.iconst 3, 1) := by decide +kernel
theorem dA_pour_3 : decode yA_pour.2.1 3 = .ok (.invokestatic 61, 3) := by decide +kernel
theorem dA_pour_6 : decode yA_pour.2.1 6 = .ok (.ifCond .eq 6, 3) := by decide +kernel
theorem dA_pour_9 : decode yA_pour.2.1 9 = .ok (.ldc 65, 2) := by decide +kernel
theorem dA_pour_11 : decode yA_pour.2.1 11 = .ok (.ireturn, 1) := by decide +kernel
theorem dA_pour_12 : decode yA_pour.2.1 12 = .ok (.aload_n 0, 1) := by decide +kernel
theorem dA_pour_13 : decode yA_pour.2.1 13 = .ok (.getfield 31, 3) := by decide +kernel
theorem dA_pour_16 : decode yA_pour.2.1 16 = .ok (.iload_n 1, 1) := by decide +kernel
theorem dA_pour_17 : decode yA_pour.2.1 17 = .ok (.aaload, 1) := by decide +kernel
theorem dA_pour_18 : decode yA_pour.2.1 18 = .ok (.astore_n 2, 1) := by decide +kernel
theorem dA_pour_19 : decode yA_pour.2.1 19 = .ok (.aload_n 2, 1) := by decide +kernel
theorem dA_pour_20 : decode yA_pour.2.1 20 = .ok (.invokevirtual 228, 3) := by decide +kernel
theorem dA_pour_23 : decode yA_pour.2.1 23 = .ok (.ifCond .eq 6, 3) := by decide +kernel
theorem dA_pour_26 : decode yA_pour.2.1 26 = .ok (.ldc 232, 2) := by decide +kernel
theorem dA_pour_28 : decode yA_pour.2.1 28 = .ok (.ireturn, 1) := by decide +kernel
theorem dA_pour_29 : decode yA_pour.2.1 29 = .ok (.iconst 0, 1) := by decide +kernel
theorem dA_pour_30 : decode yA_pour.2.1 30 = .ok (.istore_n 3, 1) := by decide +kernel
theorem dA_pour_31 : decode yA_pour.2.1 31 = .ok (.iconst 0, 1) := by decide +kernel
theorem dA_pour_32 : decode yA_pour.2.1 32 = .ok (.istore 4, 2) := by decide +kernel
theorem dA_pour_34 : decode yA_pour.2.1 34 = .ok (.iload 4, 2) := by decide +kernel
theorem dA_pour_36 : decode yA_pour.2.1 36 = .ok (.aload_n 0, 1) := by decide +kernel
theorem dA_pour_37 : decode yA_pour.2.1 37 = .ok (.getfield 10, 3) := by decide +kernel
theorem dA_pour_40 : decode yA_pour.2.1 40 = .ok (.getfield 70, 3) := by decide +kernel
theorem dA_pour_43 : decode yA_pour.2.1 43 = .ok (.if_icmp .ge 92, 3) := by decide +kernel
theorem dA_pour_46 : decode yA_pour.2.1 46 = .ok (.iload 4, 2) := by decide +kernel
theorem dA_pour_48 : decode yA_pour.2.1 48 = .ok (.aload_n 2, 1) := by decide +kernel
theorem dA_pour_49 : decode yA_pour.2.1 49 = .ok (.getfield 237, 3) := by decide +kernel
theorem dA_pour_52 : decode yA_pour.2.1 52 = .ok (.if_icmp .ge 83, 3) := by decide +kernel
theorem dA_pour_55 : decode yA_pour.2.1 55 = .ok (.aload_n 0, 1) := by decide +kernel
theorem dA_pour_56 : decode yA_pour.2.1 56 = .ok (.getfield 10, 3) := by decide +kernel
theorem dA_pour_59 : decode yA_pour.2.1 59 = .ok (.getfield 78, 3) := by decide +kernel
theorem dA_pour_62 : decode yA_pour.2.1 62 = .ok (.iload 4, 2) := by decide +kernel
theorem dA_pour_64 : decode yA_pour.2.1 64 = .ok (.aaload, 1) := by decide +kernel
theorem dA_pour_65 : decode yA_pour.2.1 65 = .ok (.getfield 111, 3) := by decide +kernel
theorem dA_pour_68 : decode yA_pour.2.1 68 = .ok (.istore 5, 2) := by decide +kernel
theorem dA_pour_70 : decode yA_pour.2.1 70 = .ok (.aload_n 2, 1) := by decide +kernel
theorem dA_pour_71 : decode yA_pour.2.1 71 = .ok (.iload 4, 2) := by decide +kernel
theorem dA_pour_73 : decode yA_pour.2.1 73 = .ok (.invokevirtual 240, 3) := by decide +kernel
theorem dA_pour_76 : decode yA_pour.2.1 76 = .ok (.ifCond .eq 19, 3) := by decide +kernel
theorem dA_pour_79 : decode yA_pour.2.1 79 = .ok (.aload_n 2, 1) := by decide +kernel
theorem dA_pour_80 : decode yA_pour.2.1 80 = .ok (.getfield 243, 3) := by decide +kernel
theorem dA_pour_83 : decode yA_pour.2.1 83 = .ok (.iload 4, 2) := by decide +kernel
theorem dA_pour_85 : decode yA_pour.2.1 85 = .ok (.iaload, 1) := by decide +kernel
theorem dA_pour_86 : decode yA_pour.2.1 86 = .ok (.iconst 0, 1) := by decide +kernel
theorem dA_pour_87 : decode yA_pour.2.1 87 = .ok (.bipush 99, 2) := by decide +kernel
theorem dA_pour_89 : decode yA_pour.2.1 89 = .ok (.invokestatic 303, 3) := by decide +kernel
theorem dA_pour_92 : decode yA_pour.2.1 92 = .ok (.goto 5, 3) := by decide +kernel
theorem dA_pour_95 : decode yA_pour.2.1 95 = .ok (.iload 5, 2) := by decide +kernel
theorem dA_pour_97 : decode yA_pour.2.1 97 = .ok (.istore 6, 2) := by decide +kernel
theorem dA_pour_99 : decode yA_pour.2.1 99 = .ok (.aload_n 0, 1) := by decide +kernel
theorem dA_pour_100 : decode yA_pour.2.1 100 = .ok (.getfield 10, 3) := by decide +kernel
theorem dA_pour_103 : decode yA_pour.2.1 103 = .ok (.getfield 78, 3) := by decide +kernel
theorem dA_pour_106 : decode yA_pour.2.1 106 = .ok (.iload 4, 2) := by decide +kernel
theorem dA_pour_108 : decode yA_pour.2.1 108 = .ok (.aaload, 1) := by decide +kernel
theorem dA_pour_109 : decode yA_pour.2.1 109 = .ok (.iload 6, 2) := by decide +kernel
theorem dA_pour_111 : decode yA_pour.2.1 111 = .ok (.putfield 111, 3) := by decide +kernel
theorem dA_pour_114 : decode yA_pour.2.1 114 = .ok (.iload_n 3, 1) := by decide +kernel
theorem dA_pour_115 : decode yA_pour.2.1 115 = .ok (.iload 6, 2) := by decide +kernel
theorem dA_pour_117 : decode yA_pour.2.1 117 = .ok (.iload 5, 2) := by decide +kernel
theorem dA_pour_119 : decode yA_pour.2.1 119 = .ok (.if_icmp .ne 7, 3) := by decide +kernel
theorem dA_pour_122 : decode yA_pour.2.1 122 = .ok (.iconst 0, 1) := by decide +kernel
theorem dA_pour_123 : decode yA_pour.2.1 123 = .ok (.goto 4, 3) := by decide +kernel
theorem dA_pour_126 : decode yA_pour.2.1 126 = .ok (.iconst 1, 1) := by decide +kernel
theorem dA_pour_127 : decode yA_pour.2.1 127 = .ok (.iadd, 1) := by decide +kernel
theorem dA_pour_128 : decode yA_pour.2.1 128 = .ok (.istore_n 3, 1) := by decide +kernel
theorem dA_pour_129 : decode yA_pour.2.1 129 = .ok (.iinc 4 1, 3) := by decide +kernel
theorem dA_pour_132 : decode yA_pour.2.1 132 = .ok (.goto (-98), 3) := by decide +kernel
theorem dA_pour_135 : decode yA_pour.2.1 135 = .ok (.iload_n 3, 1) := by decide +kernel
theorem dA_pour_136 : decode yA_pour.2.1 136 = .ok (.ireturn, 1) := by decide +kernel
theorem dA_reads_0 : decode yA_reads.2.1 0 = .ok (.iload_n 1, 1) := by decide +kernel
theorem dA_reads_1 : decode yA_reads.2.1 1 = .ok (.iconst 0, 1) := by decide +kernel
theorem dA_reads_2 : decode yA_reads.2.1 2 = .ok (.iconst 3, 1) := by decide +kernel
theorem dA_reads_3 : decode yA_reads.2.1 3 = .ok (.invokestatic 61, 3) := by decide +kernel
theorem dA_reads_6 : decode yA_reads.2.1 6 = .ok (.ifCond .eq 6, 3) := by decide +kernel
theorem dA_reads_9 : decode yA_reads.2.1 9 = .ok (.ldc 65, 2) := by decide +kernel
theorem dA_reads_11 : decode yA_reads.2.1 11 = .ok (.ireturn, 1) := by decide +kernel
theorem dA_reads_12 : decode yA_reads.2.1 12 = .ok (.aload_n 0, 1) := by decide +kernel
theorem dA_reads_13 : decode yA_reads.2.1 13 = .ok (.getfield 31, 3) := by decide +kernel
theorem dA_reads_16 : decode yA_reads.2.1 16 = .ok (.iload_n 1, 1) := by decide +kernel
theorem dA_reads_17 : decode yA_reads.2.1 17 = .ok (.aaload, 1) := by decide +kernel
theorem dA_reads_18 : decode yA_reads.2.1 18 = .ok (.astore_n 2, 1) := by decide +kernel
theorem dA_reads_19 : decode yA_reads.2.1 19 = .ok (.aload_n 2, 1) := by decide +kernel
theorem dA_reads_20 : decode yA_reads.2.1 20 = .ok (.invokevirtual 228, 3) := by decide +kernel
theorem dA_reads_23 : decode yA_reads.2.1 23 = .ok (.ifCond .eq 6, 3) := by decide +kernel
theorem dA_reads_26 : decode yA_reads.2.1 26 = .ok (.ldc 232, 2) := by decide +kernel
theorem dA_reads_28 : decode yA_reads.2.1 28 = .ok (.ireturn, 1) := by decide +kernel
theorem dA_reads_29 : decode yA_reads.2.1 29 = .ok (.iconst 0, 1) := by decide +kernel
theorem dA_reads_30 : decode yA_reads.2.1 30 = .ok (.istore_n 3, 1) := by decide +kernel
theorem dA_reads_31 : decode yA_reads.2.1 31 = .ok (.iload_n 3, 1) := by decide +kernel
theorem dA_reads_32 : decode yA_reads.2.1 32 = .ok (.aload_n 2, 1) := by decide +kernel
theorem dA_reads_33 : decode yA_reads.2.1 33 = .ok (.getfield 237, 3) := by decide +kernel
theorem dA_reads_36 : decode yA_reads.2.1 36 = .ok (.if_icmp .ge 63, 3) := by decide +kernel
theorem dA_reads_39 : decode yA_reads.2.1 39 = .ok (.iload_n 3, 1) := by decide +kernel
theorem dA_reads_40 : decode yA_reads.2.1 40 = .ok (.aload_n 0, 1) := by decide +kernel
theorem dA_reads_41 : decode yA_reads.2.1 41 = .ok (.getfield 10, 3) := by decide +kernel
theorem dA_reads_44 : decode yA_reads.2.1 44 = .ok (.getfield 70, 3) := by decide +kernel
theorem dA_reads_47 : decode yA_reads.2.1 47 = .ok (.if_icmp .ge 28, 3) := by decide +kernel
theorem dA_reads_50 : decode yA_reads.2.1 50 = .ok (.aload_n 2, 1) := by decide +kernel
theorem dA_reads_51 : decode yA_reads.2.1 51 = .ok (.getfield 243, 3) := by decide +kernel
theorem dA_reads_54 : decode yA_reads.2.1 54 = .ok (.iload_n 3, 1) := by decide +kernel
theorem dA_reads_55 : decode yA_reads.2.1 55 = .ok (.iaload, 1) := by decide +kernel
theorem dA_reads_56 : decode yA_reads.2.1 56 = .ok (.aload_n 0, 1) := by decide +kernel
theorem dA_reads_57 : decode yA_reads.2.1 57 = .ok (.getfield 10, 3) := by decide +kernel
theorem dA_reads_60 : decode yA_reads.2.1 60 = .ok (.getfield 78, 3) := by decide +kernel
theorem dA_reads_63 : decode yA_reads.2.1 63 = .ok (.iload_n 3, 1) := by decide +kernel
theorem dA_reads_64 : decode yA_reads.2.1 64 = .ok (.aaload, 1) := by decide +kernel
theorem dA_reads_65 : decode yA_reads.2.1 65 = .ok (.getfield 88, 3) := by decide +kernel
theorem dA_reads_68 : decode yA_reads.2.1 68 = .ok (.if_icmp .ne 7, 3) := by decide +kernel
theorem dA_reads_71 : decode yA_reads.2.1 71 = .ok (.iconst 1, 1) := by decide +kernel
theorem dA_reads_72 : decode yA_reads.2.1 72 = .ok (.goto 4, 3) := by decide +kernel
theorem dA_reads_75 : decode yA_reads.2.1 75 = .ok (.iconst 0, 1) := by decide +kernel
theorem dA_reads_76 : decode yA_reads.2.1 76 = .ok (.istore 4, 2) := by decide +kernel
theorem dA_reads_78 : decode yA_reads.2.1 78 = .ok (.aload_n 2, 1) := by decide +kernel
theorem dA_reads_79 : decode yA_reads.2.1 79 = .ok (.iload_n 3, 1) := by decide +kernel
theorem dA_reads_80 : decode yA_reads.2.1 80 = .ok (.invokevirtual 240, 3) := by decide +kernel
theorem dA_reads_83 : decode yA_reads.2.1 83 = .ok (.ifCond .eq 10, 3) := by decide +kernel
theorem dA_reads_86 : decode yA_reads.2.1 86 = .ok (.iload 4, 2) := by decide +kernel
theorem dA_reads_88 : decode yA_reads.2.1 88 = .ok (.ifCond .ne 5, 3) := by decide +kernel
theorem dA_reads_91 : decode yA_reads.2.1 91 = .ok (.iload_n 3, 1) := by decide +kernel
theorem dA_reads_92 : decode yA_reads.2.1 92 = .ok (.ireturn, 1) := by decide +kernel
theorem dA_reads_93 : decode yA_reads.2.1 93 = .ok (.iinc 3 1, 3) := by decide +kernel
theorem dA_reads_96 : decode yA_reads.2.1 96 = .ok (.goto (-65), 3) := by decide +kernel
theorem dA_reads_99 : decode yA_reads.2.1 99 = .ok (.ldc 162, 2) := by decide +kernel
theorem dA_reads_101 : decode yA_reads.2.1 101 = .ok (.ireturn, 1) := by decide +kernel
theorem dA_copy_0 : decode yA_copy.2.1 0 = .ok (.iload_n 1, 1) := by decide +kernel
theorem dA_copy_1 : decode yA_copy.2.1 1 = .ok (.iconst 0, 1) := by decide +kernel
theorem dA_copy_2 : decode yA_copy.2.1 2 = .ok (.iconst 3, 1) := by decide +kernel
theorem dA_copy_3 : decode yA_copy.2.1 3 = .ok (.invokestatic 61, 3) := by decide +kernel
theorem dA_copy_6 : decode yA_copy.2.1 6 = .ok (.ifCond .ne 12, 3) := by decide +kernel
theorem dA_copy_9 : decode yA_copy.2.1 9 = .ok (.iload_n 3, 1) := by decide +kernel
theorem dA_copy_10 : decode yA_copy.2.1 10 = .ok (.iconst 0, 1) := by decide +kernel
theorem dA_copy_11 : decode yA_copy.2.1 11 = .ok (.iconst 3, 1) := by decide +kernel
theorem dA_copy_12 : decode yA_copy.2.1 12 = .ok (.invokestatic 61, 3) := by decide +kernel
theorem dA_copy_15 : decode yA_copy.2.1 15 = .ok (.ifCond .eq 6, 3) := by decide +kernel
theorem dA_copy_18 : decode yA_copy.2.1 18 = .ok (.ldc 65, 2) := by decide +kernel
theorem dA_copy_20 : decode yA_copy.2.1 20 = .ok (.ireturn, 1) := by decide +kernel
theorem dA_copy_21 : decode yA_copy.2.1 21 = .ok (.aload_n 0, 1) := by decide +kernel
theorem dA_copy_22 : decode yA_copy.2.1 22 = .ok (.getfield 31, 3) := by decide +kernel
theorem dA_copy_25 : decode yA_copy.2.1 25 = .ok (.iload_n 1, 1) := by decide +kernel
theorem dA_copy_26 : decode yA_copy.2.1 26 = .ok (.aaload, 1) := by decide +kernel
theorem dA_copy_27 : decode yA_copy.2.1 27 = .ok (.astore 6, 2) := by decide +kernel
theorem dA_copy_29 : decode yA_copy.2.1 29 = .ok (.aload_n 0, 1) := by decide +kernel
theorem dA_copy_30 : decode yA_copy.2.1 30 = .ok (.getfield 31, 3) := by decide +kernel
theorem dA_copy_33 : decode yA_copy.2.1 33 = .ok (.iload_n 3, 1) := by decide +kernel
theorem dA_copy_34 : decode yA_copy.2.1 34 = .ok (.aaload, 1) := by decide +kernel
theorem dA_copy_35 : decode yA_copy.2.1 35 = .ok (.astore 7, 2) := by decide +kernel
theorem dA_copy_37 : decode yA_copy.2.1 37 = .ok (.aload 6, 2) := by decide +kernel
theorem dA_copy_39 : decode yA_copy.2.1 39 = .ok (.invokevirtual 228, 3) := by decide +kernel
theorem dA_copy_42 : decode yA_copy.2.1 42 = .ok (.ifCond .ne 11, 3) := by decide +kernel
theorem dA_copy_45 : decode yA_copy.2.1 45 = .ok (.aload 7, 2) := by decide +kernel
theorem dA_copy_47 : decode yA_copy.2.1 47 = .ok (.invokevirtual 228, 3) := by decide +kernel
theorem dA_copy_50 : decode yA_copy.2.1 50 = .ok (.ifCond .eq 6, 3) := by decide +kernel
theorem dA_copy_53 : decode yA_copy.2.1 53 = .ok (.ldc 232, 2) := by decide +kernel
theorem dA_copy_55 : decode yA_copy.2.1 55 = .ok (.ireturn, 1) := by decide +kernel
theorem dA_copy_56 : decode yA_copy.2.1 56 = .ok (.aload 6, 2) := by decide +kernel
theorem dA_copy_58 : decode yA_copy.2.1 58 = .ok (.getfield 299, 3) := by decide +kernel
theorem dA_copy_61 : decode yA_copy.2.1 61 = .ok (.aload 7, 2) := by decide +kernel
theorem dA_copy_63 : decode yA_copy.2.1 63 = .ok (.getfield 299, 3) := by decide +kernel
theorem dA_copy_66 : decode yA_copy.2.1 66 = .ok (.if_icmp .eq 6, 3) := by decide +kernel
theorem dA_copy_69 : decode yA_copy.2.1 69 = .ok (.ldc 114, 2) := by decide +kernel
theorem dA_copy_71 : decode yA_copy.2.1 71 = .ok (.ireturn, 1) := by decide +kernel
theorem dA_copy_72 : decode yA_copy.2.1 72 = .ok (.iload 5, 2) := by decide +kernel
theorem dA_copy_74 : decode yA_copy.2.1 74 = .ok (.ifCond .lt 26, 3) := by decide +kernel
theorem dA_copy_77 : decode yA_copy.2.1 77 = .ok (.aload 6, 2) := by decide +kernel
theorem dA_copy_79 : decode yA_copy.2.1 79 = .ok (.iload_n 2, 1) := by decide +kernel
theorem dA_copy_80 : decode yA_copy.2.1 80 = .ok (.iload 5, 2) := by decide +kernel
theorem dA_copy_82 : decode yA_copy.2.1 82 = .ok (.invokevirtual 306, 3) := by decide +kernel
theorem dA_copy_85 : decode yA_copy.2.1 85 = .ok (.ifCond .eq 15, 3) := by decide +kernel
theorem dA_copy_88 : decode yA_copy.2.1 88 = .ok (.aload 7, 2) := by decide +kernel
theorem dA_copy_90 : decode yA_copy.2.1 90 = .ok (.iload 4, 2) := by decide +kernel
theorem dA_copy_92 : decode yA_copy.2.1 92 = .ok (.iload 5, 2) := by decide +kernel
theorem dA_copy_94 : decode yA_copy.2.1 94 = .ok (.invokevirtual 306, 3) := by decide +kernel
theorem dA_copy_97 : decode yA_copy.2.1 97 = .ok (.ifCond .ne 7, 3) := by decide +kernel
theorem dA_copy_100 : decode yA_copy.2.1 100 = .ok (.ldc_w 298, 3) := by decide +kernel
theorem dA_copy_103 : decode yA_copy.2.1 103 = .ok (.ireturn, 1) := by decide +kernel
theorem dA_copy_104 : decode yA_copy.2.1 104 = .ok (.aload 6, 2) := by decide +kernel
theorem dA_copy_106 : decode yA_copy.2.1 106 = .ok (.getfield 243, 3) := by decide +kernel
theorem dA_copy_109 : decode yA_copy.2.1 109 = .ok (.iload_n 2, 1) := by decide +kernel
theorem dA_copy_110 : decode yA_copy.2.1 110 = .ok (.aload 7, 2) := by decide +kernel
theorem dA_copy_112 : decode yA_copy.2.1 112 = .ok (.getfield 243, 3) := by decide +kernel
theorem dA_copy_115 : decode yA_copy.2.1 115 = .ok (.iload 4, 2) := by decide +kernel
theorem dA_copy_117 : decode yA_copy.2.1 117 = .ok (.iload 5, 2) := by decide +kernel
theorem dA_copy_119 : decode yA_copy.2.1 119 = .ok (.invokestatic 310, 3) := by decide +kernel
theorem dA_copy_122 : decode yA_copy.2.1 122 = .ok (.iload 5, 2) := by decide +kernel
theorem dA_copy_124 : decode yA_copy.2.1 124 = .ok (.ireturn, 1) := by decide +kernel
theorem dA_lay_0 : decode yA_lay.2.1 0 = .ok (.iload_n 1, 1) := by decide +kernel
theorem dA_lay_1 : decode yA_lay.2.1 1 = .ok (.iconst 0, 1) := by decide +kernel
theorem dA_lay_2 : decode yA_lay.2.1 2 = .ok (.iconst 4, 1) := by decide +kernel
theorem dA_lay_3 : decode yA_lay.2.1 3 = .ok (.invokestatic 61, 3) := by decide +kernel
theorem dA_lay_6 : decode yA_lay.2.1 6 = .ok (.ifCond .ne 12, 3) := by decide +kernel
theorem dA_lay_9 : decode yA_lay.2.1 9 = .ok (.iload_n 2, 1) := by decide +kernel
theorem dA_lay_10 : decode yA_lay.2.1 10 = .ok (.iconst 0, 1) := by decide +kernel
theorem dA_lay_11 : decode yA_lay.2.1 11 = .ok (.iconst 3, 1) := by decide +kernel
theorem dA_lay_12 : decode yA_lay.2.1 12 = .ok (.invokestatic 61, 3) := by decide +kernel
theorem dA_lay_15 : decode yA_lay.2.1 15 = .ok (.ifCond .eq 6, 3) := by decide +kernel
theorem dA_lay_18 : decode yA_lay.2.1 18 = .ok (.ldc 65, 2) := by decide +kernel
theorem dA_lay_20 : decode yA_lay.2.1 20 = .ok (.ireturn, 1) := by decide +kernel
theorem dA_lay_21 : decode yA_lay.2.1 21 = .ok (.aload_n 0, 1) := by decide +kernel
theorem dA_lay_22 : decode yA_lay.2.1 22 = .ok (.getfield 37, 3) := by decide +kernel
theorem dA_lay_25 : decode yA_lay.2.1 25 = .ok (.iload_n 1, 1) := by decide +kernel
theorem dA_lay_26 : decode yA_lay.2.1 26 = .ok (.aaload, 1) := by decide +kernel
theorem dA_lay_27 : decode yA_lay.2.1 27 = .ok (.astore 4, 2) := by decide +kernel
theorem dA_lay_29 : decode yA_lay.2.1 29 = .ok (.iload_n 2, 1) := by decide +kernel
theorem dA_lay_30 : decode yA_lay.2.1 30 = .ok (.iconst 1, 1) := by decide +kernel
theorem dA_lay_31 : decode yA_lay.2.1 31 = .ok (.if_icmp .ne 37, 3) := by decide +kernel
theorem dA_lay_34 : decode yA_lay.2.1 34 = .ok (.aload_n 0, 1) := by decide +kernel
theorem dA_lay_35 : decode yA_lay.2.1 35 = .ok (.getfield 10, 3) := by decide +kernel
theorem dA_lay_38 : decode yA_lay.2.1 38 = .ok (.iload_n 3, 1) := by decide +kernel
theorem dA_lay_39 : decode yA_lay.2.1 39 = .ok (.invokevirtual 74, 3) := by decide +kernel
theorem dA_lay_42 : decode yA_lay.2.1 42 = .ok (.ifCond .ne 6, 3) := by decide +kernel
theorem dA_lay_45 : decode yA_lay.2.1 45 = .ok (.ldc 65, 2) := by decide +kernel
theorem dA_lay_47 : decode yA_lay.2.1 47 = .ok (.ireturn, 1) := by decide +kernel
theorem dA_lay_48 : decode yA_lay.2.1 48 = .ok (.aload 4, 2) := by decide +kernel
theorem dA_lay_50 : decode yA_lay.2.1 50 = .ok (.getfield 316, 3) := by decide +kernel
theorem dA_lay_53 : decode yA_lay.2.1 53 = .ok (.aload_n 0, 1) := by decide +kernel
theorem dA_lay_54 : decode yA_lay.2.1 54 = .ok (.getfield 10, 3) := by decide +kernel
theorem dA_lay_57 : decode yA_lay.2.1 57 = .ok (.getfield 78, 3) := by decide +kernel
theorem dA_lay_60 : decode yA_lay.2.1 60 = .ok (.iload_n 3, 1) := by decide +kernel
theorem dA_lay_61 : decode yA_lay.2.1 61 = .ok (.aaload, 1) := by decide +kernel
theorem dA_lay_62 : decode yA_lay.2.1 62 = .ok (.invokevirtual 320, 3) := by decide +kernel
theorem dA_lay_65 : decode yA_lay.2.1 65 = .ok (.goto 49, 3) := by decide +kernel
theorem dA_lay_68 : decode yA_lay.2.1 68 = .ok (.iload_n 2, 1) := by decide +kernel
theorem dA_lay_69 : decode yA_lay.2.1 69 = .ok (.iconst 2, 1) := by decide +kernel
theorem dA_lay_70 : decode yA_lay.2.1 70 = .ok (.if_icmp .ne 44, 3) := by decide +kernel
theorem dA_lay_73 : decode yA_lay.2.1 73 = .ok (.iload_n 3, 1) := by decide +kernel
theorem dA_lay_74 : decode yA_lay.2.1 74 = .ok (.iconst 0, 1) := by decide +kernel
theorem dA_lay_75 : decode yA_lay.2.1 75 = .ok (.iconst 3, 1) := by decide +kernel
theorem dA_lay_76 : decode yA_lay.2.1 76 = .ok (.invokestatic 61, 3) := by decide +kernel
theorem dA_lay_79 : decode yA_lay.2.1 79 = .ok (.ifCond .eq 6, 3) := by decide +kernel
theorem dA_lay_82 : decode yA_lay.2.1 82 = .ok (.ldc 65, 2) := by decide +kernel
theorem dA_lay_84 : decode yA_lay.2.1 84 = .ok (.ireturn, 1) := by decide +kernel
theorem dA_lay_85 : decode yA_lay.2.1 85 = .ok (.aload_n 0, 1) := by decide +kernel
theorem dA_lay_86 : decode yA_lay.2.1 86 = .ok (.getfield 31, 3) := by decide +kernel
theorem dA_lay_89 : decode yA_lay.2.1 89 = .ok (.iload_n 3, 1) := by decide +kernel
theorem dA_lay_90 : decode yA_lay.2.1 90 = .ok (.aaload, 1) := by decide +kernel
theorem dA_lay_91 : decode yA_lay.2.1 91 = .ok (.invokevirtual 228, 3) := by decide +kernel
theorem dA_lay_94 : decode yA_lay.2.1 94 = .ok (.ifCond .eq 6, 3) := by decide +kernel
theorem dA_lay_97 : decode yA_lay.2.1 97 = .ok (.ldc 232, 2) := by decide +kernel
theorem dA_lay_99 : decode yA_lay.2.1 99 = .ok (.ireturn, 1) := by decide +kernel
theorem dA_lay_100 : decode yA_lay.2.1 100 = .ok (.aload 4, 2) := by decide +kernel
theorem dA_lay_102 : decode yA_lay.2.1 102 = .ok (.getfield 323, 3) := by decide +kernel
theorem dA_lay_105 : decode yA_lay.2.1 105 = .ok (.aload_n 0, 1) := by decide +kernel
theorem dA_lay_106 : decode yA_lay.2.1 106 = .ok (.getfield 31, 3) := by decide +kernel
theorem dA_lay_109 : decode yA_lay.2.1 109 = .ok (.iload_n 3, 1) := by decide +kernel
theorem dA_lay_110 : decode yA_lay.2.1 110 = .ok (.aaload, 1) := by decide +kernel
theorem dA_lay_111 : decode yA_lay.2.1 111 = .ok (.invokevirtual 327, 3) := by decide +kernel
theorem dA_lay_114 : decode yA_lay.2.1 114 = .ok (.aload 4, 2) := by decide +kernel
theorem dA_lay_116 : decode yA_lay.2.1 116 = .ok (.iload_n 3, 1) := by decide +kernel
theorem dA_lay_117 : decode yA_lay.2.1 117 = .ok (.putfield 329, 3) := by decide +kernel
theorem dA_lay_120 : decode yA_lay.2.1 120 = .ok (.aload 4, 2) := by decide +kernel
theorem dA_lay_122 : decode yA_lay.2.1 122 = .ok (.getfield 332, 3) := by decide +kernel
theorem dA_lay_125 : decode yA_lay.2.1 125 = .ok (.istore 5, 2) := by decide +kernel
theorem dA_lay_127 : decode yA_lay.2.1 127 = .ok (.aload 4, 2) := by decide +kernel
theorem dA_lay_129 : decode yA_lay.2.1 129 = .ok (.iload_n 2, 1) := by decide +kernel
theorem dA_lay_130 : decode yA_lay.2.1 130 = .ok (.putfield 332, 3) := by decide +kernel
theorem dA_lay_133 : decode yA_lay.2.1 133 = .ok (.iload 5, 2) := by decide +kernel
theorem dA_lay_135 : decode yA_lay.2.1 135 = .ok (.ireturn, 1) := by decide +kernel
theorem dA_ask_0 : decode yA_ask.2.1 0 = .ok (.iload_n 1, 1) := by decide +kernel
theorem dA_ask_1 : decode yA_ask.2.1 1 = .ok (.iconst 0, 1) := by decide +kernel
theorem dA_ask_2 : decode yA_ask.2.1 2 = .ok (.iconst 4, 1) := by decide +kernel
theorem dA_ask_3 : decode yA_ask.2.1 3 = .ok (.invokestatic 61, 3) := by decide +kernel
theorem dA_ask_6 : decode yA_ask.2.1 6 = .ok (.ifCond .ne 12, 3) := by decide +kernel
theorem dA_ask_9 : decode yA_ask.2.1 9 = .ok (.iload_n 2, 1) := by decide +kernel
theorem dA_ask_10 : decode yA_ask.2.1 10 = .ok (.iconst 0, 1) := by decide +kernel
theorem dA_ask_11 : decode yA_ask.2.1 11 = .ok (.iconst 5, 1) := by decide +kernel
theorem dA_ask_12 : decode yA_ask.2.1 12 = .ok (.invokestatic 61, 3) := by decide +kernel
theorem dA_ask_15 : decode yA_ask.2.1 15 = .ok (.ifCond .eq 6, 3) := by decide +kernel
theorem dA_ask_18 : decode yA_ask.2.1 18 = .ok (.ldc 65, 2) := by decide +kernel
theorem dA_ask_20 : decode yA_ask.2.1 20 = .ok (.ireturn, 1) := by decide +kernel
theorem dA_ask_21 : decode yA_ask.2.1 21 = .ok (.aload_n 0, 1) := by decide +kernel
theorem dA_ask_22 : decode yA_ask.2.1 22 = .ok (.getfield 37, 3) := by decide +kernel
theorem dA_ask_25 : decode yA_ask.2.1 25 = .ok (.iload_n 1, 1) := by decide +kernel
theorem dA_ask_26 : decode yA_ask.2.1 26 = .ok (.aaload, 1) := by decide +kernel
theorem dA_ask_27 : decode yA_ask.2.1 27 = .ok (.astore_n 3, 1) := by decide +kernel
theorem dA_ask_28 : decode yA_ask.2.1 28 = .ok (.aload_n 3, 1) := by decide +kernel
theorem dA_ask_29 : decode yA_ask.2.1 29 = .ok (.getfield 332, 3) := by decide +kernel
theorem dA_ask_32 : decode yA_ask.2.1 32 = .ok (.ifCond .ne 6, 3) := by decide +kernel
theorem dA_ask_35 : decode yA_ask.2.1 35 = .ok (.ldc 232, 2) := by decide +kernel
theorem dA_ask_37 : decode yA_ask.2.1 37 = .ok (.ireturn, 1) := by decide +kernel
theorem dA_ask_38 : decode yA_ask.2.1 38 = .ok (.aload_n 3, 1) := by decide +kernel
theorem dA_ask_39 : decode yA_ask.2.1 39 = .ok (.getfield 332, 3) := by decide +kernel
theorem dA_ask_42 : decode yA_ask.2.1 42 = .ok (.iconst 1, 1) := by decide +kernel
theorem dA_ask_43 : decode yA_ask.2.1 43 = .ok (.if_icmp .ne 24, 3) := by decide +kernel
theorem dA_ask_46 : decode yA_ask.2.1 46 = .ok (.aload_n 3, 1) := by decide +kernel
theorem dA_ask_47 : decode yA_ask.2.1 47 = .ok (.getfield 316, 3) := by decide +kernel
theorem dA_ask_50 : decode yA_ask.2.1 50 = .ok (.iload_n 2, 1) := by decide +kernel
theorem dA_ask_51 : decode yA_ask.2.1 51 = .ok (.invokevirtual 108, 3) := by decide +kernel
theorem dA_ask_54 : decode yA_ask.2.1 54 = .ok (.ifCond .eq 13, 3) := by decide +kernel
theorem dA_ask_57 : decode yA_ask.2.1 57 = .ok (.aload_n 3, 1) := by decide +kernel
theorem dA_ask_58 : decode yA_ask.2.1 58 = .ok (.getfield 316, 3) := by decide +kernel
theorem dA_ask_61 : decode yA_ask.2.1 61 = .ok (.invokevirtual 105, 3) := by decide +kernel
theorem dA_ask_64 : decode yA_ask.2.1 64 = .ok (.goto 5, 3) := by decide +kernel
theorem dA_ask_67 : decode yA_ask.2.1 67 = .ok (.ldc 114, 2) := by decide +kernel
theorem dA_ask_69 : decode yA_ask.2.1 69 = .ok (.ireturn, 1) := by decide +kernel
theorem dA_item_0 : decode yA_item.2.1 0 = .ok (.iload_n 1, 1) := by decide +kernel
theorem dA_item_1 : decode yA_item.2.1 1 = .ok (.iconst 0, 1) := by decide +kernel
theorem dA_item_2 : decode yA_item.2.1 2 = .ok (.iconst 4, 1) := by decide +kernel
theorem dA_item_3 : decode yA_item.2.1 3 = .ok (.invokestatic 61, 3) := by decide +kernel
theorem dA_item_6 : decode yA_item.2.1 6 = .ok (.ifCond .eq 6, 3) := by decide +kernel
theorem dA_item_9 : decode yA_item.2.1 9 = .ok (.ldc 65, 2) := by decide +kernel
theorem dA_item_11 : decode yA_item.2.1 11 = .ok (.ireturn, 1) := by decide +kernel
theorem dA_item_12 : decode yA_item.2.1 12 = .ok (.aload_n 0, 1) := by decide +kernel
theorem dA_item_13 : decode yA_item.2.1 13 = .ok (.getfield 37, 3) := by decide +kernel
theorem dA_item_16 : decode yA_item.2.1 16 = .ok (.iload_n 1, 1) := by decide +kernel
theorem dA_item_17 : decode yA_item.2.1 17 = .ok (.aaload, 1) := by decide +kernel
theorem dA_item_18 : decode yA_item.2.1 18 = .ok (.astore_n 3, 1) := by decide +kernel
theorem dA_item_19 : decode yA_item.2.1 19 = .ok (.aload_n 3, 1) := by decide +kernel
theorem dA_item_20 : decode yA_item.2.1 20 = .ok (.getfield 332, 3) := by decide +kernel
theorem dA_item_23 : decode yA_item.2.1 23 = .ok (.ifCond .ne 6, 3) := by decide +kernel
theorem dA_item_26 : decode yA_item.2.1 26 = .ok (.ldc 232, 2) := by decide +kernel
theorem dA_item_28 : decode yA_item.2.1 28 = .ok (.ireturn, 1) := by decide +kernel
theorem dA_item_29 : decode yA_item.2.1 29 = .ok (.aload_n 3, 1) := by decide +kernel
theorem dA_item_30 : decode yA_item.2.1 30 = .ok (.getfield 332, 3) := by decide +kernel
theorem dA_item_33 : decode yA_item.2.1 33 = .ok (.iconst 2, 1) := by decide +kernel
theorem dA_item_34 : decode yA_item.2.1 34 = .ok (.if_icmp .eq 6, 3) := by decide +kernel
theorem dA_item_37 : decode yA_item.2.1 37 = .ok (.ldc 114, 2) := by decide +kernel
theorem dA_item_39 : decode yA_item.2.1 39 = .ok (.ireturn, 1) := by decide +kernel
theorem dA_item_40 : decode yA_item.2.1 40 = .ok (.iload_n 2, 1) := by decide +kernel
theorem dA_item_41 : decode yA_item.2.1 41 = .ok (.iconst 0, 1) := by decide +kernel
theorem dA_item_42 : decode yA_item.2.1 42 = .ok (.aload_n 3, 1) := by decide +kernel
theorem dA_item_43 : decode yA_item.2.1 43 = .ok (.getfield 323, 3) := by decide +kernel
theorem dA_item_46 : decode yA_item.2.1 46 = .ok (.getfield 237, 3) := by decide +kernel
theorem dA_item_49 : decode yA_item.2.1 49 = .ok (.iconst 1, 1) := by decide +kernel
theorem dA_item_50 : decode yA_item.2.1 50 = .ok (.isub, 1) := by decide +kernel
theorem dA_item_51 : decode yA_item.2.1 51 = .ok (.invokestatic 61, 3) := by decide +kernel
theorem dA_item_54 : decode yA_item.2.1 54 = .ok (.ifCond .eq 7, 3) := by decide +kernel
theorem dA_item_57 : decode yA_item.2.1 57 = .ok (.ldc_w 298, 3) := by decide +kernel
theorem dA_item_60 : decode yA_item.2.1 60 = .ok (.ireturn, 1) := by decide +kernel
theorem dA_item_61 : decode yA_item.2.1 61 = .ok (.aload_n 3, 1) := by decide +kernel
theorem dA_item_62 : decode yA_item.2.1 62 = .ok (.getfield 323, 3) := by decide +kernel
theorem dA_item_65 : decode yA_item.2.1 65 = .ok (.iload_n 2, 1) := by decide +kernel
theorem dA_item_66 : decode yA_item.2.1 66 = .ok (.invokevirtual 240, 3) := by decide +kernel
theorem dA_item_69 : decode yA_item.2.1 69 = .ok (.ifCond .eq 15, 3) := by decide +kernel
theorem dA_item_72 : decode yA_item.2.1 72 = .ok (.aload_n 3, 1) := by decide +kernel
theorem dA_item_73 : decode yA_item.2.1 73 = .ok (.getfield 323, 3) := by decide +kernel
theorem dA_item_76 : decode yA_item.2.1 76 = .ok (.getfield 243, 3) := by decide +kernel
theorem dA_item_79 : decode yA_item.2.1 79 = .ok (.iload_n 2, 1) := by decide +kernel
theorem dA_item_80 : decode yA_item.2.1 80 = .ok (.iaload, 1) := by decide +kernel
theorem dA_item_81 : decode yA_item.2.1 81 = .ok (.goto 5, 3) := by decide +kernel
theorem dA_item_84 : decode yA_item.2.1 84 = .ok (.ldc 114, 2) := by decide +kernel
theorem dA_item_86 : decode yA_item.2.1 86 = .ok (.ireturn, 1) := by decide +kernel
theorem dA_rest_0 : decode yA_rest.2.1 0 = .ok (.iload_n 1, 1) := by decide +kernel
theorem dA_rest_1 : decode yA_rest.2.1 1 = .ok (.iconst 0, 1) := by decide +kernel
theorem dA_rest_2 : decode yA_rest.2.1 2 = .ok (.iconst 4, 1) := by decide +kernel
theorem dA_rest_3 : decode yA_rest.2.1 3 = .ok (.invokestatic 61, 3) := by decide +kernel
theorem dA_rest_6 : decode yA_rest.2.1 6 = .ok (.ifCond .eq 6, 3) := by decide +kernel
theorem dA_rest_9 : decode yA_rest.2.1 9 = .ok (.ldc 65, 2) := by decide +kernel
theorem dA_rest_11 : decode yA_rest.2.1 11 = .ok (.ireturn, 1) := by decide +kernel
theorem dA_rest_12 : decode yA_rest.2.1 12 = .ok (.aload_n 0, 1) := by decide +kernel
theorem dA_rest_13 : decode yA_rest.2.1 13 = .ok (.getfield 37, 3) := by decide +kernel
theorem dA_rest_16 : decode yA_rest.2.1 16 = .ok (.iload_n 1, 1) := by decide +kernel
theorem dA_rest_17 : decode yA_rest.2.1 17 = .ok (.aaload, 1) := by decide +kernel
theorem dA_rest_18 : decode yA_rest.2.1 18 = .ok (.astore_n 3, 1) := by decide +kernel
theorem dA_rest_19 : decode yA_rest.2.1 19 = .ok (.aload_n 3, 1) := by decide +kernel
theorem dA_rest_20 : decode yA_rest.2.1 20 = .ok (.getfield 332, 3) := by decide +kernel
theorem dA_rest_23 : decode yA_rest.2.1 23 = .ok (.ifCond .ne 6, 3) := by decide +kernel
theorem dA_rest_26 : decode yA_rest.2.1 26 = .ok (.ldc 232, 2) := by decide +kernel
theorem dA_rest_28 : decode yA_rest.2.1 28 = .ok (.ireturn, 1) := by decide +kernel
theorem dA_rest_29 : decode yA_rest.2.1 29 = .ok (.aload_n 3, 1) := by decide +kernel
theorem dA_rest_30 : decode yA_rest.2.1 30 = .ok (.getfield 332, 3) := by decide +kernel
theorem dA_rest_33 : decode yA_rest.2.1 33 = .ok (.iconst 3, 1) := by decide +kernel
theorem dA_rest_34 : decode yA_rest.2.1 34 = .ok (.if_icmp .eq 6, 3) := by decide +kernel
theorem dA_rest_37 : decode yA_rest.2.1 37 = .ok (.ldc 114, 2) := by decide +kernel
theorem dA_rest_39 : decode yA_rest.2.1 39 = .ok (.ireturn, 1) := by decide +kernel
theorem dA_rest_40 : decode yA_rest.2.1 40 = .ok (.iload_n 2, 1) := by decide +kernel
theorem dA_rest_41 : decode yA_rest.2.1 41 = .ok (.ifCond .ne 9, 3) := by decide +kernel
theorem dA_rest_44 : decode yA_rest.2.1 44 = .ok (.ldc_w 335, 3) := by decide +kernel
theorem dA_rest_47 : decode yA_rest.2.1 47 = .ok (.goto 9, 3) := by decide +kernel
theorem dA_rest_50 : decode yA_rest.2.1 50 = .ok (.aload_n 3, 1) := by decide +kernel
theorem dA_rest_51 : decode yA_rest.2.1 51 = .ok (.getfield 329, 3) := by decide +kernel
theorem dA_rest_54 : decode yA_rest.2.1 54 = .ok (.iload_n 2, 1) := by decide +kernel
theorem dA_rest_55 : decode yA_rest.2.1 55 = .ok (.irem, 1) := by decide +kernel
theorem dA_rest_56 : decode yA_rest.2.1 56 = .ok (.ireturn, 1) := by decide +kernel
theorem dA_tell_0 : decode yA_tell.2.1 0 = .ok (.aload_n 0, 1) := by decide +kernel
theorem dA_tell_1 : decode yA_tell.2.1 1 = .ok (.getfield 51, 3) := by decide +kernel
theorem dA_tell_4 : decode yA_tell.2.1 4 = .ok (.bipush 60, 2) := by decide +kernel
theorem dA_tell_6 : decode yA_tell.2.1 6 = .ok (.if_icmp .lt 6, 3) := by decide +kernel
theorem dA_tell_9 : decode yA_tell.2.1 9 = .ok (.ldc 73, 2) := by decide +kernel
theorem dA_tell_11 : decode yA_tell.2.1 11 = .ok (.ireturn, 1) := by decide +kernel
theorem dA_tell_12 : decode yA_tell.2.1 12 = .ok (.aload_n 0, 1) := by decide +kernel
theorem dA_tell_13 : decode yA_tell.2.1 13 = .ok (.getfield 41, 3) := by decide +kernel
theorem dA_tell_16 : decode yA_tell.2.1 16 = .ok (.aload_n 0, 1) := by decide +kernel
theorem dA_tell_17 : decode yA_tell.2.1 17 = .ok (.getfield 51, 3) := by decide +kernel
theorem dA_tell_20 : decode yA_tell.2.1 20 = .ok (.iload_n 1, 1) := by decide +kernel
theorem dA_tell_21 : decode yA_tell.2.1 21 = .ok (.iastore, 1) := by decide +kernel
theorem dA_tell_22 : decode yA_tell.2.1 22 = .ok (.aload_n 0, 1) := by decide +kernel
theorem dA_tell_23 : decode yA_tell.2.1 23 = .ok (.dup, 1) := by decide +kernel
theorem dA_tell_24 : decode yA_tell.2.1 24 = .ok (.getfield 51, 3) := by decide +kernel
theorem dA_tell_27 : decode yA_tell.2.1 27 = .ok (.iconst 1, 1) := by decide +kernel
theorem dA_tell_28 : decode yA_tell.2.1 28 = .ok (.iadd, 1) := by decide +kernel
theorem dA_tell_29 : decode yA_tell.2.1 29 = .ok (.putfield 51, 3) := by decide +kernel
theorem dA_tell_32 : decode yA_tell.2.1 32 = .ok (.aload_n 0, 1) := by decide +kernel
theorem dA_tell_33 : decode yA_tell.2.1 33 = .ok (.getfield 51, 3) := by decide +kernel
theorem dA_tell_36 : decode yA_tell.2.1 36 = .ok (.ireturn, 1) := by decide +kernel
theorem dA_check_0 : decode yA_check.2.1 0 = .ok (.aload_n 0, 1) := by decide +kernel
theorem dA_check_1 : decode yA_check.2.1 1 = .ok (.getfield 51, 3) := by decide +kernel
theorem dA_check_4 : decode yA_check.2.1 4 = .ok (.istore_n 2, 1) := by decide +kernel
theorem dA_check_5 : decode yA_check.2.1 5 = .ok (.aload_n 0, 1) := by decide +kernel
theorem dA_check_6 : decode yA_check.2.1 6 = .ok (.iconst 0, 1) := by decide +kernel
theorem dA_check_7 : decode yA_check.2.1 7 = .ok (.putfield 51, 3) := by decide +kernel
theorem dA_check_10 : decode yA_check.2.1 10 = .ok (.iload_n 1, 1) := by decide +kernel
theorem dA_check_11 : decode yA_check.2.1 11 = .ok (.iconst 1, 1) := by decide +kernel
theorem dA_check_12 : decode yA_check.2.1 12 = .ok (.bipush 30, 2) := by decide +kernel
theorem dA_check_14 : decode yA_check.2.1 14 = .ok (.invokestatic 61, 3) := by decide +kernel
theorem dA_check_17 : decode yA_check.2.1 17 = .ok (.ifCond .eq 6, 3) := by decide +kernel
theorem dA_check_20 : decode yA_check.2.1 20 = .ok (.ldc 65, 2) := by decide +kernel
theorem dA_check_22 : decode yA_check.2.1 22 = .ok (.ireturn, 1) := by decide +kernel
theorem dA_check_23 : decode yA_check.2.1 23 = .ok (.aload_n 0, 1) := by decide +kernel
theorem dA_check_24 : decode yA_check.2.1 24 = .ok (.getfield 55, 3) := by decide +kernel
theorem dA_check_27 : decode yA_check.2.1 27 = .ok (.ifCond .ne 7, 3) := by decide +kernel
theorem dA_check_30 : decode yA_check.2.1 30 = .ok (.ldc_w 335, 3) := by decide +kernel
theorem dA_check_33 : decode yA_check.2.1 33 = .ok (.ireturn, 1) := by decide +kernel
theorem dA_check_34 : decode yA_check.2.1 34 = .ok (.aload_n 0, 1) := by decide +kernel
theorem dA_check_35 : decode yA_check.2.1 35 = .ok (.getfield 19, 3) := by decide +kernel
theorem dA_check_38 : decode yA_check.2.1 38 = .ok (.aload_n 0, 1) := by decide +kernel
theorem dA_check_39 : decode yA_check.2.1 39 = .ok (.getfield 16, 3) := by decide +kernel
theorem dA_check_42 : decode yA_check.2.1 42 = .ok (.invokevirtual 203, 3) := by decide +kernel
theorem dA_check_45 : decode yA_check.2.1 45 = .ok (.iconst 2, 1) := by decide +kernel
theorem dA_check_46 : decode yA_check.2.1 46 = .ok (.iload_n 1, 1) := by decide +kernel
theorem dA_check_47 : decode yA_check.2.1 47 = .ok (.sipush 9999, 3) := by decide +kernel
theorem dA_check_50 : decode yA_check.2.1 50 = .ok (.aload_n 0, 1) := by decide +kernel
theorem dA_check_51 : decode yA_check.2.1 51 = .ok (.getfield 16, 3) := by decide +kernel
theorem dA_check_54 : decode yA_check.2.1 54 = .ok (.getfield 174, 3) := by decide +kernel
theorem dA_check_57 : decode yA_check.2.1 57 = .ok (.isub, 1) := by decide +kernel
theorem dA_check_58 : decode yA_check.2.1 58 = .ok (.invokestatic 147, 3) := by decide +kernel
theorem dA_check_61 : decode yA_check.2.1 61 = .ok (.imul, 1) := by decide +kernel
theorem dA_check_62 : decode yA_check.2.1 62 = .ok (.istore_n 3, 1) := by decide +kernel
theorem dA_check_63 : decode yA_check.2.1 63 = .ok (.iconst 0, 1) := by decide +kernel
theorem dA_check_64 : decode yA_check.2.1 64 = .ok (.istore 4, 2) := by decide +kernel
theorem dA_check_66 : decode yA_check.2.1 66 = .ok (.iload 4, 2) := by decide +kernel
theorem dA_check_68 : decode yA_check.2.1 68 = .ok (.iload_n 3, 1) := by decide +kernel
theorem dA_check_69 : decode yA_check.2.1 69 = .ok (.if_icmp .ge 83, 3) := by decide +kernel
theorem dA_check_72 : decode yA_check.2.1 72 = .ok (.iload 4, 2) := by decide +kernel
theorem dA_check_74 : decode yA_check.2.1 74 = .ok (.iconst 2, 1) := by decide +kernel
theorem dA_check_75 : decode yA_check.2.1 75 = .ok (.irem, 1) := by decide +kernel
theorem dA_check_76 : decode yA_check.2.1 76 = .ok (.ifCond .ne 7, 3) := by decide +kernel
theorem dA_check_79 : decode yA_check.2.1 79 = .ok (.iconst 1, 1) := by decide +kernel
theorem dA_check_80 : decode yA_check.2.1 80 = .ok (.goto 4, 3) := by decide +kernel
theorem dA_check_83 : decode yA_check.2.1 83 = .ok (.iconst 0, 1) := by decide +kernel
theorem dA_check_84 : decode yA_check.2.1 84 = .ok (.istore 5, 2) := by decide +kernel
theorem dA_check_86 : decode yA_check.2.1 86 = .ok (.iload 5, 2) := by decide +kernel
theorem dA_check_88 : decode yA_check.2.1 88 = .ok (.ifCond .eq 11, 3) := by decide +kernel
theorem dA_check_91 : decode yA_check.2.1 91 = .ok (.aload_n 0, 1) := by decide +kernel
theorem dA_check_92 : decode yA_check.2.1 92 = .ok (.getfield 19, 3) := by decide +kernel
theorem dA_check_95 : decode yA_check.2.1 95 = .ok (.iconst 1, 1) := by decide +kernel
theorem dA_check_96 : decode yA_check.2.1 96 = .ok (.invokevirtual 177, 3) := by decide +kernel
theorem dA_check_99 : decode yA_check.2.1 99 = .ok (.iload 5, 2) := by decide +kernel
theorem dA_check_101 : decode yA_check.2.1 101 = .ok (.ifCond .eq 13, 3) := by decide +kernel
theorem dA_check_104 : decode yA_check.2.1 104 = .ok (.aload_n 0, 1) := by decide +kernel
theorem dA_check_105 : decode yA_check.2.1 105 = .ok (.getfield 19, 3) := by decide +kernel
theorem dA_check_108 : decode yA_check.2.1 108 = .ok (.getfield 171, 3) := by decide +kernel
theorem dA_check_111 : decode yA_check.2.1 111 = .ok (.goto 10, 3) := by decide +kernel
theorem dA_check_114 : decode yA_check.2.1 114 = .ok (.aload_n 0, 1) := by decide +kernel
theorem dA_check_115 : decode yA_check.2.1 115 = .ok (.getfield 19, 3) := by decide +kernel
theorem dA_check_118 : decode yA_check.2.1 118 = .ok (.invokevirtual 181, 3) := by decide +kernel
theorem dA_check_121 : decode yA_check.2.1 121 = .ok (.istore 6, 2) := by decide +kernel
theorem dA_check_123 : decode yA_check.2.1 123 = .ok (.iload 4, 2) := by decide +kernel
theorem dA_check_125 : decode yA_check.2.1 125 = .ok (.iload_n 2, 1) := by decide +kernel
theorem dA_check_126 : decode yA_check.2.1 126 = .ok (.if_icmp .ge 15, 3) := by decide +kernel
theorem dA_check_129 : decode yA_check.2.1 129 = .ok (.aload_n 0, 1) := by decide +kernel
theorem dA_check_130 : decode yA_check.2.1 130 = .ok (.getfield 41, 3) := by decide +kernel
theorem dA_check_133 : decode yA_check.2.1 133 = .ok (.iload 4, 2) := by decide +kernel
theorem dA_check_135 : decode yA_check.2.1 135 = .ok (.iaload, 1) := by decide +kernel
theorem dA_check_136 : decode yA_check.2.1 136 = .ok (.iload 6, 2) := by decide +kernel
theorem dA_check_138 : decode yA_check.2.1 138 = .ok (.if_icmp .eq 8, 3) := by decide +kernel
theorem dA_check_141 : decode yA_check.2.1 141 = .ok (.iconst 1, 1) := by decide +kernel
theorem dA_check_142 : decode yA_check.2.1 142 = .ok (.iload 4, 2) := by decide +kernel
theorem dA_check_144 : decode yA_check.2.1 144 = .ok (.iadd, 1) := by decide +kernel
theorem dA_check_145 : decode yA_check.2.1 145 = .ok (.ireturn, 1) := by decide +kernel
theorem dA_check_146 : decode yA_check.2.1 146 = .ok (.iinc 4 1, 3) := by decide +kernel
theorem dA_check_149 : decode yA_check.2.1 149 = .ok (.goto (-83), 3) := by decide +kernel
theorem dA_check_152 : decode yA_check.2.1 152 = .ok (.iload_n 2, 1) := by decide +kernel
theorem dA_check_153 : decode yA_check.2.1 153 = .ok (.iload_n 3, 1) := by decide +kernel
theorem dA_check_154 : decode yA_check.2.1 154 = .ok (.if_icmp .le 9, 3) := by decide +kernel
theorem dA_check_157 : decode yA_check.2.1 157 = .ok (.iconst 1, 1) := by decide +kernel
theorem dA_check_158 : decode yA_check.2.1 158 = .ok (.iload_n 3, 1) := by decide +kernel
theorem dA_check_159 : decode yA_check.2.1 159 = .ok (.iadd, 1) := by decide +kernel
theorem dA_check_160 : decode yA_check.2.1 160 = .ok (.goto 4, 3) := by decide +kernel
theorem dA_check_163 : decode yA_check.2.1 163 = .ok (.iconst 0, 1) := by decide +kernel
theorem dA_check_164 : decode yA_check.2.1 164 = .ok (.ireturn, 1) := by decide +kernel
theorem dA_keep_0 : decode yA_keep.2.1 0 = .ok (.aload_n 0, 1) := by decide +kernel
theorem dA_keep_1 : decode yA_keep.2.1 1 = .ok (.getfield 16, 3) := by decide +kernel
theorem dA_keep_4 : decode yA_keep.2.1 4 = .ok (.aload_n 0, 1) := by decide +kernel
theorem dA_keep_5 : decode yA_keep.2.1 5 = .ok (.getfield 10, 3) := by decide +kernel
theorem dA_keep_8 : decode yA_keep.2.1 8 = .ok (.invokevirtual 203, 3) := by decide +kernel
theorem dA_keep_11 : decode yA_keep.2.1 11 = .ok (.aload_n 0, 1) := by decide +kernel
theorem dA_keep_12 : decode yA_keep.2.1 12 = .ok (.iconst 1, 1) := by decide +kernel
theorem dA_keep_13 : decode yA_keep.2.1 13 = .ok (.putfield 55, 3) := by decide +kernel
theorem dA_keep_16 : decode yA_keep.2.1 16 = .ok (.aload_n 0, 1) := by decide +kernel
theorem dA_keep_17 : decode yA_keep.2.1 17 = .ok (.getfield 16, 3) := by decide +kernel
theorem dA_keep_20 : decode yA_keep.2.1 20 = .ok (.getfield 70, 3) := by decide +kernel
theorem dA_keep_23 : decode yA_keep.2.1 23 = .ok (.ireturn, 1) := by decide +kernel
theorem dA_back_0 : decode yA_back.2.1 0 = .ok (.aload_n 0, 1) := by decide +kernel
theorem dA_back_1 : decode yA_back.2.1 1 = .ok (.getfield 55, 3) := by decide +kernel
theorem dA_back_4 : decode yA_back.2.1 4 = .ok (.ifCond .ne 7, 3) := by decide +kernel
theorem dA_back_7 : decode yA_back.2.1 7 = .ok (.ldc_w 335, 3) := by decide +kernel
theorem dA_back_10 : decode yA_back.2.1 10 = .ok (.ireturn, 1) := by decide +kernel
theorem dA_back_11 : decode yA_back.2.1 11 = .ok (.aload_n 0, 1) := by decide +kernel
theorem dA_back_12 : decode yA_back.2.1 12 = .ok (.getfield 10, 3) := by decide +kernel
theorem dA_back_15 : decode yA_back.2.1 15 = .ok (.aload_n 0, 1) := by decide +kernel
theorem dA_back_16 : decode yA_back.2.1 16 = .ok (.getfield 16, 3) := by decide +kernel
theorem dA_back_19 : decode yA_back.2.1 19 = .ok (.invokevirtual 203, 3) := by decide +kernel
theorem dA_back_22 : decode yA_back.2.1 22 = .ok (.aload_n 0, 1) := by decide +kernel
theorem dA_back_23 : decode yA_back.2.1 23 = .ok (.getfield 10, 3) := by decide +kernel
theorem dA_back_26 : decode yA_back.2.1 26 = .ok (.getfield 70, 3) := by decide +kernel
theorem dA_back_29 : decode yA_back.2.1 29 = .ok (.ireturn, 1) := by decide +kernel
theorem dA_count_0 : decode yA_count.2.1 0 = .ok (.iload_n 1, 1) := by decide +kernel
theorem dA_count_1 : decode yA_count.2.1 1 = .ok (.tableswitch 108 0 7 #[47, 55, 63, 71, 79, 87, 92, 100], 47) := by decide +kernel
theorem dA_count_48 : decode yA_count.2.1 48 = .ok (.aload_n 0, 1) := by decide +kernel
theorem dA_count_49 : decode yA_count.2.1 49 = .ok (.getfield 10, 3) := by decide +kernel
theorem dA_count_52 : decode yA_count.2.1 52 = .ok (.getfield 70, 3) := by decide +kernel
theorem dA_count_55 : decode yA_count.2.1 55 = .ok (.ireturn, 1) := by decide +kernel
theorem dA_count_56 : decode yA_count.2.1 56 = .ok (.aload_n 0, 1) := by decide +kernel
theorem dA_count_57 : decode yA_count.2.1 57 = .ok (.getfield 10, 3) := by decide +kernel
theorem dA_count_60 : decode yA_count.2.1 60 = .ok (.getfield 174, 3) := by decide +kernel
theorem dA_count_63 : decode yA_count.2.1 63 = .ok (.ireturn, 1) := by decide +kernel
theorem dA_count_64 : decode yA_count.2.1 64 = .ok (.aload_n 0, 1) := by decide +kernel
theorem dA_count_65 : decode yA_count.2.1 65 = .ok (.getfield 10, 3) := by decide +kernel
theorem dA_count_68 : decode yA_count.2.1 68 = .ok (.getfield 141, 3) := by decide +kernel
theorem dA_count_71 : decode yA_count.2.1 71 = .ok (.ireturn, 1) := by decide +kernel
theorem dA_count_72 : decode yA_count.2.1 72 = .ok (.aload_n 0, 1) := by decide +kernel
theorem dA_count_73 : decode yA_count.2.1 73 = .ok (.getfield 10, 3) := by decide +kernel
theorem dA_count_76 : decode yA_count.2.1 76 = .ok (.getfield 144, 3) := by decide +kernel
theorem dA_count_79 : decode yA_count.2.1 79 = .ok (.ireturn, 1) := by decide +kernel
theorem dA_count_80 : decode yA_count.2.1 80 = .ok (.aload_n 0, 1) := by decide +kernel
theorem dA_count_81 : decode yA_count.2.1 81 = .ok (.getfield 10, 3) := by decide +kernel
theorem dA_count_84 : decode yA_count.2.1 84 = .ok (.getfield 270, 3) := by decide +kernel
theorem dA_count_87 : decode yA_count.2.1 87 = .ok (.ireturn, 1) := by decide +kernel
theorem dA_count_88 : decode yA_count.2.1 88 = .ok (.aload_n 0, 1) := by decide +kernel
theorem dA_count_89 : decode yA_count.2.1 89 = .ok (.getfield 51, 3) := by decide +kernel
theorem dA_count_92 : decode yA_count.2.1 92 = .ok (.ireturn, 1) := by decide +kernel
theorem dA_count_93 : decode yA_count.2.1 93 = .ok (.aload_n 0, 1) := by decide +kernel
theorem dA_count_94 : decode yA_count.2.1 94 = .ok (.getfield 25, 3) := by decide +kernel
theorem dA_count_97 : decode yA_count.2.1 97 = .ok (.getfield 258, 3) := by decide +kernel
theorem dA_count_100 : decode yA_count.2.1 100 = .ok (.ireturn, 1) := by decide +kernel
theorem dA_count_101 : decode yA_count.2.1 101 = .ok (.aload_n 0, 1) := by decide +kernel
theorem dA_count_102 : decode yA_count.2.1 102 = .ok (.getfield 10, 3) := by decide +kernel
theorem dA_count_105 : decode yA_count.2.1 105 = .ok (.getfield 156, 3) := by decide +kernel
theorem dA_count_108 : decode yA_count.2.1 108 = .ok (.ireturn, 1) := by decide +kernel
theorem dA_count_109 : decode yA_count.2.1 109 = .ok (.ldc 65, 2) := by decide +kernel
theorem dA_count_111 : decode yA_count.2.1 111 = .ok (.ireturn, 1) := by decide +kernel
