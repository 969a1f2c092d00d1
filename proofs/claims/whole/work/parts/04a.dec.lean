theorem dB_init_0 : decode yB_init.2.1 0 = .ok (.aload_n 0, 1) := by decide +kernel
theorem dB_init_1 : decode yB_init.2.1 1 = .ok (.invokespecial 3, 3) := by decide +kernel
theorem dB_init_4 : decode yB_init.2.1 4 = .ok (.aload_n 0, 1) := by decide +kernel
theorem dB_init_5 : decode yB_init.2.1 5 = .ok (.bipush 10, 2) := by decide +kernel
theorem dB_init_7 : decode yB_init.2.1 7 = .ok (.anewarray 9, 3) := by decide +kernel
theorem dB_init_10 : decode yB_init.2.1 10 = .ok (.putfield 11, 3) := by decide +kernel
theorem dB_init_13 : decode yB_init.2.1 13 = .ok (.aload_n 0, 1) := by decide +kernel
theorem dB_init_14 : decode yB_init.2.1 14 = .ok (.bipush 6, 2) := by decide +kernel
theorem dB_init_16 : decode yB_init.2.1 16 = .ok (.newarray .int, 2) := by decide +kernel
theorem dB_init_18 : decode yB_init.2.1 18 = .ok (.putfield 17, 3) := by decide +kernel
theorem dB_init_21 : decode yB_init.2.1 21 = .ok (.aload_n 0, 1) := by decide +kernel
theorem dB_init_22 : decode yB_init.2.1 22 = .ok (.bipush 14, 2) := by decide +kernel
theorem dB_init_24 : decode yB_init.2.1 24 = .ok (.anewarray 21, 3) := by decide +kernel
theorem dB_init_27 : decode yB_init.2.1 27 = .ok (.putfield 23, 3) := by decide +kernel
theorem dB_init_30 : decode yB_init.2.1 30 = .ok (.aload_n 0, 1) := by decide +kernel
theorem dB_init_31 : decode yB_init.2.1 31 = .ok (.iconst 3, 1) := by decide +kernel
theorem dB_init_32 : decode yB_init.2.1 32 = .ok (.newarray .int, 2) := by decide +kernel
theorem dB_init_34 : decode yB_init.2.1 34 = .ok (.putfield 27, 3) := by decide +kernel
theorem dB_init_37 : decode yB_init.2.1 37 = .ok (.aload_n 0, 1) := by decide +kernel
theorem dB_init_38 : decode yB_init.2.1 38 = .ok (.bipush 100, 2) := by decide +kernel
theorem dB_init_40 : decode yB_init.2.1 40 = .ok (.newarray .int, 2) := by decide +kernel
theorem dB_init_42 : decode yB_init.2.1 42 = .ok (.putfield 30, 3) := by decide +kernel
theorem dB_init_45 : decode yB_init.2.1 45 = .ok (.aload_n 0, 1) := by decide +kernel
theorem dB_init_46 : decode yB_init.2.1 46 = .ok (.iconst 0, 1) := by decide +kernel
theorem dB_init_47 : decode yB_init.2.1 47 = .ok (.putfield 33, 3) := by decide +kernel
theorem dB_init_50 : decode yB_init.2.1 50 = .ok (.aload_n 0, 1) := by decide +kernel
theorem dB_init_51 : decode yB_init.2.1 51 = .ok (.iconst 0, 1) := by decide +kernel
theorem dB_init_52 : decode yB_init.2.1 52 = .ok (.putfield 37, 3) := by decide +kernel
theorem dB_init_55 : decode yB_init.2.1 55 = .ok (.aload_n 0, 1) := by decide +kernel
theorem dB_init_56 : decode yB_init.2.1 56 = .ok (.bipush 20, 2) := by decide +kernel
theorem dB_init_58 : decode yB_init.2.1 58 = .ok (.putfield 40, 3) := by decide +kernel
theorem dB_init_61 : decode yB_init.2.1 61 = .ok (.aload_n 0, 1) := by decide +kernel
theorem dB_init_62 : decode yB_init.2.1 62 = .ok (.iconst 0, 1) := by decide +kernel
theorem dB_init_63 : decode yB_init.2.1 63 = .ok (.putfield 43, 3) := by decide +kernel
theorem dB_init_66 : decode yB_init.2.1 66 = .ok (.aload_n 0, 1) := by decide +kernel
theorem dB_init_67 : decode yB_init.2.1 67 = .ok (.iconst 0, 1) := by decide +kernel
theorem dB_init_68 : decode yB_init.2.1 68 = .ok (.putfield 46, 3) := by decide +kernel
theorem dB_init_71 : decode yB_init.2.1 71 = .ok (.aload_n 0, 1) := by decide +kernel
theorem dB_init_72 : decode yB_init.2.1 72 = .ok (.iconst 0, 1) := by decide +kernel
theorem dB_init_73 : decode yB_init.2.1 73 = .ok (.putfield 49, 3) := by decide +kernel
theorem dB_init_76 : decode yB_init.2.1 76 = .ok (.aload_n 0, 1) := by decide +kernel
theorem dB_init_77 : decode yB_init.2.1 77 = .ok (.iconst 0, 1) := by decide +kernel
theorem dB_init_78 : decode yB_init.2.1 78 = .ok (.putfield 52, 3) := by decide +kernel
theorem dB_init_81 : decode yB_init.2.1 81 = .ok (.aload_n 0, 1) := by decide +kernel
theorem dB_init_82 : decode yB_init.2.1 82 = .ok (.iconst 0, 1) := by decide +kernel
theorem dB_init_83 : decode yB_init.2.1 83 = .ok (.putfield 55, 3) := by decide +kernel
theorem dB_init_86 : decode yB_init.2.1 86 = .ok (.aload_n 0, 1) := by decide +kernel
theorem dB_init_87 : decode yB_init.2.1 87 = .ok (.iconst 1, 1) := by decide +kernel
theorem dB_init_88 : decode yB_init.2.1 88 = .ok (.putfield 58, 3) := by decide +kernel
theorem dB_init_91 : decode yB_init.2.1 91 = .ok (.iconst 0, 1) := by decide +kernel
theorem dB_init_92 : decode yB_init.2.1 92 = .ok (.istore_n 1, 1) := by decide +kernel
theorem dB_init_93 : decode yB_init.2.1 93 = .ok (.iload_n 1, 1) := by decide +kernel
theorem dB_init_94 : decode yB_init.2.1 94 = .ok (.bipush 10, 2) := by decide +kernel
theorem dB_init_96 : decode yB_init.2.1 96 = .ok (.if_icmp .ge 22, 3) := by decide +kernel
theorem dB_init_99 : decode yB_init.2.1 99 = .ok (.aload_n 0, 1) := by decide +kernel
theorem dB_init_100 : decode yB_init.2.1 100 = .ok (.getfield 11, 3) := by decide +kernel
theorem dB_init_103 : decode yB_init.2.1 103 = .ok (.iload_n 1, 1) := by decide +kernel
theorem dB_init_104 : decode yB_init.2.1 104 = .ok (.new 9, 3) := by decide +kernel
theorem dB_init_107 : decode yB_init.2.1 107 = .ok (.dup, 1) := by decide +kernel
theorem dB_init_108 : decode yB_init.2.1 108 = .ok (.invokespecial 61, 3) := by decide +kernel
theorem dB_init_111 : decode yB_init.2.1 111 = .ok (.aastore, 1) := by decide +kernel
theorem dB_init_112 : decode yB_init.2.1 112 = .ok (.iinc 1 1, 3) := by decide +kernel
theorem dB_init_115 : decode yB_init.2.1 115 = .ok (.goto (-22), 3) := by decide +kernel
theorem dB_init_118 : decode yB_init.2.1 118 = .ok (.aload_n 0, 1) := by decide +kernel
theorem dB_init_119 : decode yB_init.2.1 119 = .ok (.getfield 17, 3) := by decide +kernel
theorem dB_init_122 : decode yB_init.2.1 122 = .ok (.iconst 2, 1) := by decide +kernel
theorem dB_init_123 : decode yB_init.2.1 123 = .ok (.invokestatic 62, 3) := by decide +kernel
theorem dB_init_126 : decode yB_init.2.1 126 = .ok (.aload_n 0, 1) := by decide +kernel
theorem dB_init_127 : decode yB_init.2.1 127 = .ok (.getfield 27, 3) := by decide +kernel
theorem dB_init_130 : decode yB_init.2.1 130 = .ok (.ldc 68, 2) := by decide +kernel
theorem dB_init_132 : decode yB_init.2.1 132 = .ok (.invokestatic 62, 3) := by decide +kernel
theorem dB_init_135 : decode yB_init.2.1 135 = .ok (.return_, 1) := by decide +kernel
theorem dG_init_0 : decode yG_init.2.1 0 = .ok (.aload_n 0, 1) := by decide +kernel
theorem dG_init_1 : decode yG_init.2.1 1 = .ok (.invokespecial 3, 3) := by decide +kernel
theorem dG_init_4 : decode yG_init.2.1 4 = .ok (.return_, 1) := by decide +kernel
theorem dS_init_0 : decode yS_init.2.1 0 = .ok (.aload_n 0, 1) := by decide +kernel
theorem dS_init_1 : decode yS_init.2.1 1 = .ok (.invokespecial 3, 3) := by decide +kernel
theorem dS_init_4 : decode yS_init.2.1 4 = .ok (.aload_n 0, 1) := by decide +kernel
theorem dS_init_5 : decode yS_init.2.1 5 = .ok (.iconst (-1), 1) := by decide +kernel
theorem dS_init_6 : decode yS_init.2.1 6 = .ok (.putfield 9, 3) := by decide +kernel
theorem dS_init_9 : decode yS_init.2.1 9 = .ok (.aload_n 0, 1) := by decide +kernel
theorem dS_init_10 : decode yS_init.2.1 10 = .ok (.iconst 0, 1) := by decide +kernel
theorem dS_init_11 : decode yS_init.2.1 11 = .ok (.putfield 15, 3) := by decide +kernel
theorem dS_init_14 : decode yS_init.2.1 14 = .ok (.aload_n 0, 1) := by decide +kernel
theorem dS_init_15 : decode yS_init.2.1 15 = .ok (.bipush 24, 2) := by decide +kernel
theorem dS_init_17 : decode yS_init.2.1 17 = .ok (.newarray .int, 2) := by decide +kernel
theorem dS_init_19 : decode yS_init.2.1 19 = .ok (.putfield 18, 3) := by decide +kernel
theorem dS_init_22 : decode yS_init.2.1 22 = .ok (.return_, 1) := by decide +kernel
theorem dT_init_0 : decode yT_init.2.1 0 = .ok (.aload_n 0, 1) := by decide +kernel
theorem dT_init_1 : decode yT_init.2.1 1 = .ok (.invokespecial 3, 3) := by decide +kernel
theorem dT_init_4 : decode yT_init.2.1 4 = .ok (.aload_n 0, 1) := by decide +kernel
theorem dT_init_5 : decode yT_init.2.1 5 = .ok (.iconst 0, 1) := by decide +kernel
theorem dT_init_6 : decode yT_init.2.1 6 = .ok (.putfield 9, 3) := by decide +kernel
theorem dT_init_9 : decode yT_init.2.1 9 = .ok (.aload_n 0, 1) := by decide +kernel
theorem dT_init_10 : decode yT_init.2.1 10 = .ok (.iconst 0, 1) := by decide +kernel
theorem dT_init_11 : decode yT_init.2.1 11 = .ok (.putfield 15, 3) := by decide +kernel
theorem dT_init_14 : decode yT_init.2.1 14 = .ok (.aload_n 0, 1) := by decide +kernel
theorem dT_init_15 : decode yT_init.2.1 15 = .ok (.new 18, 3) := by decide +kernel
theorem dT_init_18 : decode yT_init.2.1 18 = .ok (.dup, 1) := by decide +kernel
theorem dT_init_19 : decode yT_init.2.1 19 = .ok (.invokespecial 20, 3) := by decide +kernel
theorem dT_init_22 : decode yT_init.2.1 22 = .ok (.putfield 21, 3) := by decide +kernel
theorem dT_init_25 : decode yT_init.2.1 25 = .ok (.aload_n 0, 1) := by decide +kernel
theorem dT_init_26 : decode yT_init.2.1 26 = .ok (.new 25, 3) := by decide +kernel
theorem dT_init_29 : decode yT_init.2.1 29 = .ok (.dup, 1) := by decide +kernel
theorem dT_init_30 : decode yT_init.2.1 30 = .ok (.invokespecial 27, 3) := by decide +kernel
theorem dT_init_33 : decode yT_init.2.1 33 = .ok (.putfield 28, 3) := by decide +kernel
theorem dT_init_36 : decode yT_init.2.1 36 = .ok (.return_, 1) := by decide +kernel
theorem dB_addGoose_0 : decode yB_addGoose.2.1 0 = .ok (.aload_n 0, 1) := by decide +kernel
theorem dB_addGoose_1 : decode yB_addGoose.2.1 1 = .ok (.getfield 33, 3) := by decide +kernel
theorem dB_addGoose_4 : decode yB_addGoose.2.1 4 = .ok (.bipush 10, 2) := by decide +kernel
theorem dB_addGoose_6 : decode yB_addGoose.2.1 6 = .ok (.if_icmp .lt 5, 3) := by decide +kernel
theorem dB_addGoose_9 : decode yB_addGoose.2.1 9 = .ok (.iconst 0, 1) := by decide +kernel
theorem dB_addGoose_10 : decode yB_addGoose.2.1 10 = .ok (.ireturn, 1) := by decide +kernel
theorem dB_addGoose_11 : decode yB_addGoose.2.1 11 = .ok (.aload_n 0, 1) := by decide +kernel
theorem dB_addGoose_12 : decode yB_addGoose.2.1 12 = .ok (.getfield 11, 3) := by decide +kernel
theorem dB_addGoose_15 : decode yB_addGoose.2.1 15 = .ok (.aload_n 0, 1) := by decide +kernel
theorem dB_addGoose_16 : decode yB_addGoose.2.1 16 = .ok (.getfield 33, 3) := by decide +kernel
theorem dB_addGoose_19 : decode yB_addGoose.2.1 19 = .ok (.aaload, 1) := by decide +kernel
theorem dB_addGoose_20 : decode yB_addGoose.2.1 20 = .ok (.astore 5, 2) := by decide +kernel
theorem dB_addGoose_22 : decode yB_addGoose.2.1 22 = .ok (.aload 5, 2) := by decide +kernel
theorem dB_addGoose_24 : decode yB_addGoose.2.1 24 = .ok (.iload_n 1, 1) := by decide +kernel
theorem dB_addGoose_25 : decode yB_addGoose.2.1 25 = .ok (.putfield 79, 3) := by decide +kernel
theorem dB_addGoose_28 : decode yB_addGoose.2.1 28 = .ok (.aload 5, 2) := by decide +kernel
theorem dB_addGoose_30 : decode yB_addGoose.2.1 30 = .ok (.iload_n 2, 1) := by decide +kernel
theorem dB_addGoose_31 : decode yB_addGoose.2.1 31 = .ok (.putfield 82, 3) := by decide +kernel
theorem dB_addGoose_34 : decode yB_addGoose.2.1 34 = .ok (.aload 5, 2) := by decide +kernel
theorem dB_addGoose_36 : decode yB_addGoose.2.1 36 = .ok (.iload_n 3, 1) := by decide +kernel
theorem dB_addGoose_37 : decode yB_addGoose.2.1 37 = .ok (.putfield 85, 3) := by decide +kernel
theorem dB_addGoose_40 : decode yB_addGoose.2.1 40 = .ok (.aload 5, 2) := by decide +kernel
theorem dB_addGoose_42 : decode yB_addGoose.2.1 42 = .ok (.iload 4, 2) := by decide +kernel
theorem dB_addGoose_44 : decode yB_addGoose.2.1 44 = .ok (.putfield 88, 3) := by decide +kernel
theorem dB_addGoose_47 : decode yB_addGoose.2.1 47 = .ok (.aload 5, 2) := by decide +kernel
theorem dB_addGoose_49 : decode yB_addGoose.2.1 49 = .ok (.iconst 0, 1) := by decide +kernel
theorem dB_addGoose_50 : decode yB_addGoose.2.1 50 = .ok (.putfield 91, 3) := by decide +kernel
theorem dB_addGoose_53 : decode yB_addGoose.2.1 53 = .ok (.aload_n 0, 1) := by decide +kernel
theorem dB_addGoose_54 : decode yB_addGoose.2.1 54 = .ok (.dup, 1) := by decide +kernel
theorem dB_addGoose_55 : decode yB_addGoose.2.1 55 = .ok (.getfield 33, 3) := by decide +kernel
theorem dB_addGoose_58 : decode yB_addGoose.2.1 58 = .ok (.iconst 1, 1) := by decide +kernel
theorem dB_addGoose_59 : decode yB_addGoose.2.1 59 = .ok (.iadd, 1) := by decide +kernel
theorem dB_addGoose_60 : decode yB_addGoose.2.1 60 = .ok (.putfield 33, 3) := by decide +kernel
theorem dB_addGoose_63 : decode yB_addGoose.2.1 63 = .ok (.iconst 1, 1) := by decide +kernel
theorem dB_addGoose_64 : decode yB_addGoose.2.1 64 = .ok (.ireturn, 1) := by decide +kernel
theorem dB_hasGoose_0 : decode yB_hasGoose.2.1 0 = .ok (.iload_n 1, 1) := by decide +kernel
theorem dB_hasGoose_1 : decode yB_hasGoose.2.1 1 = .ok (.ifCond .lt 15, 3) := by decide +kernel
theorem dB_hasGoose_4 : decode yB_hasGoose.2.1 4 = .ok (.iload_n 1, 1) := by decide +kernel
theorem dB_hasGoose_5 : decode yB_hasGoose.2.1 5 = .ok (.aload_n 0, 1) := by decide +kernel
theorem dB_hasGoose_6 : decode yB_hasGoose.2.1 6 = .ok (.getfield 33, 3) := by decide +kernel
theorem dB_hasGoose_9 : decode yB_hasGoose.2.1 9 = .ok (.if_icmp .ge 7, 3) := by decide +kernel
theorem dB_hasGoose_12 : decode yB_hasGoose.2.1 12 = .ok (.iconst 1, 1) := by decide +kernel
theorem dB_hasGoose_13 : decode yB_hasGoose.2.1 13 = .ok (.goto 4, 3) := by decide +kernel
theorem dB_hasGoose_16 : decode yB_hasGoose.2.1 16 = .ok (.iconst 0, 1) := by decide +kernel
theorem dB_hasGoose_17 : decode yB_hasGoose.2.1 17 = .ok (.ireturn, 1) := by decide +kernel
theorem dG_trait_0 : decode yG_trait.2.1 0 = .ok (.iload_n 1, 1) := by decide +kernel
theorem dG_trait_1 : decode yG_trait.2.1 1 = .ok (.tableswitch 51 0 3 #[31, 36, 41, 46], 31) := by decide +kernel
theorem dG_trait_32 : decode yG_trait.2.1 32 = .ok (.aload_n 0, 1) := by decide +kernel
theorem dG_trait_33 : decode yG_trait.2.1 33 = .ok (.getfield 9, 3) := by decide +kernel
theorem dG_trait_36 : decode yG_trait.2.1 36 = .ok (.ireturn, 1) := by decide +kernel
theorem dG_trait_37 : decode yG_trait.2.1 37 = .ok (.aload_n 0, 1) := by decide +kernel
theorem dG_trait_38 : decode yG_trait.2.1 38 = .ok (.getfield 15, 3) := by decide +kernel
theorem dG_trait_41 : decode yG_trait.2.1 41 = .ok (.ireturn, 1) := by decide +kernel
theorem dG_trait_42 : decode yG_trait.2.1 42 = .ok (.aload_n 0, 1) := by decide +kernel
theorem dG_trait_43 : decode yG_trait.2.1 43 = .ok (.getfield 18, 3) := by decide +kernel
theorem dG_trait_46 : decode yG_trait.2.1 46 = .ok (.ireturn, 1) := by decide +kernel
theorem dG_trait_47 : decode yG_trait.2.1 47 = .ok (.aload_n 0, 1) := by decide +kernel
theorem dG_trait_48 : decode yG_trait.2.1 48 = .ok (.getfield 21, 3) := by decide +kernel
theorem dG_trait_51 : decode yG_trait.2.1 51 = .ok (.ireturn, 1) := by decide +kernel
theorem dG_trait_52 : decode yG_trait.2.1 52 = .ok (.aload_n 0, 1) := by decide +kernel
theorem dG_trait_53 : decode yG_trait.2.1 53 = .ok (.getfield 24, 3) := by decide +kernel
theorem dG_trait_56 : decode yG_trait.2.1 56 = .ok (.ireturn, 1) := by decide +kernel
theorem dB_crowd_0 : decode yB_crowd.2.1 0 = .ok (.aload_n 0, 1) := by decide +kernel
theorem dB_crowd_1 : decode yB_crowd.2.1 1 = .ok (.iload_n 1, 1) := by decide +kernel
theorem dB_crowd_2 : decode yB_crowd.2.1 2 = .ok (.invokevirtual 106, 3) := by decide +kernel
theorem dB_crowd_5 : decode yB_crowd.2.1 5 = .ok (.invokestatic 110, 3) := by decide +kernel
theorem dB_crowd_8 : decode yB_crowd.2.1 8 = .ok (.ireturn, 1) := by decide +kernel
theorem dB_geeseIn_0 : decode yB_geeseIn.2.1 0 = .ok (.iconst 0, 1) := by decide +kernel
theorem dB_geeseIn_1 : decode yB_geeseIn.2.1 1 = .ok (.istore_n 2, 1) := by decide +kernel
theorem dB_geeseIn_2 : decode yB_geeseIn.2.1 2 = .ok (.iconst 0, 1) := by decide +kernel
theorem dB_geeseIn_3 : decode yB_geeseIn.2.1 3 = .ok (.istore_n 3, 1) := by decide +kernel
theorem dB_geeseIn_4 : decode yB_geeseIn.2.1 4 = .ok (.iload_n 3, 1) := by decide +kernel
theorem dB_geeseIn_5 : decode yB_geeseIn.2.1 5 = .ok (.aload_n 0, 1) := by decide +kernel
theorem dB_geeseIn_6 : decode yB_geeseIn.2.1 6 = .ok (.getfield 33, 3) := by decide +kernel
theorem dB_geeseIn_9 : decode yB_geeseIn.2.1 9 = .ok (.if_icmp .ge 28, 3) := by decide +kernel
theorem dB_geeseIn_12 : decode yB_geeseIn.2.1 12 = .ok (.aload_n 0, 1) := by decide +kernel
theorem dB_geeseIn_13 : decode yB_geeseIn.2.1 13 = .ok (.getfield 11, 3) := by decide +kernel
theorem dB_geeseIn_16 : decode yB_geeseIn.2.1 16 = .ok (.iload_n 3, 1) := by decide +kernel
theorem dB_geeseIn_17 : decode yB_geeseIn.2.1 17 = .ok (.aaload, 1) := by decide +kernel
theorem dB_geeseIn_18 : decode yB_geeseIn.2.1 18 = .ok (.getfield 88, 3) := by decide +kernel
theorem dB_geeseIn_21 : decode yB_geeseIn.2.1 21 = .ok (.iload_n 1, 1) := by decide +kernel
theorem dB_geeseIn_22 : decode yB_geeseIn.2.1 22 = .ok (.if_icmp .ne 9, 3) := by decide +kernel
theorem dB_geeseIn_25 : decode yB_geeseIn.2.1 25 = .ok (.iload_n 2, 1) := by decide +kernel
theorem dB_geeseIn_26 : decode yB_geeseIn.2.1 26 = .ok (.iconst 1, 1) := by decide +kernel
theorem dB_geeseIn_27 : decode yB_geeseIn.2.1 27 = .ok (.iload_n 3, 1) := by decide +kernel
theorem dB_geeseIn_28 : decode yB_geeseIn.2.1 28 = .ok (.ishl, 1) := by decide +kernel
theorem dB_geeseIn_29 : decode yB_geeseIn.2.1 29 = .ok (.ior, 1) := by decide +kernel
theorem dB_geeseIn_30 : decode yB_geeseIn.2.1 30 = .ok (.istore_n 2, 1) := by decide +kernel
theorem dB_geeseIn_31 : decode yB_geeseIn.2.1 31 = .ok (.iinc 3 1, 3) := by decide +kernel
theorem dB_geeseIn_34 : decode yB_geeseIn.2.1 34 = .ok (.goto (-30), 3) := by decide +kernel
theorem dB_geeseIn_37 : decode yB_geeseIn.2.1 37 = .ok (.iload_n 2, 1) := by decide +kernel
theorem dB_geeseIn_38 : decode yB_geeseIn.2.1 38 = .ok (.ireturn, 1) := by decide +kernel
theorem dB_sees_0 : decode yB_sees.2.1 0 = .ok (.aload_n 1, 1) := by decide +kernel
theorem dB_sees_1 : decode yB_sees.2.1 1 = .ok (.getfield 79, 3) := by decide +kernel
theorem dB_sees_4 : decode yB_sees.2.1 4 = .ok (.iconst 5, 1) := by decide +kernel
theorem dB_sees_5 : decode yB_sees.2.1 5 = .ok (.if_icmp .ne 5, 3) := by decide +kernel
theorem dB_sees_8 : decode yB_sees.2.1 8 = .ok (.iconst 1, 1) := by decide +kernel
theorem dB_sees_9 : decode yB_sees.2.1 9 = .ok (.ireturn, 1) := by decide +kernel
theorem dB_sees_10 : decode yB_sees.2.1 10 = .ok (.bipush 99, 2) := by decide +kernel
theorem dB_sees_12 : decode yB_sees.2.1 12 = .ok (.istore 4, 2) := by decide +kernel
theorem dB_sees_14 : decode yB_sees.2.1 14 = .ok (.aload_n 1, 1) := by decide +kernel
theorem dB_sees_15 : decode yB_sees.2.1 15 = .ok (.iconst 2, 1) := by decide +kernel
theorem dB_sees_16 : decode yB_sees.2.1 16 = .ok (.invokevirtual 115, 3) := by decide +kernel
theorem dB_sees_19 : decode yB_sees.2.1 19 = .ok (.ifCond .eq 12, 3) := by decide +kernel
theorem dB_sees_22 : decode yB_sees.2.1 22 = .ok (.aload_n 0, 1) := by decide +kernel
theorem dB_sees_23 : decode yB_sees.2.1 23 = .ok (.getfield 55, 3) := by decide +kernel
theorem dB_sees_26 : decode yB_sees.2.1 26 = .ok (.iconst 2, 1) := by decide +kernel
theorem dB_sees_27 : decode yB_sees.2.1 27 = .ok (.irem, 1) := by decide +kernel
theorem dB_sees_28 : decode yB_sees.2.1 28 = .ok (.ifCond .ne 61, 3) := by decide +kernel
theorem dB_sees_31 : decode yB_sees.2.1 31 = .ok (.aload_n 0, 1) := by decide +kernel
theorem dB_sees_32 : decode yB_sees.2.1 32 = .ok (.iconst 0, 1) := by decide +kernel
theorem dB_sees_33 : decode yB_sees.2.1 33 = .ok (.invokevirtual 119, 3) := by decide +kernel
theorem dB_sees_36 : decode yB_sees.2.1 36 = .ok (.astore 5, 2) := by decide +kernel
theorem dB_sees_38 : decode yB_sees.2.1 38 = .ok (.aload 5, 2) := by decide +kernel
theorem dB_sees_40 : decode yB_sees.2.1 40 = .ok (.ifnonnull 17, 3) := by decide +kernel
theorem dB_sees_43 : decode yB_sees.2.1 43 = .ok (.aload_n 1, 1) := by decide +kernel
theorem dB_sees_44 : decode yB_sees.2.1 44 = .ok (.getfield 82, 3) := by decide +kernel
theorem dB_sees_47 : decode yB_sees.2.1 47 = .ok (.aload_n 1, 1) := by decide +kernel
theorem dB_sees_48 : decode yB_sees.2.1 48 = .ok (.getfield 85, 3) := by decide +kernel
theorem dB_sees_51 : decode yB_sees.2.1 51 = .ok (.iconst 2, 1) := by decide +kernel
theorem dB_sees_52 : decode yB_sees.2.1 52 = .ok (.idiv, 1) := by decide +kernel
theorem dB_sees_53 : decode yB_sees.2.1 53 = .ok (.isub, 1) := by decide +kernel
theorem dB_sees_54 : decode yB_sees.2.1 54 = .ok (.goto 23, 3) := by decide +kernel
theorem dB_sees_57 : decode yB_sees.2.1 57 = .ok (.aload 5, 2) := by decide +kernel
theorem dB_sees_59 : decode yB_sees.2.1 59 = .ok (.aload_n 1, 1) := by decide +kernel
theorem dB_sees_60 : decode yB_sees.2.1 60 = .ok (.getfield 82, 3) := by decide +kernel
theorem dB_sees_63 : decode yB_sees.2.1 63 = .ok (.aload_n 1, 1) := by decide +kernel
theorem dB_sees_64 : decode yB_sees.2.1 64 = .ok (.getfield 85, 3) := by decide +kernel
theorem dB_sees_67 : decode yB_sees.2.1 67 = .ok (.aload_n 0, 1) := by decide +kernel
theorem dB_sees_68 : decode yB_sees.2.1 68 = .ok (.getfield 17, 3) := by decide +kernel
theorem dB_sees_71 : decode yB_sees.2.1 71 = .ok (.iload_n 2, 1) := by decide +kernel
theorem dB_sees_72 : decode yB_sees.2.1 72 = .ok (.iaload, 1) := by decide +kernel
theorem dB_sees_73 : decode yB_sees.2.1 73 = .ok (.iload_n 3, 1) := by decide +kernel
theorem dB_sees_74 : decode yB_sees.2.1 74 = .ok (.invokevirtual 123, 3) := by decide +kernel
theorem dB_sees_77 : decode yB_sees.2.1 77 = .ok (.istore 6, 2) := by decide +kernel
theorem dB_sees_79 : decode yB_sees.2.1 79 = .ok (.iload 6, 2) := by decide +kernel
theorem dB_sees_81 : decode yB_sees.2.1 81 = .ok (.iconst 0, 1) := by decide +kernel
theorem dB_sees_82 : decode yB_sees.2.1 82 = .ok (.bipush 99, 2) := by decide +kernel
theorem dB_sees_84 : decode yB_sees.2.1 84 = .ok (.invokestatic 127, 3) := by decide +kernel
theorem dB_sees_87 : decode yB_sees.2.1 87 = .ok (.istore 4, 2) := by decide +kernel
theorem dB_sees_89 : decode yB_sees.2.1 89 = .ok (.aload_n 1, 1) := by decide +kernel
theorem dB_sees_90 : decode yB_sees.2.1 90 = .ok (.getfield 79, 3) := by decide +kernel
theorem dB_sees_93 : decode yB_sees.2.1 93 = .ok (.iconst 3, 1) := by decide +kernel
theorem dB_sees_94 : decode yB_sees.2.1 94 = .ok (.if_icmp .ne 8, 3) := by decide +kernel
theorem dB_sees_97 : decode yB_sees.2.1 97 = .ok (.iload 4, 2) := by decide +kernel
theorem dB_sees_99 : decode yB_sees.2.1 99 = .ok (.iconst 3, 1) := by decide +kernel
theorem dB_sees_100 : decode yB_sees.2.1 100 = .ok (.idiv, 1) := by decide +kernel
theorem dB_sees_101 : decode yB_sees.2.1 101 = .ok (.ireturn, 1) := by decide +kernel
theorem dB_sees_102 : decode yB_sees.2.1 102 = .ok (.aload_n 1, 1) := by decide +kernel
theorem dB_sees_103 : decode yB_sees.2.1 103 = .ok (.getfield 79, 3) := by decide +kernel
theorem dB_sees_106 : decode yB_sees.2.1 106 = .ok (.iconst 4, 1) := by decide +kernel
theorem dB_sees_107 : decode yB_sees.2.1 107 = .ok (.if_icmp .ne 19, 3) := by decide +kernel
theorem dB_sees_110 : decode yB_sees.2.1 110 = .ok (.iconst 0, 1) := by decide +kernel
theorem dB_sees_111 : decode yB_sees.2.1 111 = .ok (.iload 4, 2) := by decide +kernel
theorem dB_sees_113 : decode yB_sees.2.1 113 = .ok (.bipush 9, 2) := by decide +kernel
theorem dB_sees_115 : decode yB_sees.2.1 115 = .ok (.iload_n 3, 1) := by decide +kernel
theorem dB_sees_116 : decode yB_sees.2.1 116 = .ok (.iconst 1, 1) := by decide +kernel
theorem dB_sees_117 : decode yB_sees.2.1 117 = .ok (.isub, 1) := by decide +kernel
theorem dB_sees_118 : decode yB_sees.2.1 118 = .ok (.imul, 1) := by decide +kernel
theorem dB_sees_119 : decode yB_sees.2.1 119 = .ok (.isub, 1) := by decide +kernel
theorem dB_sees_120 : decode yB_sees.2.1 120 = .ok (.invokestatic 131, 3) := by decide +kernel
theorem dB_sees_123 : decode yB_sees.2.1 123 = .ok (.goto 5, 3) := by decide +kernel
theorem dB_sees_126 : decode yB_sees.2.1 126 = .ok (.iload 4, 2) := by decide +kernel
theorem dB_sees_128 : decode yB_sees.2.1 128 = .ok (.ireturn, 1) := by decide +kernel
theorem dG_isOf_0 : decode yG_isOf.2.1 0 = .ok (.aload_n 0, 1) := by decide +kernel
theorem dG_isOf_1 : decode yG_isOf.2.1 1 = .ok (.getfield 9, 3) := by decide +kernel
theorem dG_isOf_4 : decode yG_isOf.2.1 4 = .ok (.istore_n 2, 1) := by decide +kernel
theorem dG_isOf_5 : decode yG_isOf.2.1 5 = .ok (.iconst 0, 1) := by decide +kernel
theorem dG_isOf_6 : decode yG_isOf.2.1 6 = .ok (.istore_n 3, 1) := by decide +kernel
theorem dG_isOf_7 : decode yG_isOf.2.1 7 = .ok (.iload_n 3, 1) := by decide +kernel
theorem dG_isOf_8 : decode yG_isOf.2.1 8 = .ok (.bipush 6, 2) := by decide +kernel
theorem dG_isOf_10 : decode yG_isOf.2.1 10 = .ok (.if_icmp .ge 26, 3) := by decide +kernel
theorem dG_isOf_13 : decode yG_isOf.2.1 13 = .ok (.iload_n 2, 1) := by decide +kernel
theorem dG_isOf_14 : decode yG_isOf.2.1 14 = .ok (.ifCond .lt 22, 3) := by decide +kernel
theorem dG_isOf_17 : decode yG_isOf.2.1 17 = .ok (.iload_n 2, 1) := by decide +kernel
theorem dG_isOf_18 : decode yG_isOf.2.1 18 = .ok (.iload_n 1, 1) := by decide +kernel
theorem dG_isOf_19 : decode yG_isOf.2.1 19 = .ok (.if_icmp .ne 5, 3) := by decide +kernel
theorem dG_isOf_22 : decode yG_isOf.2.1 22 = .ok (.iconst 1, 1) := by decide +kernel
theorem dG_isOf_23 : decode yG_isOf.2.1 23 = .ok (.ireturn, 1) := by decide +kernel
theorem dG_isOf_24 : decode yG_isOf.2.1 24 = .ok (.getstatic 27, 3) := by decide +kernel
theorem dG_isOf_27 : decode yG_isOf.2.1 27 = .ok (.iload_n 2, 1) := by decide +kernel
theorem dG_isOf_28 : decode yG_isOf.2.1 28 = .ok (.iaload, 1) := by decide +kernel
theorem dG_isOf_29 : decode yG_isOf.2.1 29 = .ok (.istore_n 2, 1) := by decide +kernel
theorem dG_isOf_30 : decode yG_isOf.2.1 30 = .ok (.iinc 3 1, 3) := by decide +kernel
theorem dG_isOf_33 : decode yG_isOf.2.1 33 = .ok (.goto (-26), 3) := by decide +kernel
theorem dG_isOf_36 : decode yG_isOf.2.1 36 = .ok (.iconst 0, 1) := by decide +kernel
theorem dG_isOf_37 : decode yG_isOf.2.1 37 = .ok (.ireturn, 1) := by decide +kernel
theorem dB_lawFor_0 : decode yB_lawFor.2.1 0 = .ok (.aload_n 0, 1) := by decide +kernel
theorem dB_lawFor_1 : decode yB_lawFor.2.1 1 = .ok (.getfield 27, 3) := by decide +kernel
theorem dB_lawFor_4 : decode yB_lawFor.2.1 4 = .ok (.iload_n 1, 1) := by decide +kernel
theorem dB_lawFor_5 : decode yB_lawFor.2.1 5 = .ok (.iaload, 1) := by decide +kernel
theorem dB_lawFor_6 : decode yB_lawFor.2.1 6 = .ok (.istore_n 2, 1) := by decide +kernel
theorem dB_lawFor_7 : decode yB_lawFor.2.1 7 = .ok (.iload_n 2, 1) := by decide +kernel
theorem dB_lawFor_8 : decode yB_lawFor.2.1 8 = .ok (.ifCond .lt 20, 3) := by decide +kernel
theorem dB_lawFor_11 : decode yB_lawFor.2.1 11 = .ok (.iload_n 2, 1) := by decide +kernel
theorem dB_lawFor_12 : decode yB_lawFor.2.1 12 = .ok (.aload_n 0, 1) := by decide +kernel
theorem dB_lawFor_13 : decode yB_lawFor.2.1 13 = .ok (.getfield 37, 3) := by decide +kernel
theorem dB_lawFor_16 : decode yB_lawFor.2.1 16 = .ok (.if_icmp .ge 12, 3) := by decide +kernel
theorem dB_lawFor_19 : decode yB_lawFor.2.1 19 = .ok (.aload_n 0, 1) := by decide +kernel
theorem dB_lawFor_20 : decode yB_lawFor.2.1 20 = .ok (.getfield 23, 3) := by decide +kernel
theorem dB_lawFor_23 : decode yB_lawFor.2.1 23 = .ok (.iload_n 2, 1) := by decide +kernel
theorem dB_lawFor_24 : decode yB_lawFor.2.1 24 = .ok (.aaload, 1) := by decide +kernel
theorem dB_lawFor_25 : decode yB_lawFor.2.1 25 = .ok (.goto 4, 3) := by decide +kernel
theorem dB_lawFor_28 : decode yB_lawFor.2.1 28 = .ok (.aconst_null, 1) := by decide +kernel
theorem dB_lawFor_29 : decode yB_lawFor.2.1 29 = .ok (.areturn, 1) := by decide +kernel
theorem dL_gives_0 : decode yL_gives.2.1 0 = .ok (.iconst 0, 1) := by decide +kernel
theorem dL_gives_1 : decode yL_gives.2.1 1 = .ok (.istore 5, 2) := by decide +kernel
theorem dL_gives_3 : decode yL_gives.2.1 3 = .ok (.iconst 0, 1) := by decide +kernel
theorem dL_gives_4 : decode yL_gives.2.1 4 = .ok (.istore 6, 2) := by decide +kernel
theorem dL_gives_6 : decode yL_gives.2.1 6 = .ok (.iload 6, 2) := by decide +kernel
theorem dL_gives_8 : decode yL_gives.2.1 8 = .ok (.aload_n 0, 1) := by decide +kernel
theorem dL_gives_9 : decode yL_gives.2.1 9 = .ok (.getfield 16, 3) := by decide +kernel
theorem dL_gives_12 : decode yL_gives.2.1 12 = .ok (.arraylength, 1) := by decide +kernel
theorem dL_gives_13 : decode yL_gives.2.1 13 = .ok (.if_icmp .ge 185, 3) := by decide +kernel
theorem dL_gives_16 : decode yL_gives.2.1 16 = .ok (.aload_n 0, 1) := by decide +kernel
theorem dL_gives_17 : decode yL_gives.2.1 17 = .ok (.getfield 16, 3) := by decide +kernel
theorem dL_gives_20 : decode yL_gives.2.1 20 = .ok (.iload 6, 2) := by decide +kernel
theorem dL_gives_22 : decode yL_gives.2.1 22 = .ok (.iaload, 1) := by decide +kernel
theorem dL_gives_23 : decode yL_gives.2.1 23 = .ok (.istore 7, 2) := by decide +kernel
theorem dL_gives_25 : decode yL_gives.2.1 25 = .ok (.iload 7, 2) := by decide +kernel
theorem dL_gives_27 : decode yL_gives.2.1 27 = .ok (.bipush (-4), 2) := by decide +kernel
theorem dL_gives_29 : decode yL_gives.2.1 29 = .ok (.if_icmp .lt 76, 3) := by decide +kernel
theorem dL_gives_32 : decode yL_gives.2.1 32 = .ok (.iload 5, 2) := by decide +kernel
theorem dL_gives_34 : decode yL_gives.2.1 34 = .ok (.aload_n 0, 1) := by decide +kernel
theorem dL_gives_35 : decode yL_gives.2.1 35 = .ok (.getfield 26, 3) := by decide +kernel
theorem dL_gives_38 : decode yL_gives.2.1 38 = .ok (.arraylength, 1) := by decide +kernel
theorem dL_gives_39 : decode yL_gives.2.1 39 = .ok (.if_icmp .lt 5, 3) := by decide +kernel
theorem dL_gives_42 : decode yL_gives.2.1 42 = .ok (.iconst 0, 1) := by decide +kernel
theorem dL_gives_43 : decode yL_gives.2.1 43 = .ok (.ireturn, 1) := by decide +kernel
theorem dL_gives_44 : decode yL_gives.2.1 44 = .ok (.iload 7, 2) := by decide +kernel
theorem dL_gives_46 : decode yL_gives.2.1 46 = .ok (.iconst (-1), 1) := by decide +kernel
theorem dL_gives_47 : decode yL_gives.2.1 47 = .ok (.if_icmp .ne 7, 3) := by decide +kernel
theorem dL_gives_50 : decode yL_gives.2.1 50 = .ok (.iload_n 1, 1) := by decide +kernel
theorem dL_gives_51 : decode yL_gives.2.1 51 = .ok (.goto 27, 3) := by decide +kernel
theorem dL_gives_54 : decode yL_gives.2.1 54 = .ok (.iload 7, 2) := by decide +kernel
theorem dL_gives_56 : decode yL_gives.2.1 56 = .ok (.bipush (-2), 2) := by decide +kernel
theorem dL_gives_58 : decode yL_gives.2.1 58 = .ok (.if_icmp .ne 7, 3) := by decide +kernel
theorem dL_gives_61 : decode yL_gives.2.1 61 = .ok (.iload_n 2, 1) := by decide +kernel
theorem dL_gives_62 : decode yL_gives.2.1 62 = .ok (.goto 16, 3) := by decide +kernel
theorem dL_gives_65 : decode yL_gives.2.1 65 = .ok (.iload 7, 2) := by decide +kernel
theorem dL_gives_67 : decode yL_gives.2.1 67 = .ok (.bipush (-3), 2) := by decide +kernel
theorem dL_gives_69 : decode yL_gives.2.1 69 = .ok (.if_icmp .ne 7, 3) := by decide +kernel
theorem dL_gives_72 : decode yL_gives.2.1 72 = .ok (.iload_n 3, 1) := by decide +kernel
theorem dL_gives_73 : decode yL_gives.2.1 73 = .ok (.goto 5, 3) := by decide +kernel
theorem dL_gives_76 : decode yL_gives.2.1 76 = .ok (.iload 4, 2) := by decide +kernel
theorem dL_gives_78 : decode yL_gives.2.1 78 = .ok (.istore 8, 2) := by decide +kernel
theorem dL_gives_80 : decode yL_gives.2.1 80 = .ok (.aload_n 0, 1) := by decide +kernel
theorem dL_gives_81 : decode yL_gives.2.1 81 = .ok (.getfield 26, 3) := by decide +kernel
theorem dL_gives_84 : decode yL_gives.2.1 84 = .ok (.iload 5, 2) := by decide +kernel
theorem dL_gives_86 : decode yL_gives.2.1 86 = .ok (.iload 7, 2) := by decide +kernel
theorem dL_gives_88 : decode yL_gives.2.1 88 = .ok (.ifCond .lt 8, 3) := by decide +kernel
theorem dL_gives_91 : decode yL_gives.2.1 91 = .ok (.iload 7, 2) := by decide +kernel
theorem dL_gives_93 : decode yL_gives.2.1 93 = .ok (.goto 5, 3) := by decide +kernel
theorem dL_gives_96 : decode yL_gives.2.1 96 = .ok (.iload 8, 2) := by decide +kernel
theorem dL_gives_98 : decode yL_gives.2.1 98 = .ok (.iastore, 1) := by decide +kernel
theorem dL_gives_99 : decode yL_gives.2.1 99 = .ok (.iinc 5 1, 3) := by decide +kernel
theorem dL_gives_102 : decode yL_gives.2.1 102 = .ok (.goto 90, 3) := by decide +kernel
theorem dL_gives_105 : decode yL_gives.2.1 105 = .ok (.iload 7, 2) := by decide +kernel
theorem dL_gives_107 : decode yL_gives.2.1 107 = .ok (.bipush (-10), 2) := by decide +kernel
theorem dL_gives_109 : decode yL_gives.2.1 109 = .ok (.if_icmp .ne 40, 3) := by decide +kernel
theorem dL_gives_112 : decode yL_gives.2.1 112 = .ok (.iload 5, 2) := by decide +kernel
theorem dL_gives_114 : decode yL_gives.2.1 114 = .ok (.iconst 1, 1) := by decide +kernel
theorem dL_gives_115 : decode yL_gives.2.1 115 = .ok (.if_icmp .ge 5, 3) := by decide +kernel
theorem dL_gives_118 : decode yL_gives.2.1 118 = .ok (.iconst 0, 1) := by decide +kernel
theorem dL_gives_119 : decode yL_gives.2.1 119 = .ok (.ireturn, 1) := by decide +kernel
theorem dL_gives_120 : decode yL_gives.2.1 120 = .ok (.aload_n 0, 1) := by decide +kernel
theorem dL_gives_121 : decode yL_gives.2.1 121 = .ok (.getfield 26, 3) := by decide +kernel
theorem dL_gives_124 : decode yL_gives.2.1 124 = .ok (.iload 5, 2) := by decide +kernel
theorem dL_gives_126 : decode yL_gives.2.1 126 = .ok (.iconst 1, 1) := by decide +kernel
theorem dL_gives_127 : decode yL_gives.2.1 127 = .ok (.isub, 1) := by decide +kernel
theorem dL_gives_128 : decode yL_gives.2.1 128 = .ok (.aload_n 0, 1) := by decide +kernel
theorem dL_gives_129 : decode yL_gives.2.1 129 = .ok (.getfield 26, 3) := by decide +kernel
theorem dL_gives_132 : decode yL_gives.2.1 132 = .ok (.iload 5, 2) := by decide +kernel
theorem dL_gives_134 : decode yL_gives.2.1 134 = .ok (.iconst 1, 1) := by decide +kernel
theorem dL_gives_135 : decode yL_gives.2.1 135 = .ok (.isub, 1) := by decide +kernel
theorem dL_gives_136 : decode yL_gives.2.1 136 = .ok (.iaload, 1) := by decide +kernel
theorem dL_gives_137 : decode yL_gives.2.1 137 = .ok (.ifCond .ne 7, 3) := by decide +kernel
theorem dL_gives_140 : decode yL_gives.2.1 140 = .ok (.iconst 1, 1) := by decide +kernel
theorem dL_gives_141 : decode yL_gives.2.1 141 = .ok (.goto 4, 3) := by decide +kernel
theorem dL_gives_144 : decode yL_gives.2.1 144 = .ok (.iconst 0, 1) := by decide +kernel
theorem dL_gives_145 : decode yL_gives.2.1 145 = .ok (.iastore, 1) := by decide +kernel
theorem dL_gives_146 : decode yL_gives.2.1 146 = .ok (.goto 46, 3) := by decide +kernel
theorem dL_gives_149 : decode yL_gives.2.1 149 = .ok (.iload 5, 2) := by decide +kernel
theorem dL_gives_151 : decode yL_gives.2.1 151 = .ok (.iconst 2, 1) := by decide +kernel
theorem dL_gives_152 : decode yL_gives.2.1 152 = .ok (.if_icmp .ge 5, 3) := by decide +kernel
theorem dL_gives_155 : decode yL_gives.2.1 155 = .ok (.iconst 0, 1) := by decide +kernel
theorem dL_gives_156 : decode yL_gives.2.1 156 = .ok (.ireturn, 1) := by decide +kernel
theorem dL_gives_157 : decode yL_gives.2.1 157 = .ok (.aload_n 0, 1) := by decide +kernel
theorem dL_gives_158 : decode yL_gives.2.1 158 = .ok (.getfield 26, 3) := by decide +kernel
theorem dL_gives_161 : decode yL_gives.2.1 161 = .ok (.iload 5, 2) := by decide +kernel
theorem dL_gives_163 : decode yL_gives.2.1 163 = .ok (.iconst 2, 1) := by decide +kernel
theorem dL_gives_164 : decode yL_gives.2.1 164 = .ok (.isub, 1) := by decide +kernel
theorem dL_gives_165 : decode yL_gives.2.1 165 = .ok (.iload 7, 2) := by decide +kernel
theorem dL_gives_167 : decode yL_gives.2.1 167 = .ok (.aload_n 0, 1) := by decide +kernel
theorem dL_gives_168 : decode yL_gives.2.1 168 = .ok (.getfield 26, 3) := by decide +kernel
theorem dL_gives_171 : decode yL_gives.2.1 171 = .ok (.iload 5, 2) := by decide +kernel
theorem dL_gives_173 : decode yL_gives.2.1 173 = .ok (.iconst 2, 1) := by decide +kernel
theorem dL_gives_174 : decode yL_gives.2.1 174 = .ok (.isub, 1) := by decide +kernel
theorem dL_gives_175 : decode yL_gives.2.1 175 = .ok (.iaload, 1) := by decide +kernel
theorem dL_gives_176 : decode yL_gives.2.1 176 = .ok (.aload_n 0, 1) := by decide +kernel
theorem dL_gives_177 : decode yL_gives.2.1 177 = .ok (.getfield 26, 3) := by decide +kernel
theorem dL_gives_180 : decode yL_gives.2.1 180 = .ok (.iload 5, 2) := by decide +kernel
theorem dL_gives_182 : decode yL_gives.2.1 182 = .ok (.iconst 1, 1) := by decide +kernel
theorem dL_gives_183 : decode yL_gives.2.1 183 = .ok (.isub, 1) := by decide +kernel
theorem dL_gives_184 : decode yL_gives.2.1 184 = .ok (.iaload, 1) := by decide +kernel
theorem dL_gives_185 : decode yL_gives.2.1 185 = .ok (.invokestatic 29, 3) := by decide +kernel
theorem dL_gives_188 : decode yL_gives.2.1 188 = .ok (.iastore, 1) := by decide +kernel
theorem dL_gives_189 : decode yL_gives.2.1 189 = .ok (.iinc 5 (-1), 3) := by decide +kernel
theorem dL_gives_192 : decode yL_gives.2.1 192 = .ok (.iinc 6 1, 3) := by decide +kernel
theorem dL_gives_195 : decode yL_gives.2.1 195 = .ok (.goto (-189), 3) := by decide +kernel
theorem dL_gives_198 : decode yL_gives.2.1 198 = .ok (.aload_n 0, 1) := by decide +kernel
theorem dL_gives_199 : decode yL_gives.2.1 199 = .ok (.getfield 26, 3) := by decide +kernel
theorem dL_gives_202 : decode yL_gives.2.1 202 = .ok (.iconst 0, 1) := by decide +kernel
theorem dL_gives_203 : decode yL_gives.2.1 203 = .ok (.iaload, 1) := by decide +kernel
theorem dL_gives_204 : decode yL_gives.2.1 204 = .ok (.ireturn, 1) := by decide +kernel
theorem dL_worked_0 : decode yL_worked.2.1 0 = .ok (.iload_n 0, 1) := by decide +kernel
theorem dL_worked_1 : decode yL_worked.2.1 1 = .ok (.tableswitch 118 (-18) (-11) #[104, 93, 82, 71, 67, 63, 51, 47], 47) := by decide +kernel
theorem dL_worked_48 : decode yL_worked.2.1 48 = .ok (.iload_n 1, 1) := by decide +kernel
theorem dL_worked_49 : decode yL_worked.2.1 49 = .ok (.iload_n 2, 1) := by decide +kernel
theorem dL_worked_50 : decode yL_worked.2.1 50 = .ok (.imul, 1) := by decide +kernel
theorem dL_worked_51 : decode yL_worked.2.1 51 = .ok (.ireturn, 1) := by decide +kernel
theorem dL_worked_52 : decode yL_worked.2.1 52 = .ok (.iload_n 2, 1) := by decide +kernel
theorem dL_worked_53 : decode yL_worked.2.1 53 = .ok (.ifCond .ne 7, 3) := by decide +kernel
theorem dL_worked_56 : decode yL_worked.2.1 56 = .ok (.iconst 0, 1) := by decide +kernel
theorem dL_worked_57 : decode yL_worked.2.1 57 = .ok (.goto 6, 3) := by decide +kernel
theorem dL_worked_60 : decode yL_worked.2.1 60 = .ok (.iload_n 1, 1) := by decide +kernel
theorem dL_worked_61 : decode yL_worked.2.1 61 = .ok (.iload_n 2, 1) := by decide +kernel
theorem dL_worked_62 : decode yL_worked.2.1 62 = .ok (.idiv, 1) := by decide +kernel
theorem dL_worked_63 : decode yL_worked.2.1 63 = .ok (.ireturn, 1) := by decide +kernel
theorem dL_worked_64 : decode yL_worked.2.1 64 = .ok (.iload_n 1, 1) := by decide +kernel
theorem dL_worked_65 : decode yL_worked.2.1 65 = .ok (.iload_n 2, 1) := by decide +kernel
theorem dL_worked_66 : decode yL_worked.2.1 66 = .ok (.iadd, 1) := by decide +kernel
theorem dL_worked_67 : decode yL_worked.2.1 67 = .ok (.ireturn, 1) := by decide +kernel
theorem dL_worked_68 : decode yL_worked.2.1 68 = .ok (.iload_n 1, 1) := by decide +kernel
theorem dL_worked_69 : decode yL_worked.2.1 69 = .ok (.iload_n 2, 1) := by decide +kernel
theorem dL_worked_70 : decode yL_worked.2.1 70 = .ok (.isub, 1) := by decide +kernel
theorem dL_worked_71 : decode yL_worked.2.1 71 = .ok (.ireturn, 1) := by decide +kernel
theorem dL_worked_72 : decode yL_worked.2.1 72 = .ok (.iload_n 1, 1) := by decide +kernel
theorem dL_worked_73 : decode yL_worked.2.1 73 = .ok (.iload_n 2, 1) := by decide +kernel
theorem dL_worked_74 : decode yL_worked.2.1 74 = .ok (.if_icmp .ge 7, 3) := by decide +kernel
theorem dL_worked_77 : decode yL_worked.2.1 77 = .ok (.iconst 1, 1) := by decide +kernel
theorem dL_worked_78 : decode yL_worked.2.1 78 = .ok (.goto 4, 3) := by decide +kernel
theorem dL_worked_81 : decode yL_worked.2.1 81 = .ok (.iconst 0, 1) := by decide +kernel
theorem dL_worked_82 : decode yL_worked.2.1 82 = .ok (.ireturn, 1) := by decide +kernel
theorem dL_worked_83 : decode yL_worked.2.1 83 = .ok (.iload_n 1, 1) := by decide +kernel
theorem dL_worked_84 : decode yL_worked.2.1 84 = .ok (.iload_n 2, 1) := by decide +kernel
theorem dL_worked_85 : decode yL_worked.2.1 85 = .ok (.if_icmp .ne 7, 3) := by decide +kernel
theorem dL_worked_88 : decode yL_worked.2.1 88 = .ok (.iconst 1, 1) := by decide +kernel
theorem dL_worked_89 : decode yL_worked.2.1 89 = .ok (.goto 4, 3) := by decide +kernel
theorem dL_worked_92 : decode yL_worked.2.1 92 = .ok (.iconst 0, 1) := by decide +kernel
theorem dL_worked_93 : decode yL_worked.2.1 93 = .ok (.ireturn, 1) := by decide +kernel
theorem dL_worked_94 : decode yL_worked.2.1 94 = .ok (.iload_n 1, 1) := by decide +kernel
theorem dL_worked_95 : decode yL_worked.2.1 95 = .ok (.iload_n 2, 1) := by decide +kernel
theorem dL_worked_96 : decode yL_worked.2.1 96 = .ok (.if_icmp .le 7, 3) := by decide +kernel
theorem dL_worked_99 : decode yL_worked.2.1 99 = .ok (.iconst 1, 1) := by decide +kernel
theorem dL_worked_100 : decode yL_worked.2.1 100 = .ok (.goto 4, 3) := by decide +kernel
theorem dL_worked_103 : decode yL_worked.2.1 103 = .ok (.iconst 0, 1) := by decide +kernel
theorem dL_worked_104 : decode yL_worked.2.1 104 = .ok (.ireturn, 1) := by decide +kernel
theorem dL_worked_105 : decode yL_worked.2.1 105 = .ok (.iload_n 1, 1) := by decide +kernel
theorem dL_worked_106 : decode yL_worked.2.1 106 = .ok (.ifCond .eq 11, 3) := by decide +kernel
theorem dL_worked_109 : decode yL_worked.2.1 109 = .ok (.iload_n 2, 1) := by decide +kernel
theorem dL_worked_110 : decode yL_worked.2.1 110 = .ok (.ifCond .eq 7, 3) := by decide +kernel
theorem dL_worked_113 : decode yL_worked.2.1 113 = .ok (.iconst 1, 1) := by decide +kernel
theorem dL_worked_114 : decode yL_worked.2.1 114 = .ok (.goto 4, 3) := by decide +kernel
theorem dL_worked_117 : decode yL_worked.2.1 117 = .ok (.iconst 0, 1) := by decide +kernel
theorem dL_worked_118 : decode yL_worked.2.1 118 = .ok (.ireturn, 1) := by decide +kernel
theorem dL_worked_119 : decode yL_worked.2.1 119 = .ok (.iload_n 1, 1) := by decide +kernel
theorem dL_worked_120 : decode yL_worked.2.1 120 = .ok (.ifCond .ne 7, 3) := by decide +kernel
theorem dL_worked_123 : decode yL_worked.2.1 123 = .ok (.iload_n 2, 1) := by decide +kernel
theorem dL_worked_124 : decode yL_worked.2.1 124 = .ok (.ifCond .eq 7, 3) := by decide +kernel
theorem dL_worked_127 : decode yL_worked.2.1 127 = .ok (.iconst 1, 1) := by decide +kernel
theorem dL_worked_128 : decode yL_worked.2.1 128 = .ok (.goto 4, 3) := by decide +kernel
theorem dL_worked_131 : decode yL_worked.2.1 131 = .ok (.iconst 0, 1) := by decide +kernel
theorem dL_worked_132 : decode yL_worked.2.1 132 = .ok (.ireturn, 1) := by decide +kernel
theorem dG_wanders_0 : decode yG_wanders.2.1 0 = .ok (.getstatic 34, 3) := by decide +kernel
theorem dG_wanders_3 : decode yG_wanders.2.1 3 = .ok (.aload_n 0, 1) := by decide +kernel
theorem dG_wanders_4 : decode yG_wanders.2.1 4 = .ok (.getfield 9, 3) := by decide +kernel
theorem dG_wanders_7 : decode yG_wanders.2.1 7 = .ok (.iaload, 1) := by decide +kernel
theorem dG_wanders_8 : decode yG_wanders.2.1 8 = .ok (.ireturn, 1) := by decide +kernel
theorem dG_tallies_0 : decode yG_tallies.2.1 0 = .ok (.getstatic 31, 3) := by decide +kernel
theorem dG_tallies_3 : decode yG_tallies.2.1 3 = .ok (.aload_n 0, 1) := by decide +kernel
theorem dG_tallies_4 : decode yG_tallies.2.1 4 = .ok (.getfield 9, 3) := by decide +kernel
theorem dG_tallies_7 : decode yG_tallies.2.1 7 = .ok (.iaload, 1) := by decide +kernel
theorem dG_tallies_8 : decode yG_tallies.2.1 8 = .ok (.ireturn, 1) := by decide +kernel
theorem dG_worth_0 : decode yG_worth.2.1 0 = .ok (.aload_n 0, 1) := by decide +kernel
theorem dG_worth_1 : decode yG_worth.2.1 1 = .ok (.getfield 9, 3) := by decide +kernel
theorem dG_worth_4 : decode yG_worth.2.1 4 = .ok (.tableswitch 81 1 5 #[36, 58, 46, 66, 76], 36) := by decide +kernel
theorem dG_worth_40 : decode yG_worth.2.1 40 = .ok (.aload_n 0, 1) := by decide +kernel
theorem dG_worth_41 : decode yG_worth.2.1 41 = .ok (.getfield 15, 3) := by decide +kernel
theorem dG_worth_44 : decode yG_worth.2.1 44 = .ok (.aload_n 0, 1) := by decide +kernel
theorem dG_worth_45 : decode yG_worth.2.1 45 = .ok (.getfield 24, 3) := by decide +kernel
theorem dG_worth_48 : decode yG_worth.2.1 48 = .ok (.iadd, 1) := by decide +kernel
theorem dG_worth_49 : decode yG_worth.2.1 49 = .ok (.ireturn, 1) := by decide +kernel
theorem dG_worth_50 : decode yG_worth.2.1 50 = .ok (.aload_n 0, 1) := by decide +kernel
theorem dG_worth_51 : decode yG_worth.2.1 51 = .ok (.getfield 15, 3) := by decide +kernel
theorem dG_worth_54 : decode yG_worth.2.1 54 = .ok (.aload_n 0, 1) := by decide +kernel
theorem dG_worth_55 : decode yG_worth.2.1 55 = .ok (.getfield 24, 3) := by decide +kernel
theorem dG_worth_58 : decode yG_worth.2.1 58 = .ok (.iadd, 1) := by decide +kernel
theorem dG_worth_59 : decode yG_worth.2.1 59 = .ok (.iconst 2, 1) := by decide +kernel
theorem dG_worth_60 : decode yG_worth.2.1 60 = .ok (.idiv, 1) := by decide +kernel
theorem dG_worth_61 : decode yG_worth.2.1 61 = .ok (.ireturn, 1) := by decide +kernel
theorem dG_worth_62 : decode yG_worth.2.1 62 = .ok (.bipush 99, 2) := by decide +kernel
theorem dG_worth_64 : decode yG_worth.2.1 64 = .ok (.aload_n 0, 1) := by decide +kernel
theorem dG_worth_65 : decode yG_worth.2.1 65 = .ok (.getfield 18, 3) := by decide +kernel
theorem dG_worth_68 : decode yG_worth.2.1 68 = .ok (.isub, 1) := by decide +kernel
theorem dG_worth_69 : decode yG_worth.2.1 69 = .ok (.ireturn, 1) := by decide +kernel
theorem dG_worth_70 : decode yG_worth.2.1 70 = .ok (.bipush 99, 2) := by decide +kernel
theorem dG_worth_72 : decode yG_worth.2.1 72 = .ok (.aload_n 0, 1) := by decide +kernel
theorem dG_worth_73 : decode yG_worth.2.1 73 = .ok (.getfield 18, 3) := by decide +kernel
theorem dG_worth_76 : decode yG_worth.2.1 76 = .ok (.isub, 1) := by decide +kernel
theorem dG_worth_77 : decode yG_worth.2.1 77 = .ok (.iconst 5, 1) := by decide +kernel
theorem dG_worth_78 : decode yG_worth.2.1 78 = .ok (.iadd, 1) := by decide +kernel
theorem dG_worth_79 : decode yG_worth.2.1 79 = .ok (.ireturn, 1) := by decide +kernel
theorem dG_worth_80 : decode yG_worth.2.1 80 = .ok (.aload_n 0, 1) := by decide +kernel
theorem dG_worth_81 : decode yG_worth.2.1 81 = .ok (.getfield 24, 3) := by decide +kernel
theorem dG_worth_84 : decode yG_worth.2.1 84 = .ok (.ireturn, 1) := by decide +kernel
theorem dG_worth_85 : decode yG_worth.2.1 85 = .ok (.aload_n 0, 1) := by decide +kernel
theorem dG_worth_86 : decode yG_worth.2.1 86 = .ok (.getfield 15, 3) := by decide +kernel
theorem dG_worth_89 : decode yG_worth.2.1 89 = .ok (.ireturn, 1) := by decide +kernel
theorem dG_change_0 : decode yG_change.2.1 0 = .ok (.iload_n 1, 1) := by decide +kernel
theorem dG_change_1 : decode yG_change.2.1 1 = .ok (.tableswitch 63 0 3 #[31, 39, 47, 55], 31) := by decide +kernel
theorem dG_change_32 : decode yG_change.2.1 32 = .ok (.aload_n 0, 1) := by decide +kernel
theorem dG_change_33 : decode yG_change.2.1 33 = .ok (.iload_n 2, 1) := by decide +kernel
theorem dG_change_34 : decode yG_change.2.1 34 = .ok (.putfield 9, 3) := by decide +kernel
theorem dG_change_37 : decode yG_change.2.1 37 = .ok (.goto 32, 3) := by decide +kernel
theorem dG_change_40 : decode yG_change.2.1 40 = .ok (.aload_n 0, 1) := by decide +kernel
theorem dG_change_41 : decode yG_change.2.1 41 = .ok (.iload_n 2, 1) := by decide +kernel
theorem dG_change_42 : decode yG_change.2.1 42 = .ok (.putfield 15, 3) := by decide +kernel
theorem dG_change_45 : decode yG_change.2.1 45 = .ok (.goto 24, 3) := by decide +kernel
theorem dG_change_48 : decode yG_change.2.1 48 = .ok (.aload_n 0, 1) := by decide +kernel
theorem dG_change_49 : decode yG_change.2.1 49 = .ok (.iload_n 2, 1) := by decide +kernel
theorem dG_change_50 : decode yG_change.2.1 50 = .ok (.putfield 18, 3) := by decide +kernel
theorem dG_change_53 : decode yG_change.2.1 53 = .ok (.goto 16, 3) := by decide +kernel
theorem dG_change_56 : decode yG_change.2.1 56 = .ok (.aload_n 0, 1) := by decide +kernel
theorem dG_change_57 : decode yG_change.2.1 57 = .ok (.iload_n 2, 1) := by decide +kernel
theorem dG_change_58 : decode yG_change.2.1 58 = .ok (.putfield 21, 3) := by decide +kernel
theorem dG_change_61 : decode yG_change.2.1 61 = .ok (.goto 8, 3) := by decide +kernel
theorem dG_change_64 : decode yG_change.2.1 64 = .ok (.aload_n 0, 1) := by decide +kernel
theorem dG_change_65 : decode yG_change.2.1 65 = .ok (.iload_n 2, 1) := by decide +kernel
theorem dG_change_66 : decode yG_change.2.1 66 = .ok (.putfield 24, 3) := by decide +kernel
theorem dG_change_69 : decode yG_change.2.1 69 = .ok (.return_, 1) := by decide +kernel
theorem dB_witnesses_0 : decode yB_witnesses.2.1 0 = .ok (.aload_n 0, 1) := by decide +kernel
theorem dB_witnesses_1 : decode yB_witnesses.2.1 1 = .ok (.iload_n 1, 1) := by decide +kernel
theorem dB_witnesses_2 : decode yB_witnesses.2.1 2 = .ok (.invokevirtual 106, 3) := by decide +kernel
theorem dB_witnesses_5 : decode yB_witnesses.2.1 5 = .ok (.istore_n 2, 1) := by decide +kernel
theorem dB_witnesses_6 : decode yB_witnesses.2.1 6 = .ok (.iload_n 2, 1) := by decide +kernel
theorem dB_witnesses_7 : decode yB_witnesses.2.1 7 = .ok (.invokestatic 110, 3) := by decide +kernel
theorem dB_witnesses_10 : decode yB_witnesses.2.1 10 = .ok (.istore_n 3, 1) := by decide +kernel
theorem dB_witnesses_11 : decode yB_witnesses.2.1 11 = .ok (.iconst 0, 1) := by decide +kernel
theorem dB_witnesses_12 : decode yB_witnesses.2.1 12 = .ok (.istore 4, 2) := by decide +kernel
theorem dB_witnesses_14 : decode yB_witnesses.2.1 14 = .ok (.iconst 0, 1) := by decide +kernel
theorem dB_witnesses_15 : decode yB_witnesses.2.1 15 = .ok (.istore 5, 2) := by decide +kernel
theorem dB_witnesses_17 : decode yB_witnesses.2.1 17 = .ok (.iload 5, 2) := by decide +kernel
theorem dB_witnesses_19 : decode yB_witnesses.2.1 19 = .ok (.aload_n 0, 1) := by decide +kernel
theorem dB_witnesses_20 : decode yB_witnesses.2.1 20 = .ok (.getfield 33, 3) := by decide +kernel
theorem dB_witnesses_23 : decode yB_witnesses.2.1 23 = .ok (.if_icmp .ge 48, 3) := by decide +kernel
theorem dB_witnesses_26 : decode yB_witnesses.2.1 26 = .ok (.iload_n 2, 1) := by decide +kernel
theorem dB_witnesses_27 : decode yB_witnesses.2.1 27 = .ok (.iload 5, 2) := by decide +kernel
theorem dB_witnesses_29 : decode yB_witnesses.2.1 29 = .ok (.ishr, 1) := by decide +kernel
theorem dB_witnesses_30 : decode yB_witnesses.2.1 30 = .ok (.iconst 1, 1) := by decide +kernel
theorem dB_witnesses_31 : decode yB_witnesses.2.1 31 = .ok (.iand, 1) := by decide +kernel
theorem dB_witnesses_32 : decode yB_witnesses.2.1 32 = .ok (.iconst 1, 1) := by decide +kernel
theorem dB_witnesses_33 : decode yB_witnesses.2.1 33 = .ok (.if_icmp .ne 32, 3) := by decide +kernel
theorem dB_witnesses_36 : decode yB_witnesses.2.1 36 = .ok (.aload_n 0, 1) := by decide +kernel
theorem dB_witnesses_37 : decode yB_witnesses.2.1 37 = .ok (.aload_n 0, 1) := by decide +kernel
theorem dB_witnesses_38 : decode yB_witnesses.2.1 38 = .ok (.getfield 11, 3) := by decide +kernel
theorem dB_witnesses_41 : decode yB_witnesses.2.1 41 = .ok (.iload 5, 2) := by decide +kernel
theorem dB_witnesses_43 : decode yB_witnesses.2.1 43 = .ok (.aaload, 1) := by decide +kernel
theorem dB_witnesses_44 : decode yB_witnesses.2.1 44 = .ok (.iload_n 1, 1) := by decide +kernel
theorem dB_witnesses_45 : decode yB_witnesses.2.1 45 = .ok (.iload_n 3, 1) := by decide +kernel
theorem dB_witnesses_46 : decode yB_witnesses.2.1 46 = .ok (.invokevirtual 137, 3) := by decide +kernel
theorem dB_witnesses_49 : decode yB_witnesses.2.1 49 = .ok (.aload_n 0, 1) := by decide +kernel
theorem dB_witnesses_50 : decode yB_witnesses.2.1 50 = .ok (.getfield 40, 3) := by decide +kernel
theorem dB_witnesses_53 : decode yB_witnesses.2.1 53 = .ok (.if_icmp .lt 12, 3) := by decide +kernel
theorem dB_witnesses_56 : decode yB_witnesses.2.1 56 = .ok (.iload 4, 2) := by decide +kernel
theorem dB_witnesses_58 : decode yB_witnesses.2.1 58 = .ok (.iconst 1, 1) := by decide +kernel
theorem dB_witnesses_59 : decode yB_witnesses.2.1 59 = .ok (.iload 5, 2) := by decide +kernel
theorem dB_witnesses_61 : decode yB_witnesses.2.1 61 = .ok (.ishl, 1) := by decide +kernel
theorem dB_witnesses_62 : decode yB_witnesses.2.1 62 = .ok (.ior, 1) := by decide +kernel
theorem dB_witnesses_63 : decode yB_witnesses.2.1 63 = .ok (.istore 4, 2) := by decide +kernel
theorem dB_witnesses_65 : decode yB_witnesses.2.1 65 = .ok (.iinc 5 1, 3) := by decide +kernel
theorem dB_witnesses_68 : decode yB_witnesses.2.1 68 = .ok (.goto (-51), 3) := by decide +kernel
theorem dB_witnesses_71 : decode yB_witnesses.2.1 71 = .ok (.iload 4, 2) := by decide +kernel
theorem dB_witnesses_73 : decode yB_witnesses.2.1 73 = .ok (.ireturn, 1) := by decide +kernel
theorem dB_tallyOf_0 : decode yB_tallyOf.2.1 0 = .ok (.iconst 0, 1) := by decide +kernel
theorem dB_tallyOf_1 : decode yB_tallyOf.2.1 1 = .ok (.istore_n 2, 1) := by decide +kernel
theorem dB_tallyOf_2 : decode yB_tallyOf.2.1 2 = .ok (.iconst 0, 1) := by decide +kernel
theorem dB_tallyOf_3 : decode yB_tallyOf.2.1 3 = .ok (.istore_n 3, 1) := by decide +kernel
theorem dB_tallyOf_4 : decode yB_tallyOf.2.1 4 = .ok (.iload_n 3, 1) := by decide +kernel
theorem dB_tallyOf_5 : decode yB_tallyOf.2.1 5 = .ok (.aload_n 0, 1) := by decide +kernel
theorem dB_tallyOf_6 : decode yB_tallyOf.2.1 6 = .ok (.getfield 33, 3) := by decide +kernel
theorem dB_tallyOf_9 : decode yB_tallyOf.2.1 9 = .ok (.if_icmp .ge 30, 3) := by decide +kernel
theorem dB_tallyOf_12 : decode yB_tallyOf.2.1 12 = .ok (.iload_n 1, 1) := by decide +kernel
theorem dB_tallyOf_13 : decode yB_tallyOf.2.1 13 = .ok (.iload_n 3, 1) := by decide +kernel
theorem dB_tallyOf_14 : decode yB_tallyOf.2.1 14 = .ok (.ishr, 1) := by decide +kernel
theorem dB_tallyOf_15 : decode yB_tallyOf.2.1 15 = .ok (.iconst 1, 1) := by decide +kernel
theorem dB_tallyOf_16 : decode yB_tallyOf.2.1 16 = .ok (.iand, 1) := by decide +kernel
theorem dB_tallyOf_17 : decode yB_tallyOf.2.1 17 = .ok (.iconst 1, 1) := by decide +kernel
theorem dB_tallyOf_18 : decode yB_tallyOf.2.1 18 = .ok (.if_icmp .ne 15, 3) := by decide +kernel
theorem dB_tallyOf_21 : decode yB_tallyOf.2.1 21 = .ok (.iload_n 2, 1) := by decide +kernel
theorem dB_tallyOf_22 : decode yB_tallyOf.2.1 22 = .ok (.aload_n 0, 1) := by decide +kernel
theorem dB_tallyOf_23 : decode yB_tallyOf.2.1 23 = .ok (.getfield 11, 3) := by decide +kernel
theorem dB_tallyOf_26 : decode yB_tallyOf.2.1 26 = .ok (.iload_n 3, 1) := by decide +kernel
theorem dB_tallyOf_27 : decode yB_tallyOf.2.1 27 = .ok (.aaload, 1) := by decide +kernel
theorem dB_tallyOf_28 : decode yB_tallyOf.2.1 28 = .ok (.invokevirtual 141, 3) := by decide +kernel
theorem dB_tallyOf_31 : decode yB_tallyOf.2.1 31 = .ok (.iadd, 1) := by decide +kernel
theorem dB_tallyOf_32 : decode yB_tallyOf.2.1 32 = .ok (.istore_n 2, 1) := by decide +kernel
theorem dB_tallyOf_33 : decode yB_tallyOf.2.1 33 = .ok (.iinc 3 1, 3) := by decide +kernel
theorem dB_tallyOf_36 : decode yB_tallyOf.2.1 36 = .ok (.goto (-32), 3) := by decide +kernel
theorem dB_tallyOf_39 : decode yB_tallyOf.2.1 39 = .ok (.iload_n 2, 1) := by decide +kernel
theorem dB_tallyOf_40 : decode yB_tallyOf.2.1 40 = .ok (.ireturn, 1) := by decide +kernel
theorem dB_wouldHold_0 : decode yB_wouldHold.2.1 0 = .ok (.aload_n 0, 1) := by decide +kernel
theorem dB_wouldHold_1 : decode yB_wouldHold.2.1 1 = .ok (.aload_n 0, 1) := by decide +kernel
theorem dB_wouldHold_2 : decode yB_wouldHold.2.1 2 = .ok (.iload_n 1, 1) := by decide +kernel
theorem dB_wouldHold_3 : decode yB_wouldHold.2.1 3 = .ok (.invokevirtual 144, 3) := by decide +kernel
theorem dB_wouldHold_6 : decode yB_wouldHold.2.1 6 = .ok (.invokevirtual 147, 3) := by decide +kernel
theorem dB_wouldHold_9 : decode yB_wouldHold.2.1 9 = .ok (.aload_n 0, 1) := by decide +kernel
theorem dB_wouldHold_10 : decode yB_wouldHold.2.1 10 = .ok (.getfield 17, 3) := by decide +kernel
theorem dB_wouldHold_13 : decode yB_wouldHold.2.1 13 = .ok (.iload_n 1, 1) := by decide +kernel
theorem dB_wouldHold_14 : decode yB_wouldHold.2.1 14 = .ok (.iaload, 1) := by decide +kernel
theorem dB_wouldHold_15 : decode yB_wouldHold.2.1 15 = .ok (.if_icmp .lt 7, 3) := by decide +kernel
theorem dB_wouldHold_18 : decode yB_wouldHold.2.1 18 = .ok (.iconst 1, 1) := by decide +kernel
theorem dB_wouldHold_19 : decode yB_wouldHold.2.1 19 = .ok (.goto 4, 3) := by decide +kernel
theorem dB_wouldHold_22 : decode yB_wouldHold.2.1 22 = .ok (.iconst 0, 1) := by decide +kernel
theorem dB_wouldHold_23 : decode yB_wouldHold.2.1 23 = .ok (.ireturn, 1) := by decide +kernel
theorem dB_drawGoose_0 : decode yB_drawGoose.2.1 0 = .ok (.aload_n 0, 1) := by decide +kernel
theorem dB_drawGoose_1 : decode yB_drawGoose.2.1 1 = .ok (.invokevirtual 95, 3) := by decide +kernel
theorem dB_drawGoose_4 : decode yB_drawGoose.2.1 4 = .ok (.bipush 6, 2) := by decide +kernel
theorem dB_drawGoose_6 : decode yB_drawGoose.2.1 6 = .ok (.irem, 1) := by decide +kernel
theorem dB_drawGoose_7 : decode yB_drawGoose.2.1 7 = .ok (.istore_n 1, 1) := by decide +kernel
theorem dB_drawGoose_8 : decode yB_drawGoose.2.1 8 = .ok (.aload_n 0, 1) := by decide +kernel
theorem dB_drawGoose_9 : decode yB_drawGoose.2.1 9 = .ok (.invokevirtual 95, 3) := by decide +kernel
theorem dB_drawGoose_12 : decode yB_drawGoose.2.1 12 = .ok (.bipush 100, 2) := by decide +kernel
theorem dB_drawGoose_14 : decode yB_drawGoose.2.1 14 = .ok (.irem, 1) := by decide +kernel
theorem dB_drawGoose_15 : decode yB_drawGoose.2.1 15 = .ok (.istore_n 2, 1) := by decide +kernel
theorem dB_drawGoose_16 : decode yB_drawGoose.2.1 16 = .ok (.aload_n 0, 1) := by decide +kernel
theorem dB_drawGoose_17 : decode yB_drawGoose.2.1 17 = .ok (.invokevirtual 95, 3) := by decide +kernel
theorem dB_drawGoose_20 : decode yB_drawGoose.2.1 20 = .ok (.bipush 40, 2) := by decide +kernel
theorem dB_drawGoose_22 : decode yB_drawGoose.2.1 22 = .ok (.irem, 1) := by decide +kernel
theorem dB_drawGoose_23 : decode yB_drawGoose.2.1 23 = .ok (.istore_n 3, 1) := by decide +kernel
theorem dB_drawGoose_24 : decode yB_drawGoose.2.1 24 = .ok (.aload_n 0, 1) := by decide +kernel
theorem dB_drawGoose_25 : decode yB_drawGoose.2.1 25 = .ok (.invokevirtual 95, 3) := by decide +kernel
theorem dB_drawGoose_28 : decode yB_drawGoose.2.1 28 = .ok (.bipush 6, 2) := by decide +kernel
theorem dB_drawGoose_30 : decode yB_drawGoose.2.1 30 = .ok (.irem, 1) := by decide +kernel
theorem dB_drawGoose_31 : decode yB_drawGoose.2.1 31 = .ok (.istore 4, 2) := by decide +kernel
theorem dB_drawGoose_33 : decode yB_drawGoose.2.1 33 = .ok (.aload_n 0, 1) := by decide +kernel
theorem dB_drawGoose_34 : decode yB_drawGoose.2.1 34 = .ok (.iload_n 1, 1) := by decide +kernel
theorem dB_drawGoose_35 : decode yB_drawGoose.2.1 35 = .ok (.iload_n 2, 1) := by decide +kernel
theorem dB_drawGoose_36 : decode yB_drawGoose.2.1 36 = .ok (.iload_n 3, 1) := by decide +kernel
theorem dB_drawGoose_37 : decode yB_drawGoose.2.1 37 = .ok (.iload 4, 2) := by decide +kernel
theorem dB_drawGoose_39 : decode yB_drawGoose.2.1 39 = .ok (.invokevirtual 99, 3) := by decide +kernel
theorem dB_drawGoose_42 : decode yB_drawGoose.2.1 42 = .ok (.pop, 1) := by decide +kernel
theorem dB_drawGoose_43 : decode yB_drawGoose.2.1 43 = .ok (.return_, 1) := by decide +kernel
theorem dB_draw_0 : decode yB_draw.2.1 0 = .ok (.aload_n 0, 1) := by decide +kernel
theorem dB_draw_1 : decode yB_draw.2.1 1 = .ok (.aload_n 0, 1) := by decide +kernel
theorem dB_draw_2 : decode yB_draw.2.1 2 = .ok (.getfield 58, 3) := by decide +kernel
theorem dB_draw_5 : decode yB_draw.2.1 5 = .ok (.ldc 94, 2) := by decide +kernel
theorem dB_draw_7 : decode yB_draw.2.1 7 = .ok (.imul, 1) := by decide +kernel
theorem dB_draw_8 : decode yB_draw.2.1 8 = .ok (.sipush 12345, 3) := by decide +kernel
theorem dB_draw_11 : decode yB_draw.2.1 11 = .ok (.iadd, 1) := by decide +kernel
theorem dB_draw_12 : decode yB_draw.2.1 12 = .ok (.putfield 58, 3) := by decide +kernel
theorem dB_draw_15 : decode yB_draw.2.1 15 = .ok (.aload_n 0, 1) := by decide +kernel
theorem dB_draw_16 : decode yB_draw.2.1 16 = .ok (.getfield 58, 3) := by decide +kernel
theorem dB_draw_19 : decode yB_draw.2.1 19 = .ok (.bipush 8, 2) := by decide +kernel
theorem dB_draw_21 : decode yB_draw.2.1 21 = .ok (.iushr, 1) := by decide +kernel
theorem dB_draw_22 : decode yB_draw.2.1 22 = .ok (.ireturn, 1) := by decide +kernel
theorem dB_fewestDriven_0 : decode yB_fewestDriven.2.1 0 = .ok (.aload_n 0, 1) := by decide +kernel
theorem dB_fewestDriven_1 : decode yB_fewestDriven.2.1 1 = .ok (.iload_n 1, 1) := by decide +kernel
theorem dB_fewestDriven_2 : decode yB_fewestDriven.2.1 2 = .ok (.invokevirtual 106, 3) := by decide +kernel
theorem dB_fewestDriven_5 : decode yB_fewestDriven.2.1 5 = .ok (.istore_n 2, 1) := by decide +kernel
theorem dB_fewestDriven_6 : decode yB_fewestDriven.2.1 6 = .ok (.aload_n 0, 1) := by decide +kernel
theorem dB_fewestDriven_7 : decode yB_fewestDriven.2.1 7 = .ok (.getfield 33, 3) := by decide +kernel
theorem dB_fewestDriven_10 : decode yB_fewestDriven.2.1 10 = .ok (.iload_n 2, 1) := by decide +kernel
theorem dB_fewestDriven_11 : decode yB_fewestDriven.2.1 11 = .ok (.invokestatic 110, 3) := by decide +kernel
theorem dB_fewestDriven_14 : decode yB_fewestDriven.2.1 14 = .ok (.isub, 1) := by decide +kernel
theorem dB_fewestDriven_15 : decode yB_fewestDriven.2.1 15 = .ok (.istore_n 3, 1) := by decide +kernel
theorem dB_fewestDriven_16 : decode yB_fewestDriven.2.1 16 = .ok (.iconst 0, 1) := by decide +kernel
theorem dB_fewestDriven_17 : decode yB_fewestDriven.2.1 17 = .ok (.istore 4, 2) := by decide +kernel
theorem dB_fewestDriven_19 : decode yB_fewestDriven.2.1 19 = .ok (.iload 4, 2) := by decide +kernel
theorem dB_fewestDriven_21 : decode yB_fewestDriven.2.1 21 = .ok (.iload_n 3, 1) := by decide +kernel
theorem dB_fewestDriven_22 : decode yB_fewestDriven.2.1 22 = .ok (.if_icmp .gt 85, 3) := by decide +kernel
theorem dB_fewestDriven_25 : decode yB_fewestDriven.2.1 25 = .ok (.aload_n 0, 1) := by decide +kernel
theorem dB_fewestDriven_26 : decode yB_fewestDriven.2.1 26 = .ok (.iload_n 1, 1) := by decide +kernel
theorem dB_fewestDriven_27 : decode yB_fewestDriven.2.1 27 = .ok (.aload_n 0, 1) := by decide +kernel
theorem dB_fewestDriven_28 : decode yB_fewestDriven.2.1 28 = .ok (.getfield 33, 3) := by decide +kernel
theorem dB_fewestDriven_31 : decode yB_fewestDriven.2.1 31 = .ok (.iload_n 3, 1) := by decide +kernel
theorem dB_fewestDriven_32 : decode yB_fewestDriven.2.1 32 = .ok (.isub, 1) := by decide +kernel
theorem dB_fewestDriven_33 : decode yB_fewestDriven.2.1 33 = .ok (.iload 4, 2) := by decide +kernel
theorem dB_fewestDriven_35 : decode yB_fewestDriven.2.1 35 = .ok (.iadd, 1) := by decide +kernel
theorem dB_fewestDriven_36 : decode yB_fewestDriven.2.1 36 = .ok (.invokevirtual 175, 3) := by decide +kernel
theorem dB_fewestDriven_39 : decode yB_fewestDriven.2.1 39 = .ok (.istore 5, 2) := by decide +kernel
theorem dB_fewestDriven_41 : decode yB_fewestDriven.2.1 41 = .ok (.iconst 0, 1) := by decide +kernel
theorem dB_fewestDriven_42 : decode yB_fewestDriven.2.1 42 = .ok (.istore 6, 2) := by decide +kernel
theorem dB_fewestDriven_44 : decode yB_fewestDriven.2.1 44 = .ok (.iload 6, 2) := by decide +kernel
theorem dB_fewestDriven_46 : decode yB_fewestDriven.2.1 46 = .ok (.iconst 1, 1) := by decide +kernel
theorem dB_fewestDriven_47 : decode yB_fewestDriven.2.1 47 = .ok (.aload_n 0, 1) := by decide +kernel
theorem dB_fewestDriven_48 : decode yB_fewestDriven.2.1 48 = .ok (.getfield 33, 3) := by decide +kernel
theorem dB_fewestDriven_51 : decode yB_fewestDriven.2.1 51 = .ok (.ishl, 1) := by decide +kernel
theorem dB_fewestDriven_52 : decode yB_fewestDriven.2.1 52 = .ok (.if_icmp .ge 49, 3) := by decide +kernel
theorem dB_fewestDriven_55 : decode yB_fewestDriven.2.1 55 = .ok (.iload 6, 2) := by decide +kernel
theorem dB_fewestDriven_57 : decode yB_fewestDriven.2.1 57 = .ok (.iload_n 2, 1) := by decide +kernel
theorem dB_fewestDriven_58 : decode yB_fewestDriven.2.1 58 = .ok (.iand, 1) := by decide +kernel
theorem dB_fewestDriven_59 : decode yB_fewestDriven.2.1 59 = .ok (.ifCond .ne 36, 3) := by decide +kernel
theorem dB_fewestDriven_62 : decode yB_fewestDriven.2.1 62 = .ok (.iload 6, 2) := by decide +kernel
theorem dB_fewestDriven_64 : decode yB_fewestDriven.2.1 64 = .ok (.invokestatic 110, 3) := by decide +kernel
theorem dB_fewestDriven_67 : decode yB_fewestDriven.2.1 67 = .ok (.iload 4, 2) := by decide +kernel
theorem dB_fewestDriven_69 : decode yB_fewestDriven.2.1 69 = .ok (.if_icmp .ne 26, 3) := by decide +kernel
theorem dB_fewestDriven_72 : decode yB_fewestDriven.2.1 72 = .ok (.aload_n 0, 1) := by decide +kernel
theorem dB_fewestDriven_73 : decode yB_fewestDriven.2.1 73 = .ok (.iload 6, 2) := by decide +kernel
theorem dB_fewestDriven_75 : decode yB_fewestDriven.2.1 75 = .ok (.iload_n 2, 1) := by decide +kernel
theorem dB_fewestDriven_76 : decode yB_fewestDriven.2.1 76 = .ok (.ior, 1) := by decide +kernel
theorem dB_fewestDriven_77 : decode yB_fewestDriven.2.1 77 = .ok (.iload 5, 2) := by decide +kernel
theorem dB_fewestDriven_79 : decode yB_fewestDriven.2.1 79 = .ok (.iand, 1) := by decide +kernel
theorem dB_fewestDriven_80 : decode yB_fewestDriven.2.1 80 = .ok (.invokevirtual 147, 3) := by decide +kernel
theorem dB_fewestDriven_83 : decode yB_fewestDriven.2.1 83 = .ok (.aload_n 0, 1) := by decide +kernel
theorem dB_fewestDriven_84 : decode yB_fewestDriven.2.1 84 = .ok (.getfield 17, 3) := by decide +kernel
theorem dB_fewestDriven_87 : decode yB_fewestDriven.2.1 87 = .ok (.iload_n 1, 1) := by decide +kernel
theorem dB_fewestDriven_88 : decode yB_fewestDriven.2.1 88 = .ok (.iaload, 1) := by decide +kernel
theorem dB_fewestDriven_89 : decode yB_fewestDriven.2.1 89 = .ok (.if_icmp .lt 6, 3) := by decide +kernel
theorem dB_fewestDriven_92 : decode yB_fewestDriven.2.1 92 = .ok (.iload 6, 2) := by decide +kernel
theorem dB_fewestDriven_94 : decode yB_fewestDriven.2.1 94 = .ok (.ireturn, 1) := by decide +kernel
theorem dB_fewestDriven_95 : decode yB_fewestDriven.2.1 95 = .ok (.iinc 6 1, 3) := by decide +kernel
theorem dB_fewestDriven_98 : decode yB_fewestDriven.2.1 98 = .ok (.goto (-54), 3) := by decide +kernel
theorem dB_fewestDriven_101 : decode yB_fewestDriven.2.1 101 = .ok (.iinc 4 1, 3) := by decide +kernel
theorem dB_fewestDriven_104 : decode yB_fewestDriven.2.1 104 = .ok (.goto (-85), 3) := by decide +kernel
theorem dB_fewestDriven_107 : decode yB_fewestDriven.2.1 107 = .ok (.ldc 68, 2) := by decide +kernel
theorem dB_fewestDriven_109 : decode yB_fewestDriven.2.1 109 = .ok (.ireturn, 1) := by decide +kernel
theorem dB_seeingIn_0 : decode yB_seeingIn.2.1 0 = .ok (.iconst 0, 1) := by decide +kernel
theorem dB_seeingIn_1 : decode yB_seeingIn.2.1 1 = .ok (.istore_n 3, 1) := by decide +kernel
theorem dB_seeingIn_2 : decode yB_seeingIn.2.1 2 = .ok (.iconst 0, 1) := by decide +kernel
theorem dB_seeingIn_3 : decode yB_seeingIn.2.1 3 = .ok (.istore 4, 2) := by decide +kernel
theorem dB_seeingIn_5 : decode yB_seeingIn.2.1 5 = .ok (.iload 4, 2) := by decide +kernel
theorem dB_seeingIn_7 : decode yB_seeingIn.2.1 7 = .ok (.aload_n 0, 1) := by decide +kernel
theorem dB_seeingIn_8 : decode yB_seeingIn.2.1 8 = .ok (.getfield 33, 3) := by decide +kernel
theorem dB_seeingIn_11 : decode yB_seeingIn.2.1 11 = .ok (.if_icmp .ge 36, 3) := by decide +kernel
theorem dB_seeingIn_14 : decode yB_seeingIn.2.1 14 = .ok (.aload_n 0, 1) := by decide +kernel
theorem dB_seeingIn_15 : decode yB_seeingIn.2.1 15 = .ok (.aload_n 0, 1) := by decide +kernel
theorem dB_seeingIn_16 : decode yB_seeingIn.2.1 16 = .ok (.getfield 11, 3) := by decide +kernel
theorem dB_seeingIn_19 : decode yB_seeingIn.2.1 19 = .ok (.iload 4, 2) := by decide +kernel
theorem dB_seeingIn_21 : decode yB_seeingIn.2.1 21 = .ok (.aaload, 1) := by decide +kernel
theorem dB_seeingIn_22 : decode yB_seeingIn.2.1 22 = .ok (.iload_n 1, 1) := by decide +kernel
theorem dB_seeingIn_23 : decode yB_seeingIn.2.1 23 = .ok (.iload_n 2, 1) := by decide +kernel
theorem dB_seeingIn_24 : decode yB_seeingIn.2.1 24 = .ok (.invokevirtual 137, 3) := by decide +kernel
theorem dB_seeingIn_27 : decode yB_seeingIn.2.1 27 = .ok (.aload_n 0, 1) := by decide +kernel
theorem dB_seeingIn_28 : decode yB_seeingIn.2.1 28 = .ok (.getfield 40, 3) := by decide +kernel
theorem dB_seeingIn_31 : decode yB_seeingIn.2.1 31 = .ok (.if_icmp .lt 10, 3) := by decide +kernel
theorem dB_seeingIn_34 : decode yB_seeingIn.2.1 34 = .ok (.iload_n 3, 1) := by decide +kernel
theorem dB_seeingIn_35 : decode yB_seeingIn.2.1 35 = .ok (.iconst 1, 1) := by decide +kernel
theorem dB_seeingIn_36 : decode yB_seeingIn.2.1 36 = .ok (.iload 4, 2) := by decide +kernel
theorem dB_seeingIn_38 : decode yB_seeingIn.2.1 38 = .ok (.ishl, 1) := by decide +kernel
theorem dB_seeingIn_39 : decode yB_seeingIn.2.1 39 = .ok (.ior, 1) := by decide +kernel
theorem dB_seeingIn_40 : decode yB_seeingIn.2.1 40 = .ok (.istore_n 3, 1) := by decide +kernel
theorem dB_seeingIn_41 : decode yB_seeingIn.2.1 41 = .ok (.iinc 4 1, 3) := by decide +kernel
theorem dB_seeingIn_44 : decode yB_seeingIn.2.1 44 = .ok (.goto (-39), 3) := by decide +kernel
theorem dB_seeingIn_47 : decode yB_seeingIn.2.1 47 = .ok (.iload_n 3, 1) := by decide +kernel
theorem dB_seeingIn_48 : decode yB_seeingIn.2.1 48 = .ok (.ireturn, 1) := by decide +kernel
theorem dB_bargain_0 : decode yB_bargain.2.1 0 = .ok (.aload_n 0, 1) := by decide +kernel
theorem dB_bargain_1 : decode yB_bargain.2.1 1 = .ok (.iload_n 1, 1) := by decide +kernel
theorem dB_bargain_2 : decode yB_bargain.2.1 2 = .ok (.invokevirtual 144, 3) := by decide +kernel
theorem dB_bargain_5 : decode yB_bargain.2.1 5 = .ok (.istore_n 2, 1) := by decide +kernel
theorem dB_bargain_6 : decode yB_bargain.2.1 6 = .ok (.aload_n 0, 1) := by decide +kernel
theorem dB_bargain_7 : decode yB_bargain.2.1 7 = .ok (.iload_n 2, 1) := by decide +kernel
theorem dB_bargain_8 : decode yB_bargain.2.1 8 = .ok (.invokevirtual 147, 3) := by decide +kernel
theorem dB_bargain_11 : decode yB_bargain.2.1 11 = .ok (.aload_n 0, 1) := by decide +kernel
theorem dB_bargain_12 : decode yB_bargain.2.1 12 = .ok (.getfield 17, 3) := by decide +kernel
theorem dB_bargain_15 : decode yB_bargain.2.1 15 = .ok (.iload_n 1, 1) := by decide +kernel
theorem dB_bargain_16 : decode yB_bargain.2.1 16 = .ok (.iaload, 1) := by decide +kernel
theorem dB_bargain_17 : decode yB_bargain.2.1 17 = .ok (.if_icmp .ge 20, 3) := by decide +kernel
theorem dB_bargain_20 : decode yB_bargain.2.1 20 = .ok (.aload_n 0, 1) := by decide +kernel
theorem dB_bargain_21 : decode yB_bargain.2.1 21 = .ok (.ldc 153, 2) := by decide +kernel
theorem dB_bargain_23 : decode yB_bargain.2.1 23 = .ok (.aload_n 0, 1) := by decide +kernel
theorem dB_bargain_24 : decode yB_bargain.2.1 24 = .ok (.getfield 49, 3) := by decide +kernel
theorem dB_bargain_27 : decode yB_bargain.2.1 27 = .ok (.iconst 1, 1) := by decide +kernel
theorem dB_bargain_28 : decode yB_bargain.2.1 28 = .ok (.iadd, 1) := by decide +kernel
theorem dB_bargain_29 : decode yB_bargain.2.1 29 = .ok (.invokestatic 154, 3) := by decide +kernel
theorem dB_bargain_32 : decode yB_bargain.2.1 32 = .ok (.putfield 49, 3) := by decide +kernel
theorem dB_bargain_35 : decode yB_bargain.2.1 35 = .ok (.iconst 0, 1) := by decide +kernel
theorem dB_bargain_36 : decode yB_bargain.2.1 36 = .ok (.ireturn, 1) := by decide +kernel
theorem dB_bargain_37 : decode yB_bargain.2.1 37 = .ok (.aload_n 0, 1) := by decide +kernel
theorem dB_bargain_38 : decode yB_bargain.2.1 38 = .ok (.ldc 153, 2) := by decide +kernel
theorem dB_bargain_40 : decode yB_bargain.2.1 40 = .ok (.aload_n 0, 1) := by decide +kernel
theorem dB_bargain_41 : decode yB_bargain.2.1 41 = .ok (.getfield 46, 3) := by decide +kernel
theorem dB_bargain_44 : decode yB_bargain.2.1 44 = .ok (.iconst 1, 1) := by decide +kernel
theorem dB_bargain_45 : decode yB_bargain.2.1 45 = .ok (.iadd, 1) := by decide +kernel
theorem dB_bargain_46 : decode yB_bargain.2.1 46 = .ok (.invokestatic 154, 3) := by decide +kernel
theorem dB_bargain_49 : decode yB_bargain.2.1 49 = .ok (.putfield 46, 3) := by decide +kernel
theorem dB_bargain_52 : decode yB_bargain.2.1 52 = .ok (.iconst 0, 1) := by decide +kernel
theorem dB_bargain_53 : decode yB_bargain.2.1 53 = .ok (.istore_n 3, 1) := by decide +kernel
theorem dB_bargain_54 : decode yB_bargain.2.1 54 = .ok (.iload_n 3, 1) := by decide +kernel
theorem dB_bargain_55 : decode yB_bargain.2.1 55 = .ok (.aload_n 0, 1) := by decide +kernel
theorem dB_bargain_56 : decode yB_bargain.2.1 56 = .ok (.getfield 33, 3) := by decide +kernel
theorem dB_bargain_59 : decode yB_bargain.2.1 59 = .ok (.if_icmp .ge 44, 3) := by decide +kernel
theorem dB_bargain_62 : decode yB_bargain.2.1 62 = .ok (.iload_n 2, 1) := by decide +kernel
theorem dB_bargain_63 : decode yB_bargain.2.1 63 = .ok (.iload_n 3, 1) := by decide +kernel
theorem dB_bargain_64 : decode yB_bargain.2.1 64 = .ok (.ishr, 1) := by decide +kernel
theorem dB_bargain_65 : decode yB_bargain.2.1 65 = .ok (.iconst 1, 1) := by decide +kernel
theorem dB_bargain_66 : decode yB_bargain.2.1 66 = .ok (.iand, 1) := by decide +kernel
theorem dB_bargain_67 : decode yB_bargain.2.1 67 = .ok (.iconst 1, 1) := by decide +kernel
theorem dB_bargain_68 : decode yB_bargain.2.1 68 = .ok (.if_icmp .ne 29, 3) := by decide +kernel
theorem dB_bargain_71 : decode yB_bargain.2.1 71 = .ok (.aload_n 0, 1) := by decide +kernel
theorem dB_bargain_72 : decode yB_bargain.2.1 72 = .ok (.getfield 11, 3) := by decide +kernel
theorem dB_bargain_75 : decode yB_bargain.2.1 75 = .ok (.iload_n 3, 1) := by decide +kernel
theorem dB_bargain_76 : decode yB_bargain.2.1 76 = .ok (.aaload, 1) := by decide +kernel
theorem dB_bargain_77 : decode yB_bargain.2.1 77 = .ok (.sipush 9999, 3) := by decide +kernel
theorem dB_bargain_80 : decode yB_bargain.2.1 80 = .ok (.aload_n 0, 1) := by decide +kernel
theorem dB_bargain_81 : decode yB_bargain.2.1 81 = .ok (.getfield 11, 3) := by decide +kernel
theorem dB_bargain_84 : decode yB_bargain.2.1 84 = .ok (.iload_n 3, 1) := by decide +kernel
theorem dB_bargain_85 : decode yB_bargain.2.1 85 = .ok (.aaload, 1) := by decide +kernel
theorem dB_bargain_86 : decode yB_bargain.2.1 86 = .ok (.getfield 91, 3) := by decide +kernel
theorem dB_bargain_89 : decode yB_bargain.2.1 89 = .ok (.iconst 1, 1) := by decide +kernel
theorem dB_bargain_90 : decode yB_bargain.2.1 90 = .ok (.iadd, 1) := by decide +kernel
theorem dB_bargain_91 : decode yB_bargain.2.1 91 = .ok (.invokestatic 154, 3) := by decide +kernel
theorem dB_bargain_94 : decode yB_bargain.2.1 94 = .ok (.putfield 91, 3) := by decide +kernel
theorem dB_bargain_97 : decode yB_bargain.2.1 97 = .ok (.iinc 3 1, 3) := by decide +kernel
theorem dB_bargain_100 : decode yB_bargain.2.1 100 = .ok (.goto (-46), 3) := by decide +kernel
theorem dB_bargain_103 : decode yB_bargain.2.1 103 = .ok (.iconst 1, 1) := by decide +kernel
theorem dB_bargain_104 : decode yB_bargain.2.1 104 = .ok (.ireturn, 1) := by decide +kernel
theorem dB_pass_0 : decode yB_pass.2.1 0 = .ok (.iconst 0, 1) := by decide +kernel
theorem dB_pass_1 : decode yB_pass.2.1 1 = .ok (.istore_n 2, 1) := by decide +kernel
theorem dB_pass_2 : decode yB_pass.2.1 2 = .ok (.iload_n 2, 1) := by decide +kernel
theorem dB_pass_3 : decode yB_pass.2.1 3 = .ok (.iload_n 1, 1) := by decide +kernel
theorem dB_pass_4 : decode yB_pass.2.1 4 = .ok (.if_icmp .ge 43, 3) := by decide +kernel
theorem dB_pass_7 : decode yB_pass.2.1 7 = .ok (.aload_n 0, 1) := by decide +kernel
theorem dB_pass_8 : decode yB_pass.2.1 8 = .ok (.aload_n 0, 1) := by decide +kernel
theorem dB_pass_9 : decode yB_pass.2.1 9 = .ok (.getfield 55, 3) := by decide +kernel
theorem dB_pass_12 : decode yB_pass.2.1 12 = .ok (.bipush 6, 2) := by decide +kernel
theorem dB_pass_14 : decode yB_pass.2.1 14 = .ok (.irem, 1) := by decide +kernel
theorem dB_pass_15 : decode yB_pass.2.1 15 = .ok (.invokevirtual 160, 3) := by decide +kernel
theorem dB_pass_18 : decode yB_pass.2.1 18 = .ok (.pop, 1) := by decide +kernel
theorem dB_pass_19 : decode yB_pass.2.1 19 = .ok (.aload_n 0, 1) := by decide +kernel
theorem dB_pass_20 : decode yB_pass.2.1 20 = .ok (.invokevirtual 163, 3) := by decide +kernel
theorem dB_pass_23 : decode yB_pass.2.1 23 = .ok (.aload_n 0, 1) := by decide +kernel
theorem dB_pass_24 : decode yB_pass.2.1 24 = .ok (.invokevirtual 166, 3) := by decide +kernel
theorem dB_pass_27 : decode yB_pass.2.1 27 = .ok (.aload_n 0, 1) := by decide +kernel
theorem dB_pass_28 : decode yB_pass.2.1 28 = .ok (.invokevirtual 169, 3) := by decide +kernel
theorem dB_pass_31 : decode yB_pass.2.1 31 = .ok (.aload_n 0, 1) := by decide +kernel
theorem dB_pass_32 : decode yB_pass.2.1 32 = .ok (.dup, 1) := by decide +kernel
theorem dB_pass_33 : decode yB_pass.2.1 33 = .ok (.getfield 55, 3) := by decide +kernel
theorem dB_pass_36 : decode yB_pass.2.1 36 = .ok (.iconst 1, 1) := by decide +kernel
theorem dB_pass_37 : decode yB_pass.2.1 37 = .ok (.iadd, 1) := by decide +kernel
theorem dB_pass_38 : decode yB_pass.2.1 38 = .ok (.putfield 55, 3) := by decide +kernel
theorem dB_pass_41 : decode yB_pass.2.1 41 = .ok (.iinc 2 1, 3) := by decide +kernel
theorem dB_pass_44 : decode yB_pass.2.1 44 = .ok (.goto (-42), 3) := by decide +kernel
theorem dB_pass_47 : decode yB_pass.2.1 47 = .ok (.return_, 1) := by decide +kernel
theorem dB_wander_0 : decode yB_wander.2.1 0 = .ok (.iconst 0, 1) := by decide +kernel
theorem dB_wander_1 : decode yB_wander.2.1 1 = .ok (.istore_n 1, 1) := by decide +kernel
theorem dB_wander_2 : decode yB_wander.2.1 2 = .ok (.iload_n 1, 1) := by decide +kernel
theorem dB_wander_3 : decode yB_wander.2.1 3 = .ok (.aload_n 0, 1) := by decide +kernel
theorem dB_wander_4 : decode yB_wander.2.1 4 = .ok (.getfield 33, 3) := by decide +kernel
theorem dB_wander_7 : decode yB_wander.2.1 7 = .ok (.if_icmp .ge 40, 3) := by decide +kernel
theorem dB_wander_10 : decode yB_wander.2.1 10 = .ok (.aload_n 0, 1) := by decide +kernel
theorem dB_wander_11 : decode yB_wander.2.1 11 = .ok (.getfield 11, 3) := by decide +kernel
theorem dB_wander_14 : decode yB_wander.2.1 14 = .ok (.iload_n 1, 1) := by decide +kernel
theorem dB_wander_15 : decode yB_wander.2.1 15 = .ok (.aaload, 1) := by decide +kernel
theorem dB_wander_16 : decode yB_wander.2.1 16 = .ok (.aload_n 0, 1) := by decide +kernel
theorem dB_wander_17 : decode yB_wander.2.1 17 = .ok (.getfield 11, 3) := by decide +kernel
theorem dB_wander_20 : decode yB_wander.2.1 20 = .ok (.iload_n 1, 1) := by decide +kernel
theorem dB_wander_21 : decode yB_wander.2.1 21 = .ok (.aaload, 1) := by decide +kernel
theorem dB_wander_22 : decode yB_wander.2.1 22 = .ok (.getfield 88, 3) := by decide +kernel
theorem dB_wander_25 : decode yB_wander.2.1 25 = .ok (.aload_n 0, 1) := by decide +kernel
theorem dB_wander_26 : decode yB_wander.2.1 26 = .ok (.getfield 11, 3) := by decide +kernel
theorem dB_wander_29 : decode yB_wander.2.1 29 = .ok (.iload_n 1, 1) := by decide +kernel
theorem dB_wander_30 : decode yB_wander.2.1 30 = .ok (.aaload, 1) := by decide +kernel
theorem dB_wander_31 : decode yB_wander.2.1 31 = .ok (.invokevirtual 172, 3) := by decide +kernel
theorem dB_wander_34 : decode yB_wander.2.1 34 = .ok (.iadd, 1) := by decide +kernel
theorem dB_wander_35 : decode yB_wander.2.1 35 = .ok (.bipush 6, 2) := by decide +kernel
theorem dB_wander_37 : decode yB_wander.2.1 37 = .ok (.irem, 1) := by decide +kernel
theorem dB_wander_38 : decode yB_wander.2.1 38 = .ok (.putfield 88, 3) := by decide +kernel
theorem dB_wander_41 : decode yB_wander.2.1 41 = .ok (.iinc 1 1, 3) := by decide +kernel
theorem dB_wander_44 : decode yB_wander.2.1 44 = .ok (.goto (-42), 3) := by decide +kernel
theorem dB_wander_47 : decode yB_wander.2.1 47 = .ok (.return_, 1) := by decide +kernel
theorem dB_growOlder_0 : decode yB_growOlder.2.1 0 = .ok (.aload_n 0, 1) := by decide +kernel
theorem dB_growOlder_1 : decode yB_growOlder.2.1 1 = .ok (.getfield 55, 3) := by decide +kernel
theorem dB_growOlder_4 : decode yB_growOlder.2.1 4 = .ok (.iconst 5, 1) := by decide +kernel
theorem dB_growOlder_5 : decode yB_growOlder.2.1 5 = .ok (.irem, 1) := by decide +kernel
theorem dB_growOlder_6 : decode yB_growOlder.2.1 6 = .ok (.iconst 4, 1) := by decide +kernel
theorem dB_growOlder_7 : decode yB_growOlder.2.1 7 = .ok (.if_icmp .ne 44, 3) := by decide +kernel
theorem dB_growOlder_10 : decode yB_growOlder.2.1 10 = .ok (.iconst 0, 1) := by decide +kernel
theorem dB_growOlder_11 : decode yB_growOlder.2.1 11 = .ok (.istore_n 1, 1) := by decide +kernel
theorem dB_growOlder_12 : decode yB_growOlder.2.1 12 = .ok (.iload_n 1, 1) := by decide +kernel
theorem dB_growOlder_13 : decode yB_growOlder.2.1 13 = .ok (.aload_n 0, 1) := by decide +kernel
theorem dB_growOlder_14 : decode yB_growOlder.2.1 14 = .ok (.getfield 33, 3) := by decide +kernel
theorem dB_growOlder_17 : decode yB_growOlder.2.1 17 = .ok (.if_icmp .ge 34, 3) := by decide +kernel
theorem dB_growOlder_20 : decode yB_growOlder.2.1 20 = .ok (.aload_n 0, 1) := by decide +kernel
theorem dB_growOlder_21 : decode yB_growOlder.2.1 21 = .ok (.getfield 11, 3) := by decide +kernel
theorem dB_growOlder_24 : decode yB_growOlder.2.1 24 = .ok (.iload_n 1, 1) := by decide +kernel
theorem dB_growOlder_25 : decode yB_growOlder.2.1 25 = .ok (.aaload, 1) := by decide +kernel
theorem dB_growOlder_26 : decode yB_growOlder.2.1 26 = .ok (.bipush 99, 2) := by decide +kernel
theorem dB_growOlder_28 : decode yB_growOlder.2.1 28 = .ok (.aload_n 0, 1) := by decide +kernel
theorem dB_growOlder_29 : decode yB_growOlder.2.1 29 = .ok (.getfield 11, 3) := by decide +kernel
theorem dB_growOlder_32 : decode yB_growOlder.2.1 32 = .ok (.iload_n 1, 1) := by decide +kernel
theorem dB_growOlder_33 : decode yB_growOlder.2.1 33 = .ok (.aaload, 1) := by decide +kernel
theorem dB_growOlder_34 : decode yB_growOlder.2.1 34 = .ok (.getfield 85, 3) := by decide +kernel
theorem dB_growOlder_37 : decode yB_growOlder.2.1 37 = .ok (.iconst 1, 1) := by decide +kernel
theorem dB_growOlder_38 : decode yB_growOlder.2.1 38 = .ok (.iadd, 1) := by decide +kernel
theorem dB_growOlder_39 : decode yB_growOlder.2.1 39 = .ok (.invokestatic 154, 3) := by decide +kernel
theorem dB_growOlder_42 : decode yB_growOlder.2.1 42 = .ok (.putfield 85, 3) := by decide +kernel
theorem dB_growOlder_45 : decode yB_growOlder.2.1 45 = .ok (.iinc 1 1, 3) := by decide +kernel
theorem dB_growOlder_48 : decode yB_growOlder.2.1 48 = .ok (.goto (-36), 3) := by decide +kernel
theorem dB_growOlder_51 : decode yB_growOlder.2.1 51 = .ok (.return_, 1) := by decide +kernel
theorem dB_meetFox_0 : decode yB_meetFox.2.1 0 = .ok (.aload_n 0, 1) := by decide +kernel
theorem dB_meetFox_1 : decode yB_meetFox.2.1 1 = .ok (.invokevirtual 95, 3) := by decide +kernel
theorem dB_meetFox_4 : decode yB_meetFox.2.1 4 = .ok (.bipush 100, 2) := by decide +kernel
theorem dB_meetFox_6 : decode yB_meetFox.2.1 6 = .ok (.irem, 1) := by decide +kernel
theorem dB_meetFox_7 : decode yB_meetFox.2.1 7 = .ok (.aload_n 0, 1) := by decide +kernel
theorem dB_meetFox_8 : decode yB_meetFox.2.1 8 = .ok (.getfield 43, 3) := by decide +kernel
theorem dB_meetFox_11 : decode yB_meetFox.2.1 11 = .ok (.if_icmp .ge 50, 3) := by decide +kernel
theorem dB_meetFox_14 : decode yB_meetFox.2.1 14 = .ok (.aload_n 0, 1) := by decide +kernel
theorem dB_meetFox_15 : decode yB_meetFox.2.1 15 = .ok (.getfield 33, 3) := by decide +kernel
theorem dB_meetFox_18 : decode yB_meetFox.2.1 18 = .ok (.ifCond .le 43, 3) := by decide +kernel
theorem dB_meetFox_21 : decode yB_meetFox.2.1 21 = .ok (.aload_n 0, 1) := by decide +kernel
theorem dB_meetFox_22 : decode yB_meetFox.2.1 22 = .ok (.getfield 11, 3) := by decide +kernel
theorem dB_meetFox_25 : decode yB_meetFox.2.1 25 = .ok (.aload_n 0, 1) := by decide +kernel
theorem dB_meetFox_26 : decode yB_meetFox.2.1 26 = .ok (.invokevirtual 95, 3) := by decide +kernel
theorem dB_meetFox_29 : decode yB_meetFox.2.1 29 = .ok (.aload_n 0, 1) := by decide +kernel
theorem dB_meetFox_30 : decode yB_meetFox.2.1 30 = .ok (.getfield 33, 3) := by decide +kernel
theorem dB_meetFox_33 : decode yB_meetFox.2.1 33 = .ok (.irem, 1) := by decide +kernel
theorem dB_meetFox_34 : decode yB_meetFox.2.1 34 = .ok (.aaload, 1) := by decide +kernel
theorem dB_meetFox_35 : decode yB_meetFox.2.1 35 = .ok (.astore_n 1, 1) := by decide +kernel
theorem dB_meetFox_36 : decode yB_meetFox.2.1 36 = .ok (.aload_n 1, 1) := by decide +kernel
theorem dB_meetFox_37 : decode yB_meetFox.2.1 37 = .ok (.iconst 0, 1) := by decide +kernel
theorem dB_meetFox_38 : decode yB_meetFox.2.1 38 = .ok (.putfield 85, 3) := by decide +kernel
theorem dB_meetFox_41 : decode yB_meetFox.2.1 41 = .ok (.aload_n 1, 1) := by decide +kernel
theorem dB_meetFox_42 : decode yB_meetFox.2.1 42 = .ok (.iconst 0, 1) := by decide +kernel
theorem dB_meetFox_43 : decode yB_meetFox.2.1 43 = .ok (.putfield 91, 3) := by decide +kernel
theorem dB_meetFox_46 : decode yB_meetFox.2.1 46 = .ok (.aload_n 0, 1) := by decide +kernel
theorem dB_meetFox_47 : decode yB_meetFox.2.1 47 = .ok (.ldc 153, 2) := by decide +kernel
theorem dB_meetFox_49 : decode yB_meetFox.2.1 49 = .ok (.aload_n 0, 1) := by decide +kernel
theorem dB_meetFox_50 : decode yB_meetFox.2.1 50 = .ok (.getfield 52, 3) := by decide +kernel
theorem dB_meetFox_53 : decode yB_meetFox.2.1 53 = .ok (.iconst 1, 1) := by decide +kernel
theorem dB_meetFox_54 : decode yB_meetFox.2.1 54 = .ok (.iadd, 1) := by decide +kernel
theorem dB_meetFox_55 : decode yB_meetFox.2.1 55 = .ok (.invokestatic 154, 3) := by decide +kernel
theorem dB_meetFox_58 : decode yB_meetFox.2.1 58 = .ok (.putfield 52, 3) := by decide +kernel
theorem dB_meetFox_61 : decode yB_meetFox.2.1 61 = .ok (.return_, 1) := by decide +kernel
theorem dB_sawTogether_0 : decode yB_sawTogether.2.1 0 = .ok (.iconst 0, 1) := by decide +kernel
theorem dB_sawTogether_1 : decode yB_sawTogether.2.1 1 = .ok (.istore_n 1, 1) := by decide +kernel
theorem dB_sawTogether_2 : decode yB_sawTogether.2.1 2 = .ok (.iconst 0, 1) := by decide +kernel
theorem dB_sawTogether_3 : decode yB_sawTogether.2.1 3 = .ok (.istore_n 2, 1) := by decide +kernel
theorem dB_sawTogether_4 : decode yB_sawTogether.2.1 4 = .ok (.iload_n 2, 1) := by decide +kernel
theorem dB_sawTogether_5 : decode yB_sawTogether.2.1 5 = .ok (.aload_n 0, 1) := by decide +kernel
theorem dB_sawTogether_6 : decode yB_sawTogether.2.1 6 = .ok (.getfield 33, 3) := by decide +kernel
theorem dB_sawTogether_9 : decode yB_sawTogether.2.1 9 = .ok (.if_icmp .ge 21, 3) := by decide +kernel
theorem dB_sawTogether_12 : decode yB_sawTogether.2.1 12 = .ok (.iload_n 1, 1) := by decide +kernel
theorem dB_sawTogether_13 : decode yB_sawTogether.2.1 13 = .ok (.aload_n 0, 1) := by decide +kernel
theorem dB_sawTogether_14 : decode yB_sawTogether.2.1 14 = .ok (.getfield 11, 3) := by decide +kernel
theorem dB_sawTogether_17 : decode yB_sawTogether.2.1 17 = .ok (.iload_n 2, 1) := by decide +kernel
theorem dB_sawTogether_18 : decode yB_sawTogether.2.1 18 = .ok (.aaload, 1) := by decide +kernel
theorem dB_sawTogether_19 : decode yB_sawTogether.2.1 19 = .ok (.getfield 91, 3) := by decide +kernel
theorem dB_sawTogether_22 : decode yB_sawTogether.2.1 22 = .ok (.iadd, 1) := by decide +kernel
theorem dB_sawTogether_23 : decode yB_sawTogether.2.1 23 = .ok (.istore_n 1, 1) := by decide +kernel
theorem dB_sawTogether_24 : decode yB_sawTogether.2.1 24 = .ok (.iinc 2 1, 3) := by decide +kernel
theorem dB_sawTogether_27 : decode yB_sawTogether.2.1 27 = .ok (.goto (-23), 3) := by decide +kernel
theorem dB_sawTogether_30 : decode yB_sawTogether.2.1 30 = .ok (.iload_n 1, 1) := by decide +kernel
theorem dB_sawTogether_31 : decode yB_sawTogether.2.1 31 = .ok (.ireturn, 1) := by decide +kernel
theorem dB_eldest_0 : decode yB_eldest.2.1 0 = .ok (.ldc 68, 2) := by decide +kernel
theorem dB_eldest_2 : decode yB_eldest.2.1 2 = .ok (.istore_n 1, 1) := by decide +kernel
theorem dB_eldest_3 : decode yB_eldest.2.1 3 = .ok (.iconst (-1), 1) := by decide +kernel
theorem dB_eldest_4 : decode yB_eldest.2.1 4 = .ok (.istore_n 2, 1) := by decide +kernel
theorem dB_eldest_5 : decode yB_eldest.2.1 5 = .ok (.iconst 0, 1) := by decide +kernel
theorem dB_eldest_6 : decode yB_eldest.2.1 6 = .ok (.istore_n 3, 1) := by decide +kernel
theorem dB_eldest_7 : decode yB_eldest.2.1 7 = .ok (.iload_n 3, 1) := by decide +kernel
theorem dB_eldest_8 : decode yB_eldest.2.1 8 = .ok (.aload_n 0, 1) := by decide +kernel
theorem dB_eldest_9 : decode yB_eldest.2.1 9 = .ok (.getfield 33, 3) := by decide +kernel
theorem dB_eldest_12 : decode yB_eldest.2.1 12 = .ok (.if_icmp .ge 34, 3) := by decide +kernel
theorem dB_eldest_15 : decode yB_eldest.2.1 15 = .ok (.aload_n 0, 1) := by decide +kernel
theorem dB_eldest_16 : decode yB_eldest.2.1 16 = .ok (.getfield 11, 3) := by decide +kernel
theorem dB_eldest_19 : decode yB_eldest.2.1 19 = .ok (.iload_n 3, 1) := by decide +kernel
theorem dB_eldest_20 : decode yB_eldest.2.1 20 = .ok (.aaload, 1) := by decide +kernel
theorem dB_eldest_21 : decode yB_eldest.2.1 21 = .ok (.getfield 85, 3) := by decide +kernel
theorem dB_eldest_24 : decode yB_eldest.2.1 24 = .ok (.iload_n 2, 1) := by decide +kernel
theorem dB_eldest_25 : decode yB_eldest.2.1 25 = .ok (.if_icmp .le 15, 3) := by decide +kernel
theorem dB_eldest_28 : decode yB_eldest.2.1 28 = .ok (.aload_n 0, 1) := by decide +kernel
theorem dB_eldest_29 : decode yB_eldest.2.1 29 = .ok (.getfield 11, 3) := by decide +kernel
theorem dB_eldest_32 : decode yB_eldest.2.1 32 = .ok (.iload_n 3, 1) := by decide +kernel
theorem dB_eldest_33 : decode yB_eldest.2.1 33 = .ok (.aaload, 1) := by decide +kernel
theorem dB_eldest_34 : decode yB_eldest.2.1 34 = .ok (.getfield 85, 3) := by decide +kernel
theorem dB_eldest_37 : decode yB_eldest.2.1 37 = .ok (.istore_n 2, 1) := by decide +kernel
theorem dB_eldest_38 : decode yB_eldest.2.1 38 = .ok (.iload_n 3, 1) := by decide +kernel
theorem dB_eldest_39 : decode yB_eldest.2.1 39 = .ok (.istore_n 1, 1) := by decide +kernel
theorem dB_eldest_40 : decode yB_eldest.2.1 40 = .ok (.iinc 3 1, 3) := by decide +kernel
theorem dB_eldest_43 : decode yB_eldest.2.1 43 = .ok (.goto (-36), 3) := by decide +kernel
theorem dB_eldest_46 : decode yB_eldest.2.1 46 = .ok (.iload_n 1, 1) := by decide +kernel
theorem dB_eldest_47 : decode yB_eldest.2.1 47 = .ok (.ireturn, 1) := by decide +kernel
theorem dB_yardsThatHold_0 : decode yB_yardsThatHold.2.1 0 = .ok (.iconst 0, 1) := by decide +kernel
theorem dB_yardsThatHold_1 : decode yB_yardsThatHold.2.1 1 = .ok (.istore_n 1, 1) := by decide +kernel
theorem dB_yardsThatHold_2 : decode yB_yardsThatHold.2.1 2 = .ok (.iconst 0, 1) := by decide +kernel
theorem dB_yardsThatHold_3 : decode yB_yardsThatHold.2.1 3 = .ok (.istore_n 2, 1) := by decide +kernel
theorem dB_yardsThatHold_4 : decode yB_yardsThatHold.2.1 4 = .ok (.iload_n 2, 1) := by decide +kernel
theorem dB_yardsThatHold_5 : decode yB_yardsThatHold.2.1 5 = .ok (.bipush 6, 2) := by decide +kernel
theorem dB_yardsThatHold_7 : decode yB_yardsThatHold.2.1 7 = .ok (.if_icmp .ge 23, 3) := by decide +kernel
theorem dB_yardsThatHold_10 : decode yB_yardsThatHold.2.1 10 = .ok (.aload_n 0, 1) := by decide +kernel
theorem dB_yardsThatHold_11 : decode yB_yardsThatHold.2.1 11 = .ok (.iload_n 2, 1) := by decide +kernel
theorem dB_yardsThatHold_12 : decode yB_yardsThatHold.2.1 12 = .ok (.invokevirtual 150, 3) := by decide +kernel
theorem dB_yardsThatHold_15 : decode yB_yardsThatHold.2.1 15 = .ok (.ifCond .eq 9, 3) := by decide +kernel
theorem dB_yardsThatHold_18 : decode yB_yardsThatHold.2.1 18 = .ok (.iload_n 1, 1) := by decide +kernel
theorem dB_yardsThatHold_19 : decode yB_yardsThatHold.2.1 19 = .ok (.iconst 1, 1) := by decide +kernel
theorem dB_yardsThatHold_20 : decode yB_yardsThatHold.2.1 20 = .ok (.iload_n 2, 1) := by decide +kernel
theorem dB_yardsThatHold_21 : decode yB_yardsThatHold.2.1 21 = .ok (.ishl, 1) := by decide +kernel
theorem dB_yardsThatHold_22 : decode yB_yardsThatHold.2.1 22 = .ok (.ior, 1) := by decide +kernel
theorem dB_yardsThatHold_23 : decode yB_yardsThatHold.2.1 23 = .ok (.istore_n 1, 1) := by decide +kernel
theorem dB_yardsThatHold_24 : decode yB_yardsThatHold.2.1 24 = .ok (.iinc 2 1, 3) := by decide +kernel
theorem dB_yardsThatHold_27 : decode yB_yardsThatHold.2.1 27 = .ok (.goto (-23), 3) := by decide +kernel
theorem dB_yardsThatHold_30 : decode yB_yardsThatHold.2.1 30 = .ok (.iload_n 1, 1) := by decide +kernel
theorem dB_yardsThatHold_31 : decode yB_yardsThatHold.2.1 31 = .ok (.ireturn, 1) := by decide +kernel
theorem dB_ageTogether_0 : decode yB_ageTogether.2.1 0 = .ok (.iconst 0, 1) := by decide +kernel
theorem dB_ageTogether_1 : decode yB_ageTogether.2.1 1 = .ok (.istore_n 1, 1) := by decide +kernel
theorem dB_ageTogether_2 : decode yB_ageTogether.2.1 2 = .ok (.iconst 0, 1) := by decide +kernel
theorem dB_ageTogether_3 : decode yB_ageTogether.2.1 3 = .ok (.istore_n 2, 1) := by decide +kernel
theorem dB_ageTogether_4 : decode yB_ageTogether.2.1 4 = .ok (.iload_n 2, 1) := by decide +kernel
theorem dB_ageTogether_5 : decode yB_ageTogether.2.1 5 = .ok (.aload_n 0, 1) := by decide +kernel
theorem dB_ageTogether_6 : decode yB_ageTogether.2.1 6 = .ok (.getfield 33, 3) := by decide +kernel
theorem dB_ageTogether_9 : decode yB_ageTogether.2.1 9 = .ok (.if_icmp .ge 21, 3) := by decide +kernel
theorem dB_ageTogether_12 : decode yB_ageTogether.2.1 12 = .ok (.iload_n 1, 1) := by decide +kernel
theorem dB_ageTogether_13 : decode yB_ageTogether.2.1 13 = .ok (.aload_n 0, 1) := by decide +kernel
theorem dB_ageTogether_14 : decode yB_ageTogether.2.1 14 = .ok (.getfield 11, 3) := by decide +kernel
theorem dB_ageTogether_17 : decode yB_ageTogether.2.1 17 = .ok (.iload_n 2, 1) := by decide +kernel
theorem dB_ageTogether_18 : decode yB_ageTogether.2.1 18 = .ok (.aaload, 1) := by decide +kernel
theorem dB_ageTogether_19 : decode yB_ageTogether.2.1 19 = .ok (.getfield 85, 3) := by decide +kernel
theorem dB_ageTogether_22 : decode yB_ageTogether.2.1 22 = .ok (.iadd, 1) := by decide +kernel
theorem dB_ageTogether_23 : decode yB_ageTogether.2.1 23 = .ok (.istore_n 1, 1) := by decide +kernel
theorem dB_ageTogether_24 : decode yB_ageTogether.2.1 24 = .ok (.iinc 2 1, 3) := by decide +kernel
theorem dB_ageTogether_27 : decode yB_ageTogether.2.1 27 = .ok (.goto (-23), 3) := by decide +kernel
theorem dB_ageTogether_30 : decode yB_ageTogether.2.1 30 = .ok (.iload_n 1, 1) := by decide +kernel
theorem dB_ageTogether_31 : decode yB_ageTogether.2.1 31 = .ok (.ireturn, 1) := by decide +kernel
theorem dB_become_0 : decode yB_become.2.1 0 = .ok (.iconst 0, 1) := by decide +kernel
theorem dB_become_1 : decode yB_become.2.1 1 = .ok (.istore_n 2, 1) := by decide +kernel
theorem dB_become_2 : decode yB_become.2.1 2 = .ok (.iload_n 2, 1) := by decide +kernel
theorem dB_become_3 : decode yB_become.2.1 3 = .ok (.aload_n 1, 1) := by decide +kernel
theorem dB_become_4 : decode yB_become.2.1 4 = .ok (.getfield 33, 3) := by decide +kernel
theorem dB_become_7 : decode yB_become.2.1 7 = .ok (.if_icmp .ge 24, 3) := by decide +kernel
theorem dB_become_10 : decode yB_become.2.1 10 = .ok (.aload_n 0, 1) := by decide +kernel
theorem dB_become_11 : decode yB_become.2.1 11 = .ok (.getfield 11, 3) := by decide +kernel
theorem dB_become_14 : decode yB_become.2.1 14 = .ok (.iload_n 2, 1) := by decide +kernel
theorem dB_become_15 : decode yB_become.2.1 15 = .ok (.aaload, 1) := by decide +kernel
theorem dB_become_16 : decode yB_become.2.1 16 = .ok (.aload_n 1, 1) := by decide +kernel
theorem dB_become_17 : decode yB_become.2.1 17 = .ok (.getfield 11, 3) := by decide +kernel
theorem dB_become_20 : decode yB_become.2.1 20 = .ok (.iload_n 2, 1) := by decide +kernel
theorem dB_become_21 : decode yB_become.2.1 21 = .ok (.aaload, 1) := by decide +kernel
theorem dB_become_22 : decode yB_become.2.1 22 = .ok (.invokevirtual 69, 3) := by decide +kernel
theorem dB_become_25 : decode yB_become.2.1 25 = .ok (.iinc 2 1, 3) := by decide +kernel
theorem dB_become_28 : decode yB_become.2.1 28 = .ok (.goto (-26), 3) := by decide +kernel
theorem dB_become_31 : decode yB_become.2.1 31 = .ok (.aload_n 1, 1) := by decide +kernel
theorem dB_become_32 : decode yB_become.2.1 32 = .ok (.getfield 17, 3) := by decide +kernel
theorem dB_become_35 : decode yB_become.2.1 35 = .ok (.iconst 0, 1) := by decide +kernel
theorem dB_become_36 : decode yB_become.2.1 36 = .ok (.aload_n 0, 1) := by decide +kernel
theorem dB_become_37 : decode yB_become.2.1 37 = .ok (.getfield 17, 3) := by decide +kernel
theorem dB_become_40 : decode yB_become.2.1 40 = .ok (.iconst 0, 1) := by decide +kernel
theorem dB_become_41 : decode yB_become.2.1 41 = .ok (.bipush 6, 2) := by decide +kernel
theorem dB_become_43 : decode yB_become.2.1 43 = .ok (.invokestatic 73, 3) := by decide +kernel
theorem dB_become_46 : decode yB_become.2.1 46 = .ok (.iconst 0, 1) := by decide +kernel
theorem dB_become_47 : decode yB_become.2.1 47 = .ok (.istore_n 2, 1) := by decide +kernel
theorem dB_become_48 : decode yB_become.2.1 48 = .ok (.iload_n 2, 1) := by decide +kernel
theorem dB_become_49 : decode yB_become.2.1 49 = .ok (.aload_n 1, 1) := by decide +kernel
theorem dB_become_50 : decode yB_become.2.1 50 = .ok (.getfield 37, 3) := by decide +kernel
theorem dB_become_53 : decode yB_become.2.1 53 = .ok (.if_icmp .ge 21, 3) := by decide +kernel
theorem dB_become_56 : decode yB_become.2.1 56 = .ok (.aload_n 0, 1) := by decide +kernel
theorem dB_become_57 : decode yB_become.2.1 57 = .ok (.getfield 23, 3) := by decide +kernel
theorem dB_become_60 : decode yB_become.2.1 60 = .ok (.iload_n 2, 1) := by decide +kernel
theorem dB_become_61 : decode yB_become.2.1 61 = .ok (.aload_n 1, 1) := by decide +kernel
theorem dB_become_62 : decode yB_become.2.1 62 = .ok (.getfield 23, 3) := by decide +kernel
theorem dB_become_65 : decode yB_become.2.1 65 = .ok (.iload_n 2, 1) := by decide +kernel
theorem dB_become_66 : decode yB_become.2.1 66 = .ok (.aaload, 1) := by decide +kernel
theorem dB_become_67 : decode yB_become.2.1 67 = .ok (.aastore, 1) := by decide +kernel
theorem dB_become_68 : decode yB_become.2.1 68 = .ok (.iinc 2 1, 3) := by decide +kernel
theorem dB_become_71 : decode yB_become.2.1 71 = .ok (.goto (-23), 3) := by decide +kernel
theorem dB_become_74 : decode yB_become.2.1 74 = .ok (.aload_n 1, 1) := by decide +kernel
theorem dB_become_75 : decode yB_become.2.1 75 = .ok (.getfield 27, 3) := by decide +kernel
theorem dB_become_78 : decode yB_become.2.1 78 = .ok (.iconst 0, 1) := by decide +kernel
theorem dB_become_79 : decode yB_become.2.1 79 = .ok (.aload_n 0, 1) := by decide +kernel
theorem dB_become_80 : decode yB_become.2.1 80 = .ok (.getfield 27, 3) := by decide +kernel
theorem dB_become_83 : decode yB_become.2.1 83 = .ok (.iconst 0, 1) := by decide +kernel
theorem dB_become_84 : decode yB_become.2.1 84 = .ok (.iconst 3, 1) := by decide +kernel
theorem dB_become_85 : decode yB_become.2.1 85 = .ok (.invokestatic 73, 3) := by decide +kernel
theorem dB_become_88 : decode yB_become.2.1 88 = .ok (.aload_n 0, 1) := by decide +kernel
theorem dB_become_89 : decode yB_become.2.1 89 = .ok (.aload_n 1, 1) := by decide +kernel
theorem dB_become_90 : decode yB_become.2.1 90 = .ok (.getfield 33, 3) := by decide +kernel
theorem dB_become_93 : decode yB_become.2.1 93 = .ok (.putfield 33, 3) := by decide +kernel
theorem dB_become_96 : decode yB_become.2.1 96 = .ok (.aload_n 0, 1) := by decide +kernel
theorem dB_become_97 : decode yB_become.2.1 97 = .ok (.aload_n 1, 1) := by decide +kernel
theorem dB_become_98 : decode yB_become.2.1 98 = .ok (.getfield 37, 3) := by decide +kernel
theorem dB_become_101 : decode yB_become.2.1 101 = .ok (.putfield 37, 3) := by decide +kernel
theorem dB_become_104 : decode yB_become.2.1 104 = .ok (.aload_n 0, 1) := by decide +kernel
theorem dB_become_105 : decode yB_become.2.1 105 = .ok (.aload_n 1, 1) := by decide +kernel
theorem dB_become_106 : decode yB_become.2.1 106 = .ok (.getfield 40, 3) := by decide +kernel
theorem dB_become_109 : decode yB_become.2.1 109 = .ok (.putfield 40, 3) := by decide +kernel
theorem dB_become_112 : decode yB_become.2.1 112 = .ok (.aload_n 0, 1) := by decide +kernel
theorem dB_become_113 : decode yB_become.2.1 113 = .ok (.aload_n 1, 1) := by decide +kernel
theorem dB_become_114 : decode yB_become.2.1 114 = .ok (.getfield 43, 3) := by decide +kernel
theorem dB_become_117 : decode yB_become.2.1 117 = .ok (.putfield 43, 3) := by decide +kernel
theorem dB_become_120 : decode yB_become.2.1 120 = .ok (.aload_n 0, 1) := by decide +kernel
theorem dB_become_121 : decode yB_become.2.1 121 = .ok (.aload_n 1, 1) := by decide +kernel
theorem dB_become_122 : decode yB_become.2.1 122 = .ok (.getfield 46, 3) := by decide +kernel
theorem dB_become_125 : decode yB_become.2.1 125 = .ok (.putfield 46, 3) := by decide +kernel
theorem dB_become_128 : decode yB_become.2.1 128 = .ok (.aload_n 0, 1) := by decide +kernel
theorem dB_become_129 : decode yB_become.2.1 129 = .ok (.aload_n 1, 1) := by decide +kernel
theorem dB_become_130 : decode yB_become.2.1 130 = .ok (.getfield 49, 3) := by decide +kernel
theorem dB_become_133 : decode yB_become.2.1 133 = .ok (.putfield 49, 3) := by decide +kernel
theorem dB_become_136 : decode yB_become.2.1 136 = .ok (.aload_n 0, 1) := by decide +kernel
theorem dB_become_137 : decode yB_become.2.1 137 = .ok (.aload_n 1, 1) := by decide +kernel
theorem dB_become_138 : decode yB_become.2.1 138 = .ok (.getfield 52, 3) := by decide +kernel
theorem dB_become_141 : decode yB_become.2.1 141 = .ok (.putfield 52, 3) := by decide +kernel
theorem dB_become_144 : decode yB_become.2.1 144 = .ok (.aload_n 0, 1) := by decide +kernel
theorem dB_become_145 : decode yB_become.2.1 145 = .ok (.aload_n 1, 1) := by decide +kernel
theorem dB_become_146 : decode yB_become.2.1 146 = .ok (.getfield 55, 3) := by decide +kernel
theorem dB_become_149 : decode yB_become.2.1 149 = .ok (.putfield 55, 3) := by decide +kernel
theorem dB_become_152 : decode yB_become.2.1 152 = .ok (.aload_n 0, 1) := by decide +kernel
theorem dB_become_153 : decode yB_become.2.1 153 = .ok (.aload_n 1, 1) := by decide +kernel
theorem dB_become_154 : decode yB_become.2.1 154 = .ok (.getfield 58, 3) := by decide +kernel
theorem dB_become_157 : decode yB_become.2.1 157 = .ok (.putfield 58, 3) := by decide +kernel
theorem dB_become_160 : decode yB_become.2.1 160 = .ok (.return_, 1) := by decide +kernel
theorem dG_become_0 : decode yG_become.2.1 0 = .ok (.aload_n 0, 1) := by decide +kernel
theorem dG_become_1 : decode yG_become.2.1 1 = .ok (.aload_n 1, 1) := by decide +kernel
theorem dG_become_2 : decode yG_become.2.1 2 = .ok (.getfield 9, 3) := by decide +kernel
theorem dG_become_5 : decode yG_become.2.1 5 = .ok (.putfield 9, 3) := by decide +kernel
theorem dG_become_8 : decode yG_become.2.1 8 = .ok (.aload_n 0, 1) := by decide +kernel
theorem dG_become_9 : decode yG_become.2.1 9 = .ok (.aload_n 1, 1) := by decide +kernel
theorem dG_become_10 : decode yG_become.2.1 10 = .ok (.getfield 15, 3) := by decide +kernel
theorem dG_become_13 : decode yG_become.2.1 13 = .ok (.putfield 15, 3) := by decide +kernel
theorem dG_become_16 : decode yG_become.2.1 16 = .ok (.aload_n 0, 1) := by decide +kernel
theorem dG_become_17 : decode yG_become.2.1 17 = .ok (.aload_n 1, 1) := by decide +kernel
theorem dG_become_18 : decode yG_become.2.1 18 = .ok (.getfield 18, 3) := by decide +kernel
theorem dG_become_21 : decode yG_become.2.1 21 = .ok (.putfield 18, 3) := by decide +kernel
theorem dG_become_24 : decode yG_become.2.1 24 = .ok (.aload_n 0, 1) := by decide +kernel
theorem dG_become_25 : decode yG_become.2.1 25 = .ok (.aload_n 1, 1) := by decide +kernel
theorem dG_become_26 : decode yG_become.2.1 26 = .ok (.getfield 21, 3) := by decide +kernel
theorem dG_become_29 : decode yG_become.2.1 29 = .ok (.putfield 21, 3) := by decide +kernel
theorem dG_become_32 : decode yG_become.2.1 32 = .ok (.aload_n 0, 1) := by decide +kernel
theorem dG_become_33 : decode yG_become.2.1 33 = .ok (.aload_n 1, 1) := by decide +kernel
theorem dG_become_34 : decode yG_become.2.1 34 = .ok (.getfield 24, 3) := by decide +kernel
theorem dG_become_37 : decode yG_become.2.1 37 = .ok (.putfield 24, 3) := by decide +kernel
theorem dG_become_40 : decode yG_become.2.1 40 = .ok (.return_, 1) := by decide +kernel
theorem dB_bargainWithEachEye_0 : decode yB_bargainWithEachEye.2.1 0 = .ok (.aload_n 0, 1) := by decide +kernel
theorem dB_bargainWithEachEye_1 : decode yB_bargainWithEachEye.2.1 1 = .ok (.getfield 55, 3) := by decide +kernel
theorem dB_bargainWithEachEye_4 : decode yB_bargainWithEachEye.2.1 4 = .ok (.bipush 6, 2) := by decide +kernel
theorem dB_bargainWithEachEye_6 : decode yB_bargainWithEachEye.2.1 6 = .ok (.irem, 1) := by decide +kernel
theorem dB_bargainWithEachEye_7 : decode yB_bargainWithEachEye.2.1 7 = .ok (.istore_n 2, 1) := by decide +kernel
theorem dB_bargainWithEachEye_8 : decode yB_bargainWithEachEye.2.1 8 = .ok (.aload_n 0, 1) := by decide +kernel
theorem dB_bargainWithEachEye_9 : decode yB_bargainWithEachEye.2.1 9 = .ok (.iload_n 2, 1) := by decide +kernel
theorem dB_bargainWithEachEye_10 : decode yB_bargainWithEachEye.2.1 10 = .ok (.invokevirtual 157, 3) := by decide +kernel
theorem dB_bargainWithEachEye_13 : decode yB_bargainWithEachEye.2.1 13 = .ok (.istore_n 3, 1) := by decide +kernel
theorem dB_bargainWithEachEye_14 : decode yB_bargainWithEachEye.2.1 14 = .ok (.aload_n 0, 1) := by decide +kernel
theorem dB_bargainWithEachEye_15 : decode yB_bargainWithEachEye.2.1 15 = .ok (.getfield 30, 3) := by decide +kernel
theorem dB_bargainWithEachEye_18 : decode yB_bargainWithEachEye.2.1 18 = .ok (.iconst 0, 1) := by decide +kernel
theorem dB_bargainWithEachEye_19 : decode yB_bargainWithEachEye.2.1 19 = .ok (.invokestatic 62, 3) := by decide +kernel
theorem dB_bargainWithEachEye_22 : decode yB_bargainWithEachEye.2.1 22 = .ok (.iconst 0, 1) := by decide +kernel
theorem dB_bargainWithEachEye_23 : decode yB_bargainWithEachEye.2.1 23 = .ok (.istore 4, 2) := by decide +kernel
theorem dB_bargainWithEachEye_25 : decode yB_bargainWithEachEye.2.1 25 = .ok (.iload 4, 2) := by decide +kernel
theorem dB_bargainWithEachEye_27 : decode yB_bargainWithEachEye.2.1 27 = .ok (.aload_n 0, 1) := by decide +kernel
theorem dB_bargainWithEachEye_28 : decode yB_bargainWithEachEye.2.1 28 = .ok (.getfield 33, 3) := by decide +kernel
theorem dB_bargainWithEachEye_31 : decode yB_bargainWithEachEye.2.1 31 = .ok (.if_icmp .ge 64, 3) := by decide +kernel
theorem dB_bargainWithEachEye_34 : decode yB_bargainWithEachEye.2.1 34 = .ok (.aload_n 0, 1) := by decide +kernel
theorem dB_bargainWithEachEye_35 : decode yB_bargainWithEachEye.2.1 35 = .ok (.getfield 11, 3) := by decide +kernel
theorem dB_bargainWithEachEye_38 : decode yB_bargainWithEachEye.2.1 38 = .ok (.iload 4, 2) := by decide +kernel
theorem dB_bargainWithEachEye_40 : decode yB_bargainWithEachEye.2.1 40 = .ok (.aaload, 1) := by decide +kernel
theorem dB_bargainWithEachEye_41 : decode yB_bargainWithEachEye.2.1 41 = .ok (.getfield 88, 3) := by decide +kernel
theorem dB_bargainWithEachEye_44 : decode yB_bargainWithEachEye.2.1 44 = .ok (.iload_n 2, 1) := by decide +kernel
theorem dB_bargainWithEachEye_45 : decode yB_bargainWithEachEye.2.1 45 = .ok (.if_icmp .ne 44, 3) := by decide +kernel
theorem dB_bargainWithEachEye_48 : decode yB_bargainWithEachEye.2.1 48 = .ok (.aload_n 0, 1) := by decide +kernel
theorem dB_bargainWithEachEye_49 : decode yB_bargainWithEachEye.2.1 49 = .ok (.aload_n 0, 1) := by decide +kernel
theorem dB_bargainWithEachEye_50 : decode yB_bargainWithEachEye.2.1 50 = .ok (.getfield 11, 3) := by decide +kernel
theorem dB_bargainWithEachEye_53 : decode yB_bargainWithEachEye.2.1 53 = .ok (.iload 4, 2) := by decide +kernel
theorem dB_bargainWithEachEye_55 : decode yB_bargainWithEachEye.2.1 55 = .ok (.aaload, 1) := by decide +kernel
theorem dB_bargainWithEachEye_56 : decode yB_bargainWithEachEye.2.1 56 = .ok (.iload_n 2, 1) := by decide +kernel
theorem dB_bargainWithEachEye_57 : decode yB_bargainWithEachEye.2.1 57 = .ok (.iload_n 3, 1) := by decide +kernel
theorem dB_bargainWithEachEye_58 : decode yB_bargainWithEachEye.2.1 58 = .ok (.invokevirtual 137, 3) := by decide +kernel
theorem dB_bargainWithEachEye_61 : decode yB_bargainWithEachEye.2.1 61 = .ok (.iconst 0, 1) := by decide +kernel
theorem dB_bargainWithEachEye_62 : decode yB_bargainWithEachEye.2.1 62 = .ok (.bipush 99, 2) := by decide +kernel
theorem dB_bargainWithEachEye_64 : decode yB_bargainWithEachEye.2.1 64 = .ok (.invokestatic 127, 3) := by decide +kernel
theorem dB_bargainWithEachEye_67 : decode yB_bargainWithEachEye.2.1 67 = .ok (.istore 5, 2) := by decide +kernel
theorem dB_bargainWithEachEye_69 : decode yB_bargainWithEachEye.2.1 69 = .ok (.aload_n 0, 1) := by decide +kernel
theorem dB_bargainWithEachEye_70 : decode yB_bargainWithEachEye.2.1 70 = .ok (.getfield 30, 3) := by decide +kernel
theorem dB_bargainWithEachEye_73 : decode yB_bargainWithEachEye.2.1 73 = .ok (.iload 5, 2) := by decide +kernel
theorem dB_bargainWithEachEye_75 : decode yB_bargainWithEachEye.2.1 75 = .ok (.dup2, 1) := by decide +kernel
theorem dB_bargainWithEachEye_76 : decode yB_bargainWithEachEye.2.1 76 = .ok (.iaload, 1) := by decide +kernel
theorem dB_bargainWithEachEye_77 : decode yB_bargainWithEachEye.2.1 77 = .ok (.aload_n 0, 1) := by decide +kernel
theorem dB_bargainWithEachEye_78 : decode yB_bargainWithEachEye.2.1 78 = .ok (.getfield 11, 3) := by decide +kernel
theorem dB_bargainWithEachEye_81 : decode yB_bargainWithEachEye.2.1 81 = .ok (.iload 4, 2) := by decide +kernel
theorem dB_bargainWithEachEye_83 : decode yB_bargainWithEachEye.2.1 83 = .ok (.aaload, 1) := by decide +kernel
theorem dB_bargainWithEachEye_84 : decode yB_bargainWithEachEye.2.1 84 = .ok (.invokevirtual 141, 3) := by decide +kernel
theorem dB_bargainWithEachEye_87 : decode yB_bargainWithEachEye.2.1 87 = .ok (.iadd, 1) := by decide +kernel
theorem dB_bargainWithEachEye_88 : decode yB_bargainWithEachEye.2.1 88 = .ok (.iastore, 1) := by decide +kernel
theorem dB_bargainWithEachEye_89 : decode yB_bargainWithEachEye.2.1 89 = .ok (.iinc 4 1, 3) := by decide +kernel
theorem dB_bargainWithEachEye_92 : decode yB_bargainWithEachEye.2.1 92 = .ok (.goto (-67), 3) := by decide +kernel
theorem dB_bargainWithEachEye_95 : decode yB_bargainWithEachEye.2.1 95 = .ok (.iconst 0, 1) := by decide +kernel
theorem dB_bargainWithEachEye_96 : decode yB_bargainWithEachEye.2.1 96 = .ok (.istore 4, 2) := by decide +kernel
theorem dB_bargainWithEachEye_98 : decode yB_bargainWithEachEye.2.1 98 = .ok (.bipush 99, 2) := by decide +kernel
theorem dB_bargainWithEachEye_100 : decode yB_bargainWithEachEye.2.1 100 = .ok (.istore 5, 2) := by decide +kernel
theorem dB_bargainWithEachEye_102 : decode yB_bargainWithEachEye.2.1 102 = .ok (.iload 5, 2) := by decide +kernel
theorem dB_bargainWithEachEye_104 : decode yB_bargainWithEachEye.2.1 104 = .ok (.ifCond .lt 47, 3) := by decide +kernel
theorem dB_bargainWithEachEye_107 : decode yB_bargainWithEachEye.2.1 107 = .ok (.iload 4, 2) := by decide +kernel
theorem dB_bargainWithEachEye_109 : decode yB_bargainWithEachEye.2.1 109 = .ok (.aload_n 0, 1) := by decide +kernel
theorem dB_bargainWithEachEye_110 : decode yB_bargainWithEachEye.2.1 110 = .ok (.getfield 30, 3) := by decide +kernel
theorem dB_bargainWithEachEye_113 : decode yB_bargainWithEachEye.2.1 113 = .ok (.iload 5, 2) := by decide +kernel
theorem dB_bargainWithEachEye_115 : decode yB_bargainWithEachEye.2.1 115 = .ok (.iaload, 1) := by decide +kernel
theorem dB_bargainWithEachEye_116 : decode yB_bargainWithEachEye.2.1 116 = .ok (.iadd, 1) := by decide +kernel
theorem dB_bargainWithEachEye_117 : decode yB_bargainWithEachEye.2.1 117 = .ok (.istore 4, 2) := by decide +kernel
theorem dB_bargainWithEachEye_119 : decode yB_bargainWithEachEye.2.1 119 = .ok (.iload 4, 2) := by decide +kernel
theorem dB_bargainWithEachEye_121 : decode yB_bargainWithEachEye.2.1 121 = .ok (.aload_n 0, 1) := by decide +kernel
theorem dB_bargainWithEachEye_122 : decode yB_bargainWithEachEye.2.1 122 = .ok (.getfield 17, 3) := by decide +kernel
theorem dB_bargainWithEachEye_125 : decode yB_bargainWithEachEye.2.1 125 = .ok (.iload_n 2, 1) := by decide +kernel
theorem dB_bargainWithEachEye_126 : decode yB_bargainWithEachEye.2.1 126 = .ok (.iaload, 1) := by decide +kernel
theorem dB_bargainWithEachEye_127 : decode yB_bargainWithEachEye.2.1 127 = .ok (.if_icmp .lt 18, 3) := by decide +kernel
theorem dB_bargainWithEachEye_130 : decode yB_bargainWithEachEye.2.1 130 = .ok (.aload_n 1, 1) := by decide +kernel
theorem dB_bargainWithEachEye_131 : decode yB_bargainWithEachEye.2.1 131 = .ok (.iload 5, 2) := by decide +kernel
theorem dB_bargainWithEachEye_133 : decode yB_bargainWithEachEye.2.1 133 = .ok (.ldc 153, 2) := by decide +kernel
theorem dB_bargainWithEachEye_135 : decode yB_bargainWithEachEye.2.1 135 = .ok (.aload_n 1, 1) := by decide +kernel
theorem dB_bargainWithEachEye_136 : decode yB_bargainWithEachEye.2.1 136 = .ok (.iload 5, 2) := by decide +kernel
theorem dB_bargainWithEachEye_138 : decode yB_bargainWithEachEye.2.1 138 = .ok (.iaload, 1) := by decide +kernel
theorem dB_bargainWithEachEye_139 : decode yB_bargainWithEachEye.2.1 139 = .ok (.iconst 1, 1) := by decide +kernel
theorem dB_bargainWithEachEye_140 : decode yB_bargainWithEachEye.2.1 140 = .ok (.iadd, 1) := by decide +kernel
theorem dB_bargainWithEachEye_141 : decode yB_bargainWithEachEye.2.1 141 = .ok (.invokestatic 154, 3) := by decide +kernel
theorem dB_bargainWithEachEye_144 : decode yB_bargainWithEachEye.2.1 144 = .ok (.iastore, 1) := by decide +kernel
theorem dB_bargainWithEachEye_145 : decode yB_bargainWithEachEye.2.1 145 = .ok (.iinc 5 (-1), 3) := by decide +kernel
theorem dB_bargainWithEachEye_148 : decode yB_bargainWithEachEye.2.1 148 = .ok (.goto (-46), 3) := by decide +kernel
theorem dB_bargainWithEachEye_151 : decode yB_bargainWithEachEye.2.1 151 = .ok (.return_, 1) := by decide +kernel
theorem dS_isMissing_0 : decode yS_isMissing.2.1 0 = .ok (.aload_n 0, 1) := by decide +kernel
theorem dS_isMissing_1 : decode yS_isMissing.2.1 1 = .ok (.getfield 9, 3) := by decide +kernel
theorem dS_isMissing_4 : decode yS_isMissing.2.1 4 = .ok (.iconst (-1), 1) := by decide +kernel
theorem dS_isMissing_5 : decode yS_isMissing.2.1 5 = .ok (.if_icmp .ne 7, 3) := by decide +kernel
theorem dS_isMissing_8 : decode yS_isMissing.2.1 8 = .ok (.iconst 1, 1) := by decide +kernel
theorem dS_isMissing_9 : decode yS_isMissing.2.1 9 = .ok (.goto 4, 3) := by decide +kernel
theorem dS_isMissing_12 : decode yS_isMissing.2.1 12 = .ok (.iconst 0, 1) := by decide +kernel
theorem dS_isMissing_13 : decode yS_isMissing.2.1 13 = .ok (.ireturn, 1) := by decide +kernel
theorem dS_isNumber_0 : decode yS_isNumber.2.1 0 = .ok (.aload_n 0, 1) := by decide +kernel
theorem dS_isNumber_1 : decode yS_isNumber.2.1 1 = .ok (.getfield 18, 3) := by decide +kernel
theorem dS_isNumber_4 : decode yS_isNumber.2.1 4 = .ok (.iload_n 1, 1) := by decide +kernel
theorem dS_isNumber_5 : decode yS_isNumber.2.1 5 = .ok (.iaload, 1) := by decide +kernel
theorem dS_isNumber_6 : decode yS_isNumber.2.1 6 = .ok (.ldc 34, 2) := by decide +kernel
theorem dS_isNumber_8 : decode yS_isNumber.2.1 8 = .ok (.if_icmp .eq 7, 3) := by decide +kernel
theorem dS_isNumber_11 : decode yS_isNumber.2.1 11 = .ok (.iconst 1, 1) := by decide +kernel
theorem dS_isNumber_12 : decode yS_isNumber.2.1 12 = .ok (.goto 4, 3) := by decide +kernel
theorem dS_isNumber_15 : decode yS_isNumber.2.1 15 = .ok (.iconst 0, 1) := by decide +kernel
theorem dS_isNumber_16 : decode yS_isNumber.2.1 16 = .ok (.ireturn, 1) := by decide +kernel
theorem dL_init_0 : decode yL_init.2.1 0 = .ok (.aload_n 0, 1) := by decide +kernel
theorem dL_init_1 : decode yL_init.2.1 1 = .ok (.invokespecial 1, 3) := by decide +kernel
theorem dL_init_4 : decode yL_init.2.1 4 = .ok (.aload_n 0, 1) := by decide +kernel
theorem dL_init_5 : decode yL_init.2.1 5 = .ok (.iload_n 1, 1) := by decide +kernel
theorem dL_init_6 : decode yL_init.2.1 6 = .ok (.putfield 7, 3) := by decide +kernel
theorem dL_init_9 : decode yL_init.2.1 9 = .ok (.aload_n 0, 1) := by decide +kernel
theorem dL_init_10 : decode yL_init.2.1 10 = .ok (.iload_n 2, 1) := by decide +kernel
theorem dL_init_11 : decode yL_init.2.1 11 = .ok (.putfield 13, 3) := by decide +kernel
theorem dL_init_14 : decode yL_init.2.1 14 = .ok (.aload_n 0, 1) := by decide +kernel
theorem dL_init_15 : decode yL_init.2.1 15 = .ok (.aload_n 3, 1) := by decide +kernel
theorem dL_init_16 : decode yL_init.2.1 16 = .ok (.putfield 16, 3) := by decide +kernel
theorem dL_init_19 : decode yL_init.2.1 19 = .ok (.aload_n 0, 1) := by decide +kernel
theorem dL_init_20 : decode yL_init.2.1 20 = .ok (.iconst 1, 1) := by decide +kernel
theorem dL_init_21 : decode yL_init.2.1 21 = .ok (.iload_n 2, 1) := by decide +kernel
theorem dL_init_22 : decode yL_init.2.1 22 = .ok (.invokestatic 20, 3) := by decide +kernel
theorem dL_init_25 : decode yL_init.2.1 25 = .ok (.newarray .int, 2) := by decide +kernel
theorem dL_init_27 : decode yL_init.2.1 27 = .ok (.putfield 26, 3) := by decide +kernel
theorem dL_init_30 : decode yL_init.2.1 30 = .ok (.return_, 1) := by decide +kernel
theorem dB_addLaw_0 : decode yB_addLaw.2.1 0 = .ok (.aload_n 0, 1) := by decide +kernel
theorem dB_addLaw_1 : decode yB_addLaw.2.1 1 = .ok (.getfield 37, 3) := by decide +kernel
theorem dB_addLaw_4 : decode yB_addLaw.2.1 4 = .ok (.bipush 14, 2) := by decide +kernel
theorem dB_addLaw_6 : decode yB_addLaw.2.1 6 = .ok (.if_icmp .ge 36, 3) := by decide +kernel
theorem dB_addLaw_9 : decode yB_addLaw.2.1 9 = .ok (.aload_n 0, 1) := by decide +kernel
theorem dB_addLaw_10 : decode yB_addLaw.2.1 10 = .ok (.getfield 23, 3) := by decide +kernel
theorem dB_addLaw_13 : decode yB_addLaw.2.1 13 = .ok (.aload_n 0, 1) := by decide +kernel
theorem dB_addLaw_14 : decode yB_addLaw.2.1 14 = .ok (.getfield 37, 3) := by decide +kernel
theorem dB_addLaw_17 : decode yB_addLaw.2.1 17 = .ok (.aload_n 1, 1) := by decide +kernel
theorem dB_addLaw_18 : decode yB_addLaw.2.1 18 = .ok (.aastore, 1) := by decide +kernel
theorem dB_addLaw_19 : decode yB_addLaw.2.1 19 = .ok (.aload_n 0, 1) := by decide +kernel
theorem dB_addLaw_20 : decode yB_addLaw.2.1 20 = .ok (.getfield 27, 3) := by decide +kernel
theorem dB_addLaw_23 : decode yB_addLaw.2.1 23 = .ok (.aload_n 1, 1) := by decide +kernel
theorem dB_addLaw_24 : decode yB_addLaw.2.1 24 = .ok (.getfield 103, 3) := by decide +kernel
theorem dB_addLaw_27 : decode yB_addLaw.2.1 27 = .ok (.aload_n 0, 1) := by decide +kernel
theorem dB_addLaw_28 : decode yB_addLaw.2.1 28 = .ok (.getfield 37, 3) := by decide +kernel
theorem dB_addLaw_31 : decode yB_addLaw.2.1 31 = .ok (.iastore, 1) := by decide +kernel
theorem dB_addLaw_32 : decode yB_addLaw.2.1 32 = .ok (.aload_n 0, 1) := by decide +kernel
theorem dB_addLaw_33 : decode yB_addLaw.2.1 33 = .ok (.dup, 1) := by decide +kernel
theorem dB_addLaw_34 : decode yB_addLaw.2.1 34 = .ok (.getfield 37, 3) := by decide +kernel
theorem dB_addLaw_37 : decode yB_addLaw.2.1 37 = .ok (.iconst 1, 1) := by decide +kernel
theorem dB_addLaw_38 : decode yB_addLaw.2.1 38 = .ok (.iadd, 1) := by decide +kernel
theorem dB_addLaw_39 : decode yB_addLaw.2.1 39 = .ok (.putfield 37, 3) := by decide +kernel
theorem dB_addLaw_42 : decode yB_addLaw.2.1 42 = .ok (.return_, 1) := by decide +kernel
theorem dS_begin_0 : decode yS_begin.2.1 0 = .ok (.aload_n 0, 1) := by decide +kernel
theorem dS_begin_1 : decode yS_begin.2.1 1 = .ok (.iload_n 1, 1) := by decide +kernel
theorem dS_begin_2 : decode yS_begin.2.1 2 = .ok (.putfield 9, 3) := by decide +kernel
theorem dS_begin_5 : decode yS_begin.2.1 5 = .ok (.aload_n 0, 1) := by decide +kernel
theorem dS_begin_6 : decode yS_begin.2.1 6 = .ok (.iload_n 2, 1) := by decide +kernel
theorem dS_begin_7 : decode yS_begin.2.1 7 = .ok (.putfield 15, 3) := by decide +kernel
theorem dS_begin_10 : decode yS_begin.2.1 10 = .ok (.aload_n 0, 1) := by decide +kernel
theorem dS_begin_11 : decode yS_begin.2.1 11 = .ok (.getfield 18, 3) := by decide +kernel
theorem dS_begin_14 : decode yS_begin.2.1 14 = .ok (.iconst 0, 1) := by decide +kernel
theorem dS_begin_15 : decode yS_begin.2.1 15 = .ok (.invokestatic 22, 3) := by decide +kernel
theorem dS_begin_18 : decode yS_begin.2.1 18 = .ok (.return_, 1) := by decide +kernel
theorem dS_hasPlaces_0 : decode yS_hasPlaces.2.1 0 = .ok (.iload_n 1, 1) := by decide +kernel
theorem dS_hasPlaces_1 : decode yS_hasPlaces.2.1 1 = .ok (.ifCond .lt 25, 3) := by decide +kernel
theorem dS_hasPlaces_4 : decode yS_hasPlaces.2.1 4 = .ok (.iload_n 1, 1) := by decide +kernel
theorem dS_hasPlaces_5 : decode yS_hasPlaces.2.1 5 = .ok (.aload_n 0, 1) := by decide +kernel
theorem dS_hasPlaces_6 : decode yS_hasPlaces.2.1 6 = .ok (.getfield 15, 3) := by decide +kernel
theorem dS_hasPlaces_9 : decode yS_hasPlaces.2.1 9 = .ok (.if_icmp .gt 17, 3) := by decide +kernel
theorem dS_hasPlaces_12 : decode yS_hasPlaces.2.1 12 = .ok (.iload_n 2, 1) := by decide +kernel
theorem dS_hasPlaces_13 : decode yS_hasPlaces.2.1 13 = .ok (.aload_n 0, 1) := by decide +kernel
theorem dS_hasPlaces_14 : decode yS_hasPlaces.2.1 14 = .ok (.getfield 15, 3) := by decide +kernel
theorem dS_hasPlaces_17 : decode yS_hasPlaces.2.1 17 = .ok (.iload_n 1, 1) := by decide +kernel
theorem dS_hasPlaces_18 : decode yS_hasPlaces.2.1 18 = .ok (.isub, 1) := by decide +kernel
theorem dS_hasPlaces_19 : decode yS_hasPlaces.2.1 19 = .ok (.if_icmp .gt 7, 3) := by decide +kernel
theorem dS_hasPlaces_22 : decode yS_hasPlaces.2.1 22 = .ok (.iconst 1, 1) := by decide +kernel
theorem dS_hasPlaces_23 : decode yS_hasPlaces.2.1 23 = .ok (.goto 4, 3) := by decide +kernel
theorem dS_hasPlaces_26 : decode yS_hasPlaces.2.1 26 = .ok (.iconst 0, 1) := by decide +kernel
theorem dS_hasPlaces_27 : decode yS_hasPlaces.2.1 27 = .ok (.ireturn, 1) := by decide +kernel
theorem dS_become_0 : decode yS_become.2.1 0 = .ok (.aload_n 0, 1) := by decide +kernel
theorem dS_become_1 : decode yS_become.2.1 1 = .ok (.aload_n 1, 1) := by decide +kernel
theorem dS_become_2 : decode yS_become.2.1 2 = .ok (.getfield 9, 3) := by decide +kernel
theorem dS_become_5 : decode yS_become.2.1 5 = .ok (.putfield 9, 3) := by decide +kernel
theorem dS_become_8 : decode yS_become.2.1 8 = .ok (.aload_n 0, 1) := by decide +kernel
theorem dS_become_9 : decode yS_become.2.1 9 = .ok (.aload_n 1, 1) := by decide +kernel
theorem dS_become_10 : decode yS_become.2.1 10 = .ok (.getfield 15, 3) := by decide +kernel
theorem dS_become_13 : decode yS_become.2.1 13 = .ok (.putfield 15, 3) := by decide +kernel
theorem dS_become_16 : decode yS_become.2.1 16 = .ok (.aload_n 1, 1) := by decide +kernel
theorem dS_become_17 : decode yS_become.2.1 17 = .ok (.getfield 18, 3) := by decide +kernel
theorem dS_become_20 : decode yS_become.2.1 20 = .ok (.iconst 0, 1) := by decide +kernel
theorem dS_become_21 : decode yS_become.2.1 21 = .ok (.aload_n 0, 1) := by decide +kernel
theorem dS_become_22 : decode yS_become.2.1 22 = .ok (.getfield 18, 3) := by decide +kernel
theorem dS_become_25 : decode yS_become.2.1 25 = .ok (.iconst 0, 1) := by decide +kernel
theorem dS_become_26 : decode yS_become.2.1 26 = .ok (.bipush 24, 2) := by decide +kernel
theorem dS_become_28 : decode yS_become.2.1 28 = .ok (.invokestatic 28, 3) := by decide +kernel
theorem dS_become_31 : decode yS_become.2.1 31 = .ok (.return_, 1) := by decide +kernel
