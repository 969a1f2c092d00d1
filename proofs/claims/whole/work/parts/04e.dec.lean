theorem dM_place_0 : decode yM_place.2.1 0 = .ok (.aload_n 0, 1) := by decide +kernel
theorem dM_place_1 : decode yM_place.2.1 1 = .ok (.iload_n 1, 1) := by decide +kernel
theorem dM_place_2 : decode yM_place.2.1 2 = .ok (.iload_n 2, 1) := by decide +kernel
theorem dM_place_3 : decode yM_place.2.1 3 = .ok (.iload_n 3, 1) := by decide +kernel
theorem dM_place_4 : decode yM_place.2.1 4 = .ok (.invokevirtual 206, 3) := by decide +kernel
theorem dM_place_7 : decode yM_place.2.1 7 = .ok (.ifCond .eq 17, 3) := by decide +kernel
theorem dM_place_10 : decode yM_place.2.1 10 = .ok (.aload_n 0, 1) := by decide +kernel
theorem dM_place_11 : decode yM_place.2.1 11 = .ok (.iload_n 1, 1) := by decide +kernel
theorem dM_place_12 : decode yM_place.2.1 12 = .ok (.iconst 3, 1) := by decide +kernel
theorem dM_place_13 : decode yM_place.2.1 13 = .ok (.invokestatic 61, 3) := by decide +kernel
theorem dM_place_16 : decode yM_place.2.1 16 = .ok (.iload_n 2, 1) := by decide +kernel
theorem dM_place_17 : decode yM_place.2.1 17 = .ok (.iload_n 3, 1) := by decide +kernel
theorem dM_place_18 : decode yM_place.2.1 18 = .ok (.invokevirtual 210, 3) := by decide +kernel
theorem dM_place_21 : decode yM_place.2.1 21 = .ok (.goto 5, 3) := by decide +kernel
theorem dM_place_24 : decode yM_place.2.1 24 = .ok (.ldc 96, 2) := by decide +kernel
theorem dM_place_26 : decode yM_place.2.1 26 = .ok (.ireturn, 1) := by decide +kernel
theorem dM_isAsked_0 : decode yM_isAsked.2.1 0 = .ok (.aload_n 0, 1) := by decide +kernel
theorem dM_isAsked_1 : decode yM_isAsked.2.1 1 = .ok (.iload_n 1, 1) := by decide +kernel
theorem dM_isAsked_2 : decode yM_isAsked.2.1 2 = .ok (.invokevirtual 92, 3) := by decide +kernel
theorem dM_isAsked_5 : decode yM_isAsked.2.1 5 = .ok (.ifCond .eq 29, 3) := by decide +kernel
theorem dM_isAsked_8 : decode yM_isAsked.2.1 8 = .ok (.iload_n 2, 1) := by decide +kernel
theorem dM_isAsked_9 : decode yM_isAsked.2.1 9 = .ok (.i2l, 1) := by decide +kernel
theorem dM_isAsked_10 : decode yM_isAsked.2.1 10 = .ok (.lconst 1, 1) := by decide +kernel
theorem dM_isAsked_11 : decode yM_isAsked.2.1 11 = .ok (.ldc2_w 204, 3) := by decide +kernel
theorem dM_isAsked_14 : decode yM_isAsked.2.1 14 = .ok (.invokestatic 65, 3) := by decide +kernel
theorem dM_isAsked_17 : decode yM_isAsked.2.1 17 = .ok (.ifCond .eq 17, 3) := by decide +kernel
theorem dM_isAsked_20 : decode yM_isAsked.2.1 20 = .ok (.iload_n 3, 1) := by decide +kernel
theorem dM_isAsked_21 : decode yM_isAsked.2.1 21 = .ok (.i2l, 1) := by decide +kernel
theorem dM_isAsked_22 : decode yM_isAsked.2.1 22 = .ok (.lconst 0, 1) := by decide +kernel
theorem dM_isAsked_23 : decode yM_isAsked.2.1 23 = .ok (.lconst 1, 1) := by decide +kernel
theorem dM_isAsked_24 : decode yM_isAsked.2.1 24 = .ok (.invokestatic 65, 3) := by decide +kernel
theorem dM_isAsked_27 : decode yM_isAsked.2.1 27 = .ok (.ifCond .eq 7, 3) := by decide +kernel
theorem dM_isAsked_30 : decode yM_isAsked.2.1 30 = .ok (.iconst 1, 1) := by decide +kernel
theorem dM_isAsked_31 : decode yM_isAsked.2.1 31 = .ok (.goto 4, 3) := by decide +kernel
theorem dM_isAsked_34 : decode yM_isAsked.2.1 34 = .ok (.iconst 0, 1) := by decide +kernel
theorem dM_isAsked_35 : decode yM_isAsked.2.1 35 = .ok (.ireturn, 1) := by decide +kernel
theorem dM_mostBy_0 : decode yM_mostBy.2.1 0 = .ok (.aload_n 0, 1) := by decide +kernel
theorem dM_mostBy_1 : decode yM_mostBy.2.1 1 = .ok (.getfield 7, 3) := by decide +kernel
theorem dM_mostBy_4 : decode yM_mostBy.2.1 4 = .ok (.iload_n 1, 1) := by decide +kernel
theorem dM_mostBy_5 : decode yM_mostBy.2.1 5 = .ok (.iaload, 1) := by decide +kernel
theorem dM_mostBy_6 : decode yM_mostBy.2.1 6 = .ok (.istore 4, 2) := by decide +kernel
theorem dM_mostBy_8 : decode yM_mostBy.2.1 8 = .ok (.iconst 0, 1) := by decide +kernel
theorem dM_mostBy_9 : decode yM_mostBy.2.1 9 = .ok (.istore 5, 2) := by decide +kernel
theorem dM_mostBy_11 : decode yM_mostBy.2.1 11 = .ok (.iconst (-1), 1) := by decide +kernel
theorem dM_mostBy_12 : decode yM_mostBy.2.1 12 = .ok (.istore 6, 2) := by decide +kernel
theorem dM_mostBy_14 : decode yM_mostBy.2.1 14 = .ok (.iconst 0, 1) := by decide +kernel
theorem dM_mostBy_15 : decode yM_mostBy.2.1 15 = .ok (.istore 7, 2) := by decide +kernel
theorem dM_mostBy_17 : decode yM_mostBy.2.1 17 = .ok (.iload 7, 2) := by decide +kernel
theorem dM_mostBy_19 : decode yM_mostBy.2.1 19 = .ok (.bipush 6, 2) := by decide +kernel
theorem dM_mostBy_21 : decode yM_mostBy.2.1 21 = .ok (.if_icmp .ge 56, 3) := by decide +kernel
theorem dM_mostBy_24 : decode yM_mostBy.2.1 24 = .ok (.aload_n 0, 1) := by decide +kernel
theorem dM_mostBy_25 : decode yM_mostBy.2.1 25 = .ok (.getfield 7, 3) := by decide +kernel
theorem dM_mostBy_28 : decode yM_mostBy.2.1 28 = .ok (.iload_n 1, 1) := by decide +kernel
theorem dM_mostBy_29 : decode yM_mostBy.2.1 29 = .ok (.iload 7, 2) := by decide +kernel
theorem dM_mostBy_31 : decode yM_mostBy.2.1 31 = .ok (.iastore, 1) := by decide +kernel
theorem dM_mostBy_32 : decode yM_mostBy.2.1 32 = .ok (.aload_n 0, 1) := by decide +kernel
theorem dM_mostBy_33 : decode yM_mostBy.2.1 33 = .ok (.iload_n 2, 1) := by decide +kernel
theorem dM_mostBy_34 : decode yM_mostBy.2.1 34 = .ok (.invokevirtual 201, 3) := by decide +kernel
theorem dM_mostBy_37 : decode yM_mostBy.2.1 37 = .ok (.istore 8, 2) := by decide +kernel
theorem dM_mostBy_39 : decode yM_mostBy.2.1 39 = .ok (.iload 8, 2) := by decide +kernel
theorem dM_mostBy_41 : decode yM_mostBy.2.1 41 = .ok (.iload 6, 2) := by decide +kernel
theorem dM_mostBy_43 : decode yM_mostBy.2.1 43 = .ok (.if_icmp .le 8, 3) := by decide +kernel
theorem dM_mostBy_46 : decode yM_mostBy.2.1 46 = .ok (.iload 7, 2) := by decide +kernel
theorem dM_mostBy_48 : decode yM_mostBy.2.1 48 = .ok (.goto 5, 3) := by decide +kernel
theorem dM_mostBy_51 : decode yM_mostBy.2.1 51 = .ok (.iload 5, 2) := by decide +kernel
theorem dM_mostBy_53 : decode yM_mostBy.2.1 53 = .ok (.istore 5, 2) := by decide +kernel
theorem dM_mostBy_55 : decode yM_mostBy.2.1 55 = .ok (.iload 8, 2) := by decide +kernel
theorem dM_mostBy_57 : decode yM_mostBy.2.1 57 = .ok (.iload 6, 2) := by decide +kernel
theorem dM_mostBy_59 : decode yM_mostBy.2.1 59 = .ok (.if_icmp .le 8, 3) := by decide +kernel
theorem dM_mostBy_62 : decode yM_mostBy.2.1 62 = .ok (.iload 8, 2) := by decide +kernel
theorem dM_mostBy_64 : decode yM_mostBy.2.1 64 = .ok (.goto 5, 3) := by decide +kernel
theorem dM_mostBy_67 : decode yM_mostBy.2.1 67 = .ok (.iload 6, 2) := by decide +kernel
theorem dM_mostBy_69 : decode yM_mostBy.2.1 69 = .ok (.istore 6, 2) := by decide +kernel
theorem dM_mostBy_71 : decode yM_mostBy.2.1 71 = .ok (.iinc 7 1, 3) := by decide +kernel
theorem dM_mostBy_74 : decode yM_mostBy.2.1 74 = .ok (.goto (-57), 3) := by decide +kernel
theorem dM_mostBy_77 : decode yM_mostBy.2.1 77 = .ok (.aload_n 0, 1) := by decide +kernel
theorem dM_mostBy_78 : decode yM_mostBy.2.1 78 = .ok (.getfield 7, 3) := by decide +kernel
theorem dM_mostBy_81 : decode yM_mostBy.2.1 81 = .ok (.iload_n 1, 1) := by decide +kernel
theorem dM_mostBy_82 : decode yM_mostBy.2.1 82 = .ok (.iload 4, 2) := by decide +kernel
theorem dM_mostBy_84 : decode yM_mostBy.2.1 84 = .ok (.iastore, 1) := by decide +kernel
theorem dM_mostBy_85 : decode yM_mostBy.2.1 85 = .ok (.iload_n 3, 1) := by decide +kernel
theorem dM_mostBy_86 : decode yM_mostBy.2.1 86 = .ok (.ifCond .ne 8, 3) := by decide +kernel
theorem dM_mostBy_89 : decode yM_mostBy.2.1 89 = .ok (.iload 5, 2) := by decide +kernel
theorem dM_mostBy_91 : decode yM_mostBy.2.1 91 = .ok (.goto 5, 3) := by decide +kernel
theorem dM_mostBy_94 : decode yM_mostBy.2.1 94 = .ok (.iload 6, 2) := by decide +kernel
theorem dM_mostBy_96 : decode yM_mostBy.2.1 96 = .ok (.ireturn, 1) := by decide +kernel
theorem dM_heldBehind_0 : decode yM_heldBehind.2.1 0 = .ok (.aload_n 0, 1) := by decide +kernel
theorem dM_heldBehind_1 : decode yM_heldBehind.2.1 1 = .ok (.invokevirtual 157, 3) := by decide +kernel
theorem dM_heldBehind_4 : decode yM_heldBehind.2.1 4 = .ok (.aload_n 0, 1) := by decide +kernel
theorem dM_heldBehind_5 : decode yM_heldBehind.2.1 5 = .ok (.iload_n 1, 1) := by decide +kernel
theorem dM_heldBehind_6 : decode yM_heldBehind.2.1 6 = .ok (.invokevirtual 185, 3) := by decide +kernel
theorem dM_heldBehind_9 : decode yM_heldBehind.2.1 9 = .ok (.aload_n 0, 1) := by decide +kernel
theorem dM_heldBehind_10 : decode yM_heldBehind.2.1 10 = .ok (.aload_n 0, 1) := by decide +kernel
theorem dM_heldBehind_11 : decode yM_heldBehind.2.1 11 = .ok (.getfield 7, 3) := by decide +kernel
theorem dM_heldBehind_14 : decode yM_heldBehind.2.1 14 = .ok (.iconst 3, 1) := by decide +kernel
theorem dM_heldBehind_15 : decode yM_heldBehind.2.1 15 = .ok (.iaload, 1) := by decide +kernel
theorem dM_heldBehind_16 : decode yM_heldBehind.2.1 16 = .ok (.invokevirtual 160, 3) := by decide +kernel
theorem dM_heldBehind_19 : decode yM_heldBehind.2.1 19 = .ok (.ireturn, 1) := by decide +kernel
theorem dM_becomes_0 : decode yM_becomes.2.1 0 = .ok (.aload_n 0, 1) := by decide +kernel
theorem dM_becomes_1 : decode yM_becomes.2.1 1 = .ok (.iload_n 1, 1) := by decide +kernel
theorem dM_becomes_2 : decode yM_becomes.2.1 2 = .ok (.iload_n 2, 1) := by decide +kernel
theorem dM_becomes_3 : decode yM_becomes.2.1 3 = .ok (.iload_n 3, 1) := by decide +kernel
theorem dM_becomes_4 : decode yM_becomes.2.1 4 = .ok (.invokevirtual 206, 3) := by decide +kernel
theorem dM_becomes_7 : decode yM_becomes.2.1 7 = .ok (.ifCond .eq 17, 3) := by decide +kernel
theorem dM_becomes_10 : decode yM_becomes.2.1 10 = .ok (.aload_n 0, 1) := by decide +kernel
theorem dM_becomes_11 : decode yM_becomes.2.1 11 = .ok (.iload_n 1, 1) := by decide +kernel
theorem dM_becomes_12 : decode yM_becomes.2.1 12 = .ok (.iconst 0, 1) := by decide +kernel
theorem dM_becomes_13 : decode yM_becomes.2.1 13 = .ok (.invokestatic 61, 3) := by decide +kernel
theorem dM_becomes_16 : decode yM_becomes.2.1 16 = .ok (.iload_n 2, 1) := by decide +kernel
theorem dM_becomes_17 : decode yM_becomes.2.1 17 = .ok (.iload_n 3, 1) := by decide +kernel
theorem dM_becomes_18 : decode yM_becomes.2.1 18 = .ok (.invokevirtual 210, 3) := by decide +kernel
theorem dM_becomes_21 : decode yM_becomes.2.1 21 = .ok (.goto 5, 3) := by decide +kernel
theorem dM_becomes_24 : decode yM_becomes.2.1 24 = .ok (.ldc 96, 2) := by decide +kernel
theorem dM_becomes_26 : decode yM_becomes.2.1 26 = .ok (.ireturn, 1) := by decide +kernel
theorem dM_eyes_0 : decode yM_eyes.2.1 0 = .ok (.iload_n 1, 1) := by decide +kernel
theorem dM_eyes_1 : decode yM_eyes.2.1 1 = .ok (.i2l, 1) := by decide +kernel
theorem dM_eyes_2 : decode yM_eyes.2.1 2 = .ok (.lconst 0, 1) := by decide +kernel
theorem dM_eyes_3 : decode yM_eyes.2.1 3 = .ok (.ldc2_w 204, 3) := by decide +kernel
theorem dM_eyes_6 : decode yM_eyes.2.1 6 = .ok (.invokestatic 65, 3) := by decide +kernel
theorem dM_eyes_9 : decode yM_eyes.2.1 9 = .ok (.ifCond .eq 15, 3) := by decide +kernel
theorem dM_eyes_12 : decode yM_eyes.2.1 12 = .ok (.iload_n 2, 1) := by decide +kernel
theorem dM_eyes_13 : decode yM_eyes.2.1 13 = .ok (.i2l, 1) := by decide +kernel
theorem dM_eyes_14 : decode yM_eyes.2.1 14 = .ok (.lconst 0, 1) := by decide +kernel
theorem dM_eyes_15 : decode yM_eyes.2.1 15 = .ok (.ldc2_w 213, 3) := by decide +kernel
theorem dM_eyes_18 : decode yM_eyes.2.1 18 = .ok (.invokestatic 65, 3) := by decide +kernel
theorem dM_eyes_21 : decode yM_eyes.2.1 21 = .ok (.ifCond .ne 6, 3) := by decide +kernel
theorem dM_eyes_24 : decode yM_eyes.2.1 24 = .ok (.ldc 96, 2) := by decide +kernel
theorem dM_eyes_26 : decode yM_eyes.2.1 26 = .ok (.ireturn, 1) := by decide +kernel
theorem dM_eyes_27 : decode yM_eyes.2.1 27 = .ok (.aload_n 0, 1) := by decide +kernel
theorem dM_eyes_28 : decode yM_eyes.2.1 28 = .ok (.getfield 7, 3) := by decide +kernel
theorem dM_eyes_31 : decode yM_eyes.2.1 31 = .ok (.iconst 1, 1) := by decide +kernel
theorem dM_eyes_32 : decode yM_eyes.2.1 32 = .ok (.iaload, 1) := by decide +kernel
theorem dM_eyes_33 : decode yM_eyes.2.1 33 = .ok (.istore_n 3, 1) := by decide +kernel
theorem dM_eyes_34 : decode yM_eyes.2.1 34 = .ok (.iconst (-1), 1) := by decide +kernel
theorem dM_eyes_35 : decode yM_eyes.2.1 35 = .ok (.istore 4, 2) := by decide +kernel
theorem dM_eyes_37 : decode yM_eyes.2.1 37 = .ok (.bipush 99, 2) := by decide +kernel
theorem dM_eyes_39 : decode yM_eyes.2.1 39 = .ok (.istore 5, 2) := by decide +kernel
theorem dM_eyes_41 : decode yM_eyes.2.1 41 = .ok (.iload 5, 2) := by decide +kernel
theorem dM_eyes_43 : decode yM_eyes.2.1 43 = .ok (.ifCond .lt 39, 3) := by decide +kernel
theorem dM_eyes_46 : decode yM_eyes.2.1 46 = .ok (.iload 4, 2) := by decide +kernel
theorem dM_eyes_48 : decode yM_eyes.2.1 48 = .ok (.ifCond .ge 34, 3) := by decide +kernel
theorem dM_eyes_51 : decode yM_eyes.2.1 51 = .ok (.aload_n 0, 1) := by decide +kernel
theorem dM_eyes_52 : decode yM_eyes.2.1 52 = .ok (.getfield 7, 3) := by decide +kernel
theorem dM_eyes_55 : decode yM_eyes.2.1 55 = .ok (.iconst 1, 1) := by decide +kernel
theorem dM_eyes_56 : decode yM_eyes.2.1 56 = .ok (.iload 5, 2) := by decide +kernel
theorem dM_eyes_58 : decode yM_eyes.2.1 58 = .ok (.iastore, 1) := by decide +kernel
theorem dM_eyes_59 : decode yM_eyes.2.1 59 = .ok (.aload_n 0, 1) := by decide +kernel
theorem dM_eyes_60 : decode yM_eyes.2.1 60 = .ok (.iload_n 1, 1) := by decide +kernel
theorem dM_eyes_61 : decode yM_eyes.2.1 61 = .ok (.invokevirtual 201, 3) := by decide +kernel
theorem dM_eyes_64 : decode yM_eyes.2.1 64 = .ok (.iload_n 2, 1) := by decide +kernel
theorem dM_eyes_65 : decode yM_eyes.2.1 65 = .ok (.if_icmp .lt 8, 3) := by decide +kernel
theorem dM_eyes_68 : decode yM_eyes.2.1 68 = .ok (.iload 5, 2) := by decide +kernel
theorem dM_eyes_70 : decode yM_eyes.2.1 70 = .ok (.goto 4, 3) := by decide +kernel
theorem dM_eyes_73 : decode yM_eyes.2.1 73 = .ok (.iconst (-1), 1) := by decide +kernel
theorem dM_eyes_74 : decode yM_eyes.2.1 74 = .ok (.istore 4, 2) := by decide +kernel
theorem dM_eyes_76 : decode yM_eyes.2.1 76 = .ok (.iinc 5 (-1), 3) := by decide +kernel
theorem dM_eyes_79 : decode yM_eyes.2.1 79 = .ok (.goto (-38), 3) := by decide +kernel
theorem dM_eyes_82 : decode yM_eyes.2.1 82 = .ok (.aload_n 0, 1) := by decide +kernel
theorem dM_eyes_83 : decode yM_eyes.2.1 83 = .ok (.getfield 7, 3) := by decide +kernel
theorem dM_eyes_86 : decode yM_eyes.2.1 86 = .ok (.iconst 1, 1) := by decide +kernel
theorem dM_eyes_87 : decode yM_eyes.2.1 87 = .ok (.iload_n 3, 1) := by decide +kernel
theorem dM_eyes_88 : decode yM_eyes.2.1 88 = .ok (.iastore, 1) := by decide +kernel
theorem dM_eyes_89 : decode yM_eyes.2.1 89 = .ok (.iload 4, 2) := by decide +kernel
theorem dM_eyes_91 : decode yM_eyes.2.1 91 = .ok (.ifCond .ge 8, 3) := by decide +kernel
theorem dM_eyes_94 : decode yM_eyes.2.1 94 = .ok (.ldc 169, 2) := by decide +kernel
theorem dM_eyes_96 : decode yM_eyes.2.1 96 = .ok (.goto 5, 3) := by decide +kernel
theorem dM_eyes_99 : decode yM_eyes.2.1 99 = .ok (.iload 4, 2) := by decide +kernel
theorem dM_eyes_101 : decode yM_eyes.2.1 101 = .ok (.ireturn, 1) := by decide +kernel
theorem dM_like_0 : decode yM_like.2.1 0 = .ok (.iload_n 1, 1) := by decide +kernel
theorem dM_like_1 : decode yM_like.2.1 1 = .ok (.invokestatic 215, 3) := by decide +kernel
theorem dM_like_4 : decode yM_like.2.1 4 = .ok (.ifCond .eq 13, 3) := by decide +kernel
theorem dM_like_7 : decode yM_like.2.1 7 = .ok (.iload_n 2, 1) := by decide +kernel
theorem dM_like_8 : decode yM_like.2.1 8 = .ok (.i2l, 1) := by decide +kernel
theorem dM_like_9 : decode yM_like.2.1 9 = .ok (.lconst 0, 1) := by decide +kernel
theorem dM_like_10 : decode yM_like.2.1 10 = .ok (.lconst 1, 1) := by decide +kernel
theorem dM_like_11 : decode yM_like.2.1 11 = .ok (.invokestatic 65, 3) := by decide +kernel
theorem dM_like_14 : decode yM_like.2.1 14 = .ok (.ifCond .ne 6, 3) := by decide +kernel
theorem dM_like_17 : decode yM_like.2.1 17 = .ok (.ldc 96, 2) := by decide +kernel
theorem dM_like_19 : decode yM_like.2.1 19 = .ok (.ireturn, 1) := by decide +kernel
theorem dM_like_20 : decode yM_like.2.1 20 = .ok (.aload_n 0, 1) := by decide +kernel
theorem dM_like_21 : decode yM_like.2.1 21 = .ok (.getfield 37, 3) := by decide +kernel
theorem dM_like_24 : decode yM_like.2.1 24 = .ok (.iload_n 1, 1) := by decide +kernel
theorem dM_like_25 : decode yM_like.2.1 25 = .ok (.iaload, 1) := by decide +kernel
theorem dM_like_26 : decode yM_like.2.1 26 = .ok (.ifCond .ge 6, 3) := by decide +kernel
theorem dM_like_29 : decode yM_like.2.1 29 = .ok (.ldc 218, 2) := by decide +kernel
theorem dM_like_31 : decode yM_like.2.1 31 = .ok (.ireturn, 1) := by decide +kernel
theorem dM_like_32 : decode yM_like.2.1 32 = .ok (.aload_n 0, 1) := by decide +kernel
theorem dM_like_33 : decode yM_like.2.1 33 = .ok (.invokevirtual 157, 3) := by decide +kernel
theorem dM_like_36 : decode yM_like.2.1 36 = .ok (.iconst 0, 1) := by decide +kernel
theorem dM_like_37 : decode yM_like.2.1 37 = .ok (.istore_n 3, 1) := by decide +kernel
theorem dM_like_38 : decode yM_like.2.1 38 = .ok (.iload_n 3, 1) := by decide +kernel
theorem dM_like_39 : decode yM_like.2.1 39 = .ok (.aload_n 0, 1) := by decide +kernel
theorem dM_like_40 : decode yM_like.2.1 40 = .ok (.getfield 7, 3) := by decide +kernel
theorem dM_like_43 : decode yM_like.2.1 43 = .ok (.iconst 0, 1) := by decide +kernel
theorem dM_like_44 : decode yM_like.2.1 44 = .ok (.iaload, 1) := by decide +kernel
theorem dM_like_45 : decode yM_like.2.1 45 = .ok (.if_icmp .ge 16, 3) := by decide +kernel
theorem dM_like_48 : decode yM_like.2.1 48 = .ok (.aload_n 0, 1) := by decide +kernel
theorem dM_like_49 : decode yM_like.2.1 49 = .ok (.getfield 28, 3) := by decide +kernel
theorem dM_like_52 : decode yM_like.2.1 52 = .ok (.iload_n 3, 1) := by decide +kernel
theorem dM_like_53 : decode yM_like.2.1 53 = .ok (.iconst 0, 1) := by decide +kernel
theorem dM_like_54 : decode yM_like.2.1 54 = .ok (.iastore, 1) := by decide +kernel
theorem dM_like_55 : decode yM_like.2.1 55 = .ok (.iinc 3 1, 3) := by decide +kernel
theorem dM_like_58 : decode yM_like.2.1 58 = .ok (.goto (-20), 3) := by decide +kernel
theorem dM_like_61 : decode yM_like.2.1 61 = .ok (.iconst 0, 1) := by decide +kernel
theorem dM_like_62 : decode yM_like.2.1 62 = .ok (.istore_n 3, 1) := by decide +kernel
theorem dM_like_63 : decode yM_like.2.1 63 = .ok (.iload_n 3, 1) := by decide +kernel
theorem dM_like_64 : decode yM_like.2.1 64 = .ok (.aload_n 0, 1) := by decide +kernel
theorem dM_like_65 : decode yM_like.2.1 65 = .ok (.getfield 40, 3) := by decide +kernel
theorem dM_like_68 : decode yM_like.2.1 68 = .ok (.iload_n 1, 1) := by decide +kernel
theorem dM_like_69 : decode yM_like.2.1 69 = .ok (.iaload, 1) := by decide +kernel
theorem dM_like_70 : decode yM_like.2.1 70 = .ok (.if_icmp .ge 93, 3) := by decide +kernel
theorem dM_like_73 : decode yM_like.2.1 73 = .ok (.aload_n 0, 1) := by decide +kernel
theorem dM_like_74 : decode yM_like.2.1 74 = .ok (.getfield 43, 3) := by decide +kernel
theorem dM_like_77 : decode yM_like.2.1 77 = .ok (.bipush 24, 2) := by decide +kernel
theorem dM_like_79 : decode yM_like.2.1 79 = .ok (.iload_n 1, 1) := by decide +kernel
theorem dM_like_80 : decode yM_like.2.1 80 = .ok (.imul, 1) := by decide +kernel
theorem dM_like_81 : decode yM_like.2.1 81 = .ok (.iload_n 3, 1) := by decide +kernel
theorem dM_like_82 : decode yM_like.2.1 82 = .ok (.iadd, 1) := by decide +kernel
theorem dM_like_83 : decode yM_like.2.1 83 = .ok (.iaload, 1) := by decide +kernel
theorem dM_like_84 : decode yM_like.2.1 84 = .ok (.istore 4, 2) := by decide +kernel
theorem dM_like_86 : decode yM_like.2.1 86 = .ok (.iconst 0, 1) := by decide +kernel
theorem dM_like_87 : decode yM_like.2.1 87 = .ok (.istore 5, 2) := by decide +kernel
theorem dM_like_89 : decode yM_like.2.1 89 = .ok (.iload 5, 2) := by decide +kernel
theorem dM_like_91 : decode yM_like.2.1 91 = .ok (.aload_n 0, 1) := by decide +kernel
theorem dM_like_92 : decode yM_like.2.1 92 = .ok (.getfield 7, 3) := by decide +kernel
theorem dM_like_95 : decode yM_like.2.1 95 = .ok (.iconst 0, 1) := by decide +kernel
theorem dM_like_96 : decode yM_like.2.1 96 = .ok (.iaload, 1) := by decide +kernel
theorem dM_like_97 : decode yM_like.2.1 97 = .ok (.if_icmp .ge 56, 3) := by decide +kernel
theorem dM_like_100 : decode yM_like.2.1 100 = .ok (.aload_n 0, 1) := by decide +kernel
theorem dM_like_101 : decode yM_like.2.1 101 = .ok (.iload 5, 2) := by decide +kernel
theorem dM_like_103 : decode yM_like.2.1 103 = .ok (.iconst 4, 1) := by decide +kernel
theorem dM_like_104 : decode yM_like.2.1 104 = .ok (.invokevirtual 79, 3) := by decide +kernel
theorem dM_like_107 : decode yM_like.2.1 107 = .ok (.iload 4, 2) := by decide +kernel
theorem dM_like_109 : decode yM_like.2.1 109 = .ok (.isub, 1) := by decide +kernel
theorem dM_like_110 : decode yM_like.2.1 110 = .ok (.istore 6, 2) := by decide +kernel
theorem dM_like_112 : decode yM_like.2.1 112 = .ok (.aload_n 0, 1) := by decide +kernel
theorem dM_like_113 : decode yM_like.2.1 113 = .ok (.getfield 28, 3) := by decide +kernel
theorem dM_like_116 : decode yM_like.2.1 116 = .ok (.iload 5, 2) := by decide +kernel
theorem dM_like_118 : decode yM_like.2.1 118 = .ok (.dup2, 1) := by decide +kernel
theorem dM_like_119 : decode yM_like.2.1 119 = .ok (.iaload, 1) := by decide +kernel
theorem dM_like_120 : decode yM_like.2.1 120 = .ok (.iload 4, 2) := by decide +kernel
theorem dM_like_122 : decode yM_like.2.1 122 = .ok (.ldc 169, 2) := by decide +kernel
theorem dM_like_124 : decode yM_like.2.1 124 = .ok (.if_icmp .ne 7, 3) := by decide +kernel
theorem dM_like_127 : decode yM_like.2.1 127 = .ok (.iconst 0, 1) := by decide +kernel
theorem dM_like_128 : decode yM_like.2.1 128 = .ok (.goto 17, 3) := by decide +kernel
theorem dM_like_131 : decode yM_like.2.1 131 = .ok (.iload 6, 2) := by decide +kernel
theorem dM_like_133 : decode yM_like.2.1 133 = .ok (.ifCond .ge 10, 3) := by decide +kernel
theorem dM_like_136 : decode yM_like.2.1 136 = .ok (.iconst 0, 1) := by decide +kernel
theorem dM_like_137 : decode yM_like.2.1 137 = .ok (.iload 6, 2) := by decide +kernel
theorem dM_like_139 : decode yM_like.2.1 139 = .ok (.isub, 1) := by decide +kernel
theorem dM_like_140 : decode yM_like.2.1 140 = .ok (.goto 5, 3) := by decide +kernel
theorem dM_like_143 : decode yM_like.2.1 143 = .ok (.iload 6, 2) := by decide +kernel
theorem dM_like_145 : decode yM_like.2.1 145 = .ok (.iadd, 1) := by decide +kernel
theorem dM_like_146 : decode yM_like.2.1 146 = .ok (.iastore, 1) := by decide +kernel
theorem dM_like_147 : decode yM_like.2.1 147 = .ok (.iinc 5 1, 3) := by decide +kernel
theorem dM_like_150 : decode yM_like.2.1 150 = .ok (.goto (-61), 3) := by decide +kernel
theorem dM_like_153 : decode yM_like.2.1 153 = .ok (.aload_n 0, 1) := by decide +kernel
theorem dM_like_154 : decode yM_like.2.1 154 = .ok (.invokevirtual 177, 3) := by decide +kernel
theorem dM_like_157 : decode yM_like.2.1 157 = .ok (.iinc 3 1, 3) := by decide +kernel
theorem dM_like_160 : decode yM_like.2.1 160 = .ok (.goto (-97), 3) := by decide +kernel
theorem dM_like_163 : decode yM_like.2.1 163 = .ok (.aload_n 0, 1) := by decide +kernel
theorem dM_like_164 : decode yM_like.2.1 164 = .ok (.iconst 0, 1) := by decide +kernel
theorem dM_like_165 : decode yM_like.2.1 165 = .ok (.invokevirtual 160, 3) := by decide +kernel
theorem dM_like_168 : decode yM_like.2.1 168 = .ok (.istore_n 3, 1) := by decide +kernel
theorem dM_like_169 : decode yM_like.2.1 169 = .ok (.iconst 1, 1) := by decide +kernel
theorem dM_like_170 : decode yM_like.2.1 170 = .ok (.istore 4, 2) := by decide +kernel
theorem dM_like_172 : decode yM_like.2.1 172 = .ok (.iload 4, 2) := by decide +kernel
theorem dM_like_174 : decode yM_like.2.1 174 = .ok (.aload_n 0, 1) := by decide +kernel
theorem dM_like_175 : decode yM_like.2.1 175 = .ok (.getfield 7, 3) := by decide +kernel
theorem dM_like_178 : decode yM_like.2.1 178 = .ok (.iconst 0, 1) := by decide +kernel
theorem dM_like_179 : decode yM_like.2.1 179 = .ok (.iaload, 1) := by decide +kernel
theorem dM_like_180 : decode yM_like.2.1 180 = .ok (.if_icmp .ge 32, 3) := by decide +kernel
theorem dM_like_183 : decode yM_like.2.1 183 = .ok (.aload_n 0, 1) := by decide +kernel
theorem dM_like_184 : decode yM_like.2.1 184 = .ok (.getfield 28, 3) := by decide +kernel
theorem dM_like_187 : decode yM_like.2.1 187 = .ok (.iload 4, 2) := by decide +kernel
theorem dM_like_189 : decode yM_like.2.1 189 = .ok (.iaload, 1) := by decide +kernel
theorem dM_like_190 : decode yM_like.2.1 190 = .ok (.aload_n 0, 1) := by decide +kernel
theorem dM_like_191 : decode yM_like.2.1 191 = .ok (.getfield 28, 3) := by decide +kernel
theorem dM_like_194 : decode yM_like.2.1 194 = .ok (.iload_n 3, 1) := by decide +kernel
theorem dM_like_195 : decode yM_like.2.1 195 = .ok (.iaload, 1) := by decide +kernel
theorem dM_like_196 : decode yM_like.2.1 196 = .ok (.if_icmp .ge 8, 3) := by decide +kernel
theorem dM_like_199 : decode yM_like.2.1 199 = .ok (.iload 4, 2) := by decide +kernel
theorem dM_like_201 : decode yM_like.2.1 201 = .ok (.goto 4, 3) := by decide +kernel
theorem dM_like_204 : decode yM_like.2.1 204 = .ok (.iload_n 3, 1) := by decide +kernel
theorem dM_like_205 : decode yM_like.2.1 205 = .ok (.istore_n 3, 1) := by decide +kernel
theorem dM_like_206 : decode yM_like.2.1 206 = .ok (.iinc 4 1, 3) := by decide +kernel
theorem dM_like_209 : decode yM_like.2.1 209 = .ok (.goto (-37), 3) := by decide +kernel
theorem dM_like_212 : decode yM_like.2.1 212 = .ok (.aload_n 0, 1) := by decide +kernel
theorem dM_like_213 : decode yM_like.2.1 213 = .ok (.getfield 7, 3) := by decide +kernel
theorem dM_like_216 : decode yM_like.2.1 216 = .ok (.iconst 0, 1) := by decide +kernel
theorem dM_like_217 : decode yM_like.2.1 217 = .ok (.iaload, 1) := by decide +kernel
theorem dM_like_218 : decode yM_like.2.1 218 = .ok (.ifCond .ne 8, 3) := by decide +kernel
theorem dM_like_221 : decode yM_like.2.1 221 = .ok (.ldc 169, 2) := by decide +kernel
theorem dM_like_223 : decode yM_like.2.1 223 = .ok (.goto 17, 3) := by decide +kernel
theorem dM_like_226 : decode yM_like.2.1 226 = .ok (.iload_n 2, 1) := by decide +kernel
theorem dM_like_227 : decode yM_like.2.1 227 = .ok (.ifCond .ne 7, 3) := by decide +kernel
theorem dM_like_230 : decode yM_like.2.1 230 = .ok (.iload_n 3, 1) := by decide +kernel
theorem dM_like_231 : decode yM_like.2.1 231 = .ok (.goto 9, 3) := by decide +kernel
theorem dM_like_234 : decode yM_like.2.1 234 = .ok (.aload_n 0, 1) := by decide +kernel
theorem dM_like_235 : decode yM_like.2.1 235 = .ok (.getfield 28, 3) := by decide +kernel
theorem dM_like_238 : decode yM_like.2.1 238 = .ok (.iload_n 3, 1) := by decide +kernel
theorem dM_like_239 : decode yM_like.2.1 239 = .ok (.iaload, 1) := by decide +kernel
theorem dM_like_240 : decode yM_like.2.1 240 = .ok (.ireturn, 1) := by decide +kernel
theorem dM_isSheet_0 : decode yM_isSheet.2.1 0 = .ok (.iload_n 0, 1) := by decide +kernel
theorem dM_isSheet_1 : decode yM_isSheet.2.1 1 = .ok (.i2l, 1) := by decide +kernel
theorem dM_isSheet_2 : decode yM_isSheet.2.1 2 = .ok (.lconst 0, 1) := by decide +kernel
theorem dM_isSheet_3 : decode yM_isSheet.2.1 3 = .ok (.ldc2_w 325, 3) := by decide +kernel
theorem dM_isSheet_6 : decode yM_isSheet.2.1 6 = .ok (.invokestatic 65, 3) := by decide +kernel
theorem dM_isSheet_9 : decode yM_isSheet.2.1 9 = .ok (.ireturn, 1) := by decide +kernel
theorem dM_feed_0 : decode yM_feed.2.1 0 = .ok (.aload_n 0, 1) := by decide +kernel
theorem dM_feed_1 : decode yM_feed.2.1 1 = .ok (.getfield 227, 3) := by decide +kernel
theorem dM_feed_4 : decode yM_feed.2.1 4 = .ok (.bipush 12, 2) := by decide +kernel
theorem dM_feed_6 : decode yM_feed.2.1 6 = .ok (.iadd, 1) := by decide +kernel
theorem dM_feed_7 : decode yM_feed.2.1 7 = .ok (.bipush 96, 2) := by decide +kernel
theorem dM_feed_9 : decode yM_feed.2.1 9 = .ok (.if_icmp .le 6, 3) := by decide +kernel
theorem dM_feed_12 : decode yM_feed.2.1 12 = .ok (.ldc 108, 2) := by decide +kernel
theorem dM_feed_14 : decode yM_feed.2.1 14 = .ok (.ireturn, 1) := by decide +kernel
theorem dM_feed_15 : decode yM_feed.2.1 15 = .ok (.iconst 0, 1) := by decide +kernel
theorem dM_feed_16 : decode yM_feed.2.1 16 = .ok (.istore 4, 2) := by decide +kernel
theorem dM_feed_18 : decode yM_feed.2.1 18 = .ok (.iload 4, 2) := by decide +kernel
theorem dM_feed_20 : decode yM_feed.2.1 20 = .ok (.bipush 12, 2) := by decide +kernel
theorem dM_feed_22 : decode yM_feed.2.1 22 = .ok (.if_icmp .ge 69, 3) := by decide +kernel
theorem dM_feed_25 : decode yM_feed.2.1 25 = .ok (.iload 4, 2) := by decide +kernel
theorem dM_feed_27 : decode yM_feed.2.1 27 = .ok (.iconst 4, 1) := by decide +kernel
theorem dM_feed_28 : decode yM_feed.2.1 28 = .ok (.if_icmp .ge 7, 3) := by decide +kernel
theorem dM_feed_31 : decode yM_feed.2.1 31 = .ok (.iload_n 1, 1) := by decide +kernel
theorem dM_feed_32 : decode yM_feed.2.1 32 = .ok (.goto 15, 3) := by decide +kernel
theorem dM_feed_35 : decode yM_feed.2.1 35 = .ok (.iload 4, 2) := by decide +kernel
theorem dM_feed_37 : decode yM_feed.2.1 37 = .ok (.bipush 8, 2) := by decide +kernel
theorem dM_feed_39 : decode yM_feed.2.1 39 = .ok (.if_icmp .ge 7, 3) := by decide +kernel
theorem dM_feed_42 : decode yM_feed.2.1 42 = .ok (.iload_n 2, 1) := by decide +kernel
theorem dM_feed_43 : decode yM_feed.2.1 43 = .ok (.goto 4, 3) := by decide +kernel
theorem dM_feed_46 : decode yM_feed.2.1 46 = .ok (.iload_n 3, 1) := by decide +kernel
theorem dM_feed_47 : decode yM_feed.2.1 47 = .ok (.istore 5, 2) := by decide +kernel
theorem dM_feed_49 : decode yM_feed.2.1 49 = .ok (.aload_n 0, 1) := by decide +kernel
theorem dM_feed_50 : decode yM_feed.2.1 50 = .ok (.getfield 31, 3) := by decide +kernel
theorem dM_feed_53 : decode yM_feed.2.1 53 = .ok (.aload_n 0, 1) := by decide +kernel
theorem dM_feed_54 : decode yM_feed.2.1 54 = .ok (.getfield 227, 3) := by decide +kernel
theorem dM_feed_57 : decode yM_feed.2.1 57 = .ok (.iload 5, 2) := by decide +kernel
theorem dM_feed_59 : decode yM_feed.2.1 59 = .ok (.bipush 24, 2) := by decide +kernel
theorem dM_feed_61 : decode yM_feed.2.1 61 = .ok (.bipush 8, 2) := by decide +kernel
theorem dM_feed_63 : decode yM_feed.2.1 63 = .ok (.iload 4, 2) := by decide +kernel
theorem dM_feed_65 : decode yM_feed.2.1 65 = .ok (.iconst 4, 1) := by decide +kernel
theorem dM_feed_66 : decode yM_feed.2.1 66 = .ok (.irem, 1) := by decide +kernel
theorem dM_feed_67 : decode yM_feed.2.1 67 = .ok (.imul, 1) := by decide +kernel
theorem dM_feed_68 : decode yM_feed.2.1 68 = .ok (.isub, 1) := by decide +kernel
theorem dM_feed_69 : decode yM_feed.2.1 69 = .ok (.iushr, 1) := by decide +kernel
theorem dM_feed_70 : decode yM_feed.2.1 70 = .ok (.sipush 255, 3) := by decide +kernel
theorem dM_feed_73 : decode yM_feed.2.1 73 = .ok (.iand, 1) := by decide +kernel
theorem dM_feed_74 : decode yM_feed.2.1 74 = .ok (.iastore, 1) := by decide +kernel
theorem dM_feed_75 : decode yM_feed.2.1 75 = .ok (.aload_n 0, 1) := by decide +kernel
theorem dM_feed_76 : decode yM_feed.2.1 76 = .ok (.dup, 1) := by decide +kernel
theorem dM_feed_77 : decode yM_feed.2.1 77 = .ok (.getfield 227, 3) := by decide +kernel
theorem dM_feed_80 : decode yM_feed.2.1 80 = .ok (.iconst 1, 1) := by decide +kernel
theorem dM_feed_81 : decode yM_feed.2.1 81 = .ok (.iadd, 1) := by decide +kernel
theorem dM_feed_82 : decode yM_feed.2.1 82 = .ok (.putfield 227, 3) := by decide +kernel
theorem dM_feed_85 : decode yM_feed.2.1 85 = .ok (.iinc 4 1, 3) := by decide +kernel
theorem dM_feed_88 : decode yM_feed.2.1 88 = .ok (.goto (-70), 3) := by decide +kernel
theorem dM_feed_91 : decode yM_feed.2.1 91 = .ok (.aload_n 0, 1) := by decide +kernel
theorem dM_feed_92 : decode yM_feed.2.1 92 = .ok (.getfield 227, 3) := by decide +kernel
theorem dM_feed_95 : decode yM_feed.2.1 95 = .ok (.ireturn, 1) := by decide +kernel
theorem dM_trim_0 : decode yM_trim.2.1 0 = .ok (.iload_n 1, 1) := by decide +kernel
theorem dM_trim_1 : decode yM_trim.2.1 1 = .ok (.i2l, 1) := by decide +kernel
theorem dM_trim_2 : decode yM_trim.2.1 2 = .ok (.lconst 0, 1) := by decide +kernel
theorem dM_trim_3 : decode yM_trim.2.1 3 = .ok (.aload_n 0, 1) := by decide +kernel
theorem dM_trim_4 : decode yM_trim.2.1 4 = .ok (.getfield 227, 3) := by decide +kernel
theorem dM_trim_7 : decode yM_trim.2.1 7 = .ok (.i2l, 1) := by decide +kernel
theorem dM_trim_8 : decode yM_trim.2.1 8 = .ok (.invokestatic 65, 3) := by decide +kernel
theorem dM_trim_11 : decode yM_trim.2.1 11 = .ok (.ifCond .ne 6, 3) := by decide +kernel
theorem dM_trim_14 : decode yM_trim.2.1 14 = .ok (.ldc 96, 2) := by decide +kernel
theorem dM_trim_16 : decode yM_trim.2.1 16 = .ok (.ireturn, 1) := by decide +kernel
theorem dM_trim_17 : decode yM_trim.2.1 17 = .ok (.aload_n 0, 1) := by decide +kernel
theorem dM_trim_18 : decode yM_trim.2.1 18 = .ok (.iload_n 1, 1) := by decide +kernel
theorem dM_trim_19 : decode yM_trim.2.1 19 = .ok (.putfield 227, 3) := by decide +kernel
theorem dM_trim_22 : decode yM_trim.2.1 22 = .ok (.iload_n 1, 1) := by decide +kernel
theorem dM_trim_23 : decode yM_trim.2.1 23 = .ok (.ireturn, 1) := by decide +kernel
theorem dM_text_0 : decode yM_text.2.1 0 = .ok (.aload_n 0, 1) := by decide +kernel
theorem dM_text_1 : decode yM_text.2.1 1 = .ok (.invokevirtual 317, 3) := by decide +kernel
theorem dM_text_4 : decode yM_text.2.1 4 = .ok (.aload_n 0, 1) := by decide +kernel
theorem dM_text_5 : decode yM_text.2.1 5 = .ok (.iconst 0, 1) := by decide +kernel
theorem dM_text_6 : decode yM_text.2.1 6 = .ok (.putfield 227, 3) := by decide +kernel
theorem dM_text_9 : decode yM_text.2.1 9 = .ok (.aload_n 0, 1) := by decide +kernel
theorem dM_text_10 : decode yM_text.2.1 10 = .ok (.getfield 249, 3) := by decide +kernel
theorem dM_text_13 : decode yM_text.2.1 13 = .ok (.ifCond .eq 11, 3) := by decide +kernel
theorem dM_text_16 : decode yM_text.2.1 16 = .ok (.bipush (-100), 2) := by decide +kernel
theorem dM_text_18 : decode yM_text.2.1 18 = .ok (.aload_n 0, 1) := by decide +kernel
theorem dM_text_19 : decode yM_text.2.1 19 = .ok (.getfield 237, 3) := by decide +kernel
theorem dM_text_22 : decode yM_text.2.1 22 = .ok (.isub, 1) := by decide +kernel
theorem dM_text_23 : decode yM_text.2.1 23 = .ok (.ireturn, 1) := by decide +kernel
theorem dM_text_24 : decode yM_text.2.1 24 = .ok (.aload_n 0, 1) := by decide +kernel
theorem dM_text_25 : decode yM_text.2.1 25 = .ok (.getfield 7, 3) := by decide +kernel
theorem dM_text_28 : decode yM_text.2.1 28 = .ok (.bipush 64, 2) := by decide +kernel
theorem dM_text_30 : decode yM_text.2.1 30 = .ok (.iaload, 1) := by decide +kernel
theorem dM_text_31 : decode yM_text.2.1 31 = .ok (.bipush 14, 2) := by decide +kernel
theorem dM_text_33 : decode yM_text.2.1 33 = .ok (.if_icmp .ne 8, 3) := by decide +kernel
theorem dM_text_36 : decode yM_text.2.1 36 = .ok (.ldc 108, 2) := by decide +kernel
theorem dM_text_38 : decode yM_text.2.1 38 = .ok (.goto 7, 3) := by decide +kernel
theorem dM_text_41 : decode yM_text.2.1 41 = .ok (.aload_n 0, 1) := by decide +kernel
theorem dM_text_42 : decode yM_text.2.1 42 = .ok (.invokevirtual 320, 3) := by decide +kernel
theorem dM_text_45 : decode yM_text.2.1 45 = .ok (.ireturn, 1) := by decide +kernel
theorem dM_parses_0 : decode yM_parses.2.1 0 = .ok (.aload_n 0, 1) := by decide +kernel
theorem dM_parses_1 : decode yM_parses.2.1 1 = .ok (.iconst 0, 1) := by decide +kernel
theorem dM_parses_2 : decode yM_parses.2.1 2 = .ok (.putfield 249, 3) := by decide +kernel
theorem dM_parses_5 : decode yM_parses.2.1 5 = .ok (.aload_n 0, 1) := by decide +kernel
theorem dM_parses_6 : decode yM_parses.2.1 6 = .ok (.iconst 0, 1) := by decide +kernel
theorem dM_parses_7 : decode yM_parses.2.1 7 = .ok (.putfield 234, 3) := by decide +kernel
theorem dM_parses_10 : decode yM_parses.2.1 10 = .ok (.aload_n 0, 1) := by decide +kernel
theorem dM_parses_11 : decode yM_parses.2.1 11 = .ok (.iconst 0, 1) := by decide +kernel
theorem dM_parses_12 : decode yM_parses.2.1 12 = .ok (.putfield 231, 3) := by decide +kernel
theorem dM_parses_15 : decode yM_parses.2.1 15 = .ok (.aload_n 0, 1) := by decide +kernel
theorem dM_parses_16 : decode yM_parses.2.1 16 = .ok (.iconst 0, 1) := by decide +kernel
theorem dM_parses_17 : decode yM_parses.2.1 17 = .ok (.putfield 253, 3) := by decide +kernel
theorem dM_parses_20 : decode yM_parses.2.1 20 = .ok (.aload_n 0, 1) := by decide +kernel
theorem dM_parses_21 : decode yM_parses.2.1 21 = .ok (.iconst 0, 1) := by decide +kernel
theorem dM_parses_22 : decode yM_parses.2.1 22 = .ok (.putfield 266, 3) := by decide +kernel
theorem dM_parses_25 : decode yM_parses.2.1 25 = .ok (.aload_n 0, 1) := by decide +kernel
theorem dM_parses_26 : decode yM_parses.2.1 26 = .ok (.iconst 0, 1) := by decide +kernel
theorem dM_parses_27 : decode yM_parses.2.1 27 = .ok (.putfield 272, 3) := by decide +kernel
theorem dM_parses_30 : decode yM_parses.2.1 30 = .ok (.aload_n 0, 1) := by decide +kernel
theorem dM_parses_31 : decode yM_parses.2.1 31 = .ok (.iconst 0, 1) := by decide +kernel
theorem dM_parses_32 : decode yM_parses.2.1 32 = .ok (.putfield 284, 3) := by decide +kernel
theorem dM_parses_35 : decode yM_parses.2.1 35 = .ok (.aload_n 0, 1) := by decide +kernel
theorem dM_parses_36 : decode yM_parses.2.1 36 = .ok (.invokevirtual 269, 3) := by decide +kernel
theorem dM_parses_39 : decode yM_parses.2.1 39 = .ok (.aload_n 0, 1) := by decide +kernel
theorem dM_parses_40 : decode yM_parses.2.1 40 = .ok (.aload_n 0, 1) := by decide +kernel
theorem dM_parses_41 : decode yM_parses.2.1 41 = .ok (.invokevirtual 314, 3) := by decide +kernel
theorem dM_parses_44 : decode yM_parses.2.1 44 = .ok (.putfield 260, 3) := by decide +kernel
theorem dM_parses_47 : decode yM_parses.2.1 47 = .ok (.aload_n 0, 1) := by decide +kernel
theorem dM_parses_48 : decode yM_parses.2.1 48 = .ok (.getfield 260, 3) := by decide +kernel
theorem dM_parses_51 : decode yM_parses.2.1 51 = .ok (.ifCond .ge 8, 3) := by decide +kernel
theorem dM_parses_54 : decode yM_parses.2.1 54 = .ok (.aload_n 0, 1) := by decide +kernel
theorem dM_parses_55 : decode yM_parses.2.1 55 = .ok (.invokevirtual 275, 3) := by decide +kernel
theorem dM_parses_58 : decode yM_parses.2.1 58 = .ok (.return_, 1) := by decide +kernel
theorem dM_parses_59 : decode yM_parses.2.1 59 = .ok (.aload_n 0, 1) := by decide +kernel
theorem dM_parses_60 : decode yM_parses.2.1 60 = .ok (.invokevirtual 269, 3) := by decide +kernel
theorem dM_parses_63 : decode yM_parses.2.1 63 = .ok (.aload_n 0, 1) := by decide +kernel
theorem dM_parses_64 : decode yM_parses.2.1 64 = .ok (.invokevirtual 278, 3) := by decide +kernel
theorem dM_parses_67 : decode yM_parses.2.1 67 = .ok (.aload_n 0, 1) := by decide +kernel
theorem dM_parses_68 : decode yM_parses.2.1 68 = .ok (.aload_n 0, 1) := by decide +kernel
theorem dM_parses_69 : decode yM_parses.2.1 69 = .ok (.getfield 249, 3) := by decide +kernel
theorem dM_parses_72 : decode yM_parses.2.1 72 = .ok (.ifCond .ne 10, 3) := by decide +kernel
theorem dM_parses_75 : decode yM_parses.2.1 75 = .ok (.aload_n 0, 1) := by decide +kernel
theorem dM_parses_76 : decode yM_parses.2.1 76 = .ok (.getfield 231, 3) := by decide +kernel
theorem dM_parses_79 : decode yM_parses.2.1 79 = .ok (.ifCond .eq 7, 3) := by decide +kernel
theorem dM_parses_82 : decode yM_parses.2.1 82 = .ok (.iconst 1, 1) := by decide +kernel
theorem dM_parses_83 : decode yM_parses.2.1 83 = .ok (.goto 4, 3) := by decide +kernel
theorem dM_parses_86 : decode yM_parses.2.1 86 = .ok (.iconst 0, 1) := by decide +kernel
theorem dM_parses_87 : decode yM_parses.2.1 87 = .ok (.putfield 249, 3) := by decide +kernel
theorem dM_parses_90 : decode yM_parses.2.1 90 = .ok (.return_, 1) := by decide +kernel
theorem dM_next_0 : decode yM_next.2.1 0 = .ok (.aload_n 0, 1) := by decide +kernel
theorem dM_next_1 : decode yM_next.2.1 1 = .ok (.getfield 231, 3) := by decide +kernel
theorem dM_next_4 : decode yM_next.2.1 4 = .ok (.iconst 1, 1) := by decide +kernel
theorem dM_next_5 : decode yM_next.2.1 5 = .ok (.if_icmp .eq 11, 3) := by decide +kernel
theorem dM_next_8 : decode yM_next.2.1 8 = .ok (.aload_n 0, 1) := by decide +kernel
theorem dM_next_9 : decode yM_next.2.1 9 = .ok (.getfield 231, 3) := by decide +kernel
theorem dM_next_12 : decode yM_next.2.1 12 = .ok (.iconst 2, 1) := by decide +kernel
theorem dM_next_13 : decode yM_next.2.1 13 = .ok (.if_icmp .ne 10, 3) := by decide +kernel
theorem dM_next_16 : decode yM_next.2.1 16 = .ok (.aload_n 0, 1) := by decide +kernel
theorem dM_next_17 : decode yM_next.2.1 17 = .ok (.getfield 234, 3) := by decide +kernel
theorem dM_next_20 : decode yM_next.2.1 20 = .ok (.goto 4, 3) := by decide +kernel
theorem dM_next_23 : decode yM_next.2.1 23 = .ok (.iconst (-1), 1) := by decide +kernel
theorem dM_next_24 : decode yM_next.2.1 24 = .ok (.istore_n 1, 1) := by decide +kernel
theorem dM_next_25 : decode yM_next.2.1 25 = .ok (.aload_n 0, 1) := by decide +kernel
theorem dM_next_26 : decode yM_next.2.1 26 = .ok (.aload_n 0, 1) := by decide +kernel
theorem dM_next_27 : decode yM_next.2.1 27 = .ok (.getfield 234, 3) := by decide +kernel
theorem dM_next_30 : decode yM_next.2.1 30 = .ok (.putfield 237, 3) := by decide +kernel
theorem dM_next_33 : decode yM_next.2.1 33 = .ok (.aload_n 0, 1) := by decide +kernel
theorem dM_next_34 : decode yM_next.2.1 34 = .ok (.aload_n 0, 1) := by decide +kernel
theorem dM_next_35 : decode yM_next.2.1 35 = .ok (.getfield 237, 3) := by decide +kernel
theorem dM_next_38 : decode yM_next.2.1 38 = .ok (.invokevirtual 240, 3) := by decide +kernel
theorem dM_next_41 : decode yM_next.2.1 41 = .ok (.bipush 32, 2) := by decide +kernel
theorem dM_next_43 : decode yM_next.2.1 43 = .ok (.if_icmp .ne 16, 3) := by decide +kernel
theorem dM_next_46 : decode yM_next.2.1 46 = .ok (.aload_n 0, 1) := by decide +kernel
theorem dM_next_47 : decode yM_next.2.1 47 = .ok (.dup, 1) := by decide +kernel
theorem dM_next_48 : decode yM_next.2.1 48 = .ok (.getfield 237, 3) := by decide +kernel
theorem dM_next_51 : decode yM_next.2.1 51 = .ok (.iconst 1, 1) := by decide +kernel
theorem dM_next_52 : decode yM_next.2.1 52 = .ok (.iadd, 1) := by decide +kernel
theorem dM_next_53 : decode yM_next.2.1 53 = .ok (.putfield 237, 3) := by decide +kernel
theorem dM_next_56 : decode yM_next.2.1 56 = .ok (.goto (-23), 3) := by decide +kernel
theorem dM_next_59 : decode yM_next.2.1 59 = .ok (.aload_n 0, 1) := by decide +kernel
theorem dM_next_60 : decode yM_next.2.1 60 = .ok (.aload_n 0, 1) := by decide +kernel
theorem dM_next_61 : decode yM_next.2.1 61 = .ok (.getfield 237, 3) := by decide +kernel
theorem dM_next_64 : decode yM_next.2.1 64 = .ok (.invokevirtual 240, 3) := by decide +kernel
theorem dM_next_67 : decode yM_next.2.1 67 = .ok (.istore_n 2, 1) := by decide +kernel
theorem dM_next_68 : decode yM_next.2.1 68 = .ok (.aload_n 0, 1) := by decide +kernel
theorem dM_next_69 : decode yM_next.2.1 69 = .ok (.iload_n 2, 1) := by decide +kernel
theorem dM_next_70 : decode yM_next.2.1 70 = .ok (.ifCond .ge 7, 3) := by decide +kernel
theorem dM_next_73 : decode yM_next.2.1 73 = .ok (.iconst 0, 1) := by decide +kernel
theorem dM_next_74 : decode yM_next.2.1 74 = .ok (.goto 26, 3) := by decide +kernel
theorem dM_next_77 : decode yM_next.2.1 77 = .ok (.iload_n 2, 1) := by decide +kernel
theorem dM_next_78 : decode yM_next.2.1 78 = .ok (.invokestatic 243, 3) := by decide +kernel
theorem dM_next_81 : decode yM_next.2.1 81 = .ok (.ifCond .eq 7, 3) := by decide +kernel
theorem dM_next_84 : decode yM_next.2.1 84 = .ok (.iconst 1, 1) := by decide +kernel
theorem dM_next_85 : decode yM_next.2.1 85 = .ok (.goto 15, 3) := by decide +kernel
theorem dM_next_88 : decode yM_next.2.1 88 = .ok (.iload_n 2, 1) := by decide +kernel
theorem dM_next_89 : decode yM_next.2.1 89 = .ok (.invokestatic 246, 3) := by decide +kernel
theorem dM_next_92 : decode yM_next.2.1 92 = .ok (.ifCond .eq 7, 3) := by decide +kernel
theorem dM_next_95 : decode yM_next.2.1 95 = .ok (.iconst 2, 1) := by decide +kernel
theorem dM_next_96 : decode yM_next.2.1 96 = .ok (.goto 4, 3) := by decide +kernel
theorem dM_next_99 : decode yM_next.2.1 99 = .ok (.iconst 3, 1) := by decide +kernel
theorem dM_next_100 : decode yM_next.2.1 100 = .ok (.putfield 231, 3) := by decide +kernel
theorem dM_next_103 : decode yM_next.2.1 103 = .ok (.aload_n 0, 1) := by decide +kernel
theorem dM_next_104 : decode yM_next.2.1 104 = .ok (.iload_n 2, 1) := by decide +kernel
theorem dM_next_105 : decode yM_next.2.1 105 = .ok (.ifCond .ge 10, 3) := by decide +kernel
theorem dM_next_108 : decode yM_next.2.1 108 = .ok (.aload_n 0, 1) := by decide +kernel
theorem dM_next_109 : decode yM_next.2.1 109 = .ok (.getfield 237, 3) := by decide +kernel
theorem dM_next_112 : decode yM_next.2.1 112 = .ok (.goto 9, 3) := by decide +kernel
theorem dM_next_115 : decode yM_next.2.1 115 = .ok (.aload_n 0, 1) := by decide +kernel
theorem dM_next_116 : decode yM_next.2.1 116 = .ok (.getfield 237, 3) := by decide +kernel
theorem dM_next_119 : decode yM_next.2.1 119 = .ok (.iconst 1, 1) := by decide +kernel
theorem dM_next_120 : decode yM_next.2.1 120 = .ok (.iadd, 1) := by decide +kernel
theorem dM_next_121 : decode yM_next.2.1 121 = .ok (.putfield 234, 3) := by decide +kernel
theorem dM_next_124 : decode yM_next.2.1 124 = .ok (.aload_n 0, 1) := by decide +kernel
theorem dM_next_125 : decode yM_next.2.1 125 = .ok (.getfield 231, 3) := by decide +kernel
theorem dM_next_128 : decode yM_next.2.1 128 = .ok (.iconst 1, 1) := by decide +kernel
theorem dM_next_129 : decode yM_next.2.1 129 = .ok (.if_icmp .ne 17, 3) := by decide +kernel
theorem dM_next_132 : decode yM_next.2.1 132 = .ok (.aload_n 0, 1) := by decide +kernel
theorem dM_next_133 : decode yM_next.2.1 133 = .ok (.aload_n 0, 1) := by decide +kernel
theorem dM_next_134 : decode yM_next.2.1 134 = .ok (.getfield 234, 3) := by decide +kernel
theorem dM_next_137 : decode yM_next.2.1 137 = .ok (.invokevirtual 240, 3) := by decide +kernel
theorem dM_next_140 : decode yM_next.2.1 140 = .ok (.invokestatic 243, 3) := by decide +kernel
theorem dM_next_143 : decode yM_next.2.1 143 = .ok (.ifCond .ne 25, 3) := by decide +kernel
theorem dM_next_146 : decode yM_next.2.1 146 = .ok (.aload_n 0, 1) := by decide +kernel
theorem dM_next_147 : decode yM_next.2.1 147 = .ok (.getfield 231, 3) := by decide +kernel
theorem dM_next_150 : decode yM_next.2.1 150 = .ok (.iconst 2, 1) := by decide +kernel
theorem dM_next_151 : decode yM_next.2.1 151 = .ok (.if_icmp .ne 30, 3) := by decide +kernel
theorem dM_next_154 : decode yM_next.2.1 154 = .ok (.aload_n 0, 1) := by decide +kernel
theorem dM_next_155 : decode yM_next.2.1 155 = .ok (.aload_n 0, 1) := by decide +kernel
theorem dM_next_156 : decode yM_next.2.1 156 = .ok (.getfield 234, 3) := by decide +kernel
theorem dM_next_159 : decode yM_next.2.1 159 = .ok (.invokevirtual 240, 3) := by decide +kernel
theorem dM_next_162 : decode yM_next.2.1 162 = .ok (.invokestatic 246, 3) := by decide +kernel
theorem dM_next_165 : decode yM_next.2.1 165 = .ok (.ifCond .eq 16, 3) := by decide +kernel
theorem dM_next_168 : decode yM_next.2.1 168 = .ok (.aload_n 0, 1) := by decide +kernel
theorem dM_next_169 : decode yM_next.2.1 169 = .ok (.dup, 1) := by decide +kernel
theorem dM_next_170 : decode yM_next.2.1 170 = .ok (.getfield 234, 3) := by decide +kernel
theorem dM_next_173 : decode yM_next.2.1 173 = .ok (.iconst 1, 1) := by decide +kernel
theorem dM_next_174 : decode yM_next.2.1 174 = .ok (.iadd, 1) := by decide +kernel
theorem dM_next_175 : decode yM_next.2.1 175 = .ok (.putfield 234, 3) := by decide +kernel
theorem dM_next_178 : decode yM_next.2.1 178 = .ok (.goto (-54), 3) := by decide +kernel
theorem dM_next_181 : decode yM_next.2.1 181 = .ok (.aload_n 0, 1) := by decide +kernel
theorem dM_next_182 : decode yM_next.2.1 182 = .ok (.aload_n 0, 1) := by decide +kernel
theorem dM_next_183 : decode yM_next.2.1 183 = .ok (.getfield 231, 3) := by decide +kernel
theorem dM_next_186 : decode yM_next.2.1 186 = .ok (.iconst 1, 1) := by decide +kernel
theorem dM_next_187 : decode yM_next.2.1 187 = .ok (.if_icmp .eq 11, 3) := by decide +kernel
theorem dM_next_190 : decode yM_next.2.1 190 = .ok (.aload_n 0, 1) := by decide +kernel
theorem dM_next_191 : decode yM_next.2.1 191 = .ok (.getfield 231, 3) := by decide +kernel
theorem dM_next_194 : decode yM_next.2.1 194 = .ok (.iconst 2, 1) := by decide +kernel
theorem dM_next_195 : decode yM_next.2.1 195 = .ok (.if_icmp .ne 15, 3) := by decide +kernel
theorem dM_next_198 : decode yM_next.2.1 198 = .ok (.aload_n 0, 1) := by decide +kernel
theorem dM_next_199 : decode yM_next.2.1 199 = .ok (.getfield 237, 3) := by decide +kernel
theorem dM_next_202 : decode yM_next.2.1 202 = .ok (.iload_n 1, 1) := by decide +kernel
theorem dM_next_203 : decode yM_next.2.1 203 = .ok (.if_icmp .ne 7, 3) := by decide +kernel
theorem dM_next_206 : decode yM_next.2.1 206 = .ok (.iconst 4, 1) := by decide +kernel
theorem dM_next_207 : decode yM_next.2.1 207 = .ok (.goto 7, 3) := by decide +kernel
theorem dM_next_210 : decode yM_next.2.1 210 = .ok (.aload_n 0, 1) := by decide +kernel
theorem dM_next_211 : decode yM_next.2.1 211 = .ok (.getfield 231, 3) := by decide +kernel
theorem dM_next_214 : decode yM_next.2.1 214 = .ok (.putfield 231, 3) := by decide +kernel
theorem dM_next_217 : decode yM_next.2.1 217 = .ok (.return_, 1) := by decide +kernel
theorem dM_byteAt_0 : decode yM_byteAt.2.1 0 = .ok (.iload_n 1, 1) := by decide +kernel
theorem dM_byteAt_1 : decode yM_byteAt.2.1 1 = .ok (.aload_n 0, 1) := by decide +kernel
theorem dM_byteAt_2 : decode yM_byteAt.2.1 2 = .ok (.getfield 227, 3) := by decide +kernel
theorem dM_byteAt_5 : decode yM_byteAt.2.1 5 = .ok (.if_icmp .ge 12, 3) := by decide +kernel
theorem dM_byteAt_8 : decode yM_byteAt.2.1 8 = .ok (.aload_n 0, 1) := by decide +kernel
theorem dM_byteAt_9 : decode yM_byteAt.2.1 9 = .ok (.getfield 31, 3) := by decide +kernel
theorem dM_byteAt_12 : decode yM_byteAt.2.1 12 = .ok (.iload_n 1, 1) := by decide +kernel
theorem dM_byteAt_13 : decode yM_byteAt.2.1 13 = .ok (.iaload, 1) := by decide +kernel
theorem dM_byteAt_14 : decode yM_byteAt.2.1 14 = .ok (.goto 4, 3) := by decide +kernel
theorem dM_byteAt_17 : decode yM_byteAt.2.1 17 = .ok (.iconst (-1), 1) := by decide +kernel
theorem dM_byteAt_18 : decode yM_byteAt.2.1 18 = .ok (.ireturn, 1) := by decide +kernel
theorem dM_isLetter_0 : decode yM_isLetter.2.1 0 = .ok (.iload_n 0, 1) := by decide +kernel
theorem dM_isLetter_1 : decode yM_isLetter.2.1 1 = .ok (.i2l, 1) := by decide +kernel
theorem dM_isLetter_2 : decode yM_isLetter.2.1 2 = .ok (.ldc2_w 219, 3) := by decide +kernel
theorem dM_isLetter_5 : decode yM_isLetter.2.1 5 = .ok (.ldc2_w 221, 3) := by decide +kernel
theorem dM_isLetter_8 : decode yM_isLetter.2.1 8 = .ok (.invokestatic 65, 3) := by decide +kernel
theorem dM_isLetter_11 : decode yM_isLetter.2.1 11 = .ok (.ireturn, 1) := by decide +kernel
theorem dM_isDigit_0 : decode yM_isDigit.2.1 0 = .ok (.iload_n 0, 1) := by decide +kernel
theorem dM_isDigit_1 : decode yM_isDigit.2.1 1 = .ok (.i2l, 1) := by decide +kernel
theorem dM_isDigit_2 : decode yM_isDigit.2.1 2 = .ok (.ldc2_w 223, 3) := by decide +kernel
theorem dM_isDigit_5 : decode yM_isDigit.2.1 5 = .ok (.ldc2_w 225, 3) := by decide +kernel
theorem dM_isDigit_8 : decode yM_isDigit.2.1 8 = .ok (.invokestatic 65, 3) := by decide +kernel
theorem dM_isDigit_11 : decode yM_isDigit.2.1 11 = .ok (.ireturn, 1) := by decide +kernel
theorem dM_keyHere_0 : decode yM_keyHere.2.1 0 = .ok (.aload_n 0, 1) := by decide +kernel
theorem dM_keyHere_1 : decode yM_keyHere.2.1 1 = .ok (.bipush 108, 2) := by decide +kernel
theorem dM_keyHere_3 : decode yM_keyHere.2.1 3 = .ok (.bipush 111, 2) := by decide +kernel
theorem dM_keyHere_5 : decode yM_keyHere.2.1 5 = .ok (.bipush 111, 2) := by decide +kernel
theorem dM_keyHere_7 : decode yM_keyHere.2.1 7 = .ok (.bipush 107, 2) := by decide +kernel
theorem dM_keyHere_9 : decode yM_keyHere.2.1 9 = .ok (.invokevirtual 256, 3) := by decide +kernel
theorem dM_keyHere_12 : decode yM_keyHere.2.1 12 = .ok (.ifCond .eq 7, 3) := by decide +kernel
theorem dM_keyHere_15 : decode yM_keyHere.2.1 15 = .ok (.iconst 0, 1) := by decide +kernel
theorem dM_keyHere_16 : decode yM_keyHere.2.1 16 = .ok (.goto 41, 3) := by decide +kernel
theorem dM_keyHere_19 : decode yM_keyHere.2.1 19 = .ok (.aload_n 0, 1) := by decide +kernel
theorem dM_keyHere_20 : decode yM_keyHere.2.1 20 = .ok (.bipush 102, 2) := by decide +kernel
theorem dM_keyHere_22 : decode yM_keyHere.2.1 22 = .ok (.bipush 101, 2) := by decide +kernel
theorem dM_keyHere_24 : decode yM_keyHere.2.1 24 = .ok (.bipush 101, 2) := by decide +kernel
theorem dM_keyHere_26 : decode yM_keyHere.2.1 26 = .ok (.iconst 0, 1) := by decide +kernel
theorem dM_keyHere_27 : decode yM_keyHere.2.1 27 = .ok (.invokevirtual 256, 3) := by decide +kernel
theorem dM_keyHere_30 : decode yM_keyHere.2.1 30 = .ok (.ifCond .eq 7, 3) := by decide +kernel
theorem dM_keyHere_33 : decode yM_keyHere.2.1 33 = .ok (.iconst 1, 1) := by decide +kernel
theorem dM_keyHere_34 : decode yM_keyHere.2.1 34 = .ok (.goto 23, 3) := by decide +kernel
theorem dM_keyHere_37 : decode yM_keyHere.2.1 37 = .ok (.aload_n 0, 1) := by decide +kernel
theorem dM_keyHere_38 : decode yM_keyHere.2.1 38 = .ok (.bipush 102, 2) := by decide +kernel
theorem dM_keyHere_40 : decode yM_keyHere.2.1 40 = .ok (.bipush 105, 2) := by decide +kernel
theorem dM_keyHere_42 : decode yM_keyHere.2.1 42 = .ok (.bipush 110, 2) := by decide +kernel
theorem dM_keyHere_44 : decode yM_keyHere.2.1 44 = .ok (.bipush 101, 2) := by decide +kernel
theorem dM_keyHere_46 : decode yM_keyHere.2.1 46 = .ok (.invokevirtual 256, 3) := by decide +kernel
theorem dM_keyHere_49 : decode yM_keyHere.2.1 49 = .ok (.ifCond .eq 7, 3) := by decide +kernel
theorem dM_keyHere_52 : decode yM_keyHere.2.1 52 = .ok (.iconst 2, 1) := by decide +kernel
theorem dM_keyHere_53 : decode yM_keyHere.2.1 53 = .ok (.goto 4, 3) := by decide +kernel
theorem dM_keyHere_56 : decode yM_keyHere.2.1 56 = .ok (.iconst (-1), 1) := by decide +kernel
theorem dM_keyHere_57 : decode yM_keyHere.2.1 57 = .ok (.ireturn, 1) := by decide +kernel
theorem dM_isWord_0 : decode yM_isWord.2.1 0 = .ok (.aload_n 0, 1) := by decide +kernel
theorem dM_isWord_1 : decode yM_isWord.2.1 1 = .ok (.aload_n 0, 1) := by decide +kernel
theorem dM_isWord_2 : decode yM_isWord.2.1 2 = .ok (.getfield 237, 3) := by decide +kernel
theorem dM_isWord_5 : decode yM_isWord.2.1 5 = .ok (.invokevirtual 240, 3) := by decide +kernel
theorem dM_isWord_8 : decode yM_isWord.2.1 8 = .ok (.iload_n 1, 1) := by decide +kernel
theorem dM_isWord_9 : decode yM_isWord.2.1 9 = .ok (.if_icmp .ne 35, 3) := by decide +kernel
theorem dM_isWord_12 : decode yM_isWord.2.1 12 = .ok (.aload_n 0, 1) := by decide +kernel
theorem dM_isWord_13 : decode yM_isWord.2.1 13 = .ok (.aload_n 0, 1) := by decide +kernel
theorem dM_isWord_14 : decode yM_isWord.2.1 14 = .ok (.getfield 237, 3) := by decide +kernel
theorem dM_isWord_17 : decode yM_isWord.2.1 17 = .ok (.iconst 1, 1) := by decide +kernel
theorem dM_isWord_18 : decode yM_isWord.2.1 18 = .ok (.iadd, 1) := by decide +kernel
theorem dM_isWord_19 : decode yM_isWord.2.1 19 = .ok (.invokevirtual 240, 3) := by decide +kernel
theorem dM_isWord_22 : decode yM_isWord.2.1 22 = .ok (.iload_n 2, 1) := by decide +kernel
theorem dM_isWord_23 : decode yM_isWord.2.1 23 = .ok (.if_icmp .ne 21, 3) := by decide +kernel
theorem dM_isWord_26 : decode yM_isWord.2.1 26 = .ok (.aload_n 0, 1) := by decide +kernel
theorem dM_isWord_27 : decode yM_isWord.2.1 27 = .ok (.aload_n 0, 1) := by decide +kernel
theorem dM_isWord_28 : decode yM_isWord.2.1 28 = .ok (.getfield 237, 3) := by decide +kernel
theorem dM_isWord_31 : decode yM_isWord.2.1 31 = .ok (.iconst 2, 1) := by decide +kernel
theorem dM_isWord_32 : decode yM_isWord.2.1 32 = .ok (.iadd, 1) := by decide +kernel
theorem dM_isWord_33 : decode yM_isWord.2.1 33 = .ok (.invokevirtual 240, 3) := by decide +kernel
theorem dM_isWord_36 : decode yM_isWord.2.1 36 = .ok (.iload_n 3, 1) := by decide +kernel
theorem dM_isWord_37 : decode yM_isWord.2.1 37 = .ok (.if_icmp .ne 7, 3) := by decide +kernel
theorem dM_isWord_40 : decode yM_isWord.2.1 40 = .ok (.iconst 1, 1) := by decide +kernel
theorem dM_isWord_41 : decode yM_isWord.2.1 41 = .ok (.goto 4, 3) := by decide +kernel
theorem dM_isWord_44 : decode yM_isWord.2.1 44 = .ok (.iconst 0, 1) := by decide +kernel
theorem dM_isWord_45 : decode yM_isWord.2.1 45 = .ok (.istore 5, 2) := by decide +kernel
theorem dM_isWord_47 : decode yM_isWord.2.1 47 = .ok (.aload_n 0, 1) := by decide +kernel
theorem dM_isWord_48 : decode yM_isWord.2.1 48 = .ok (.getfield 231, 3) := by decide +kernel
theorem dM_isWord_51 : decode yM_isWord.2.1 51 = .ok (.iconst 1, 1) := by decide +kernel
theorem dM_isWord_52 : decode yM_isWord.2.1 52 = .ok (.if_icmp .ne 61, 3) := by decide +kernel
theorem dM_isWord_55 : decode yM_isWord.2.1 55 = .ok (.iload 5, 2) := by decide +kernel
theorem dM_isWord_57 : decode yM_isWord.2.1 57 = .ok (.ifCond .eq 56, 3) := by decide +kernel
theorem dM_isWord_60 : decode yM_isWord.2.1 60 = .ok (.iload 4, 2) := by decide +kernel
theorem dM_isWord_62 : decode yM_isWord.2.1 62 = .ok (.ifCond .ne 19, 3) := by decide +kernel
theorem dM_isWord_65 : decode yM_isWord.2.1 65 = .ok (.aload_n 0, 1) := by decide +kernel
theorem dM_isWord_66 : decode yM_isWord.2.1 66 = .ok (.getfield 234, 3) := by decide +kernel
theorem dM_isWord_69 : decode yM_isWord.2.1 69 = .ok (.aload_n 0, 1) := by decide +kernel
theorem dM_isWord_70 : decode yM_isWord.2.1 70 = .ok (.getfield 237, 3) := by decide +kernel
theorem dM_isWord_73 : decode yM_isWord.2.1 73 = .ok (.iconst 3, 1) := by decide +kernel
theorem dM_isWord_74 : decode yM_isWord.2.1 74 = .ok (.iadd, 1) := by decide +kernel
theorem dM_isWord_75 : decode yM_isWord.2.1 75 = .ok (.if_icmp .ne 38, 3) := by decide +kernel
theorem dM_isWord_78 : decode yM_isWord.2.1 78 = .ok (.goto 31, 3) := by decide +kernel
theorem dM_isWord_81 : decode yM_isWord.2.1 81 = .ok (.aload_n 0, 1) := by decide +kernel
theorem dM_isWord_82 : decode yM_isWord.2.1 82 = .ok (.getfield 234, 3) := by decide +kernel
theorem dM_isWord_85 : decode yM_isWord.2.1 85 = .ok (.aload_n 0, 1) := by decide +kernel
theorem dM_isWord_86 : decode yM_isWord.2.1 86 = .ok (.getfield 237, 3) := by decide +kernel
theorem dM_isWord_89 : decode yM_isWord.2.1 89 = .ok (.iconst 4, 1) := by decide +kernel
theorem dM_isWord_90 : decode yM_isWord.2.1 90 = .ok (.iadd, 1) := by decide +kernel
theorem dM_isWord_91 : decode yM_isWord.2.1 91 = .ok (.if_icmp .ne 22, 3) := by decide +kernel
theorem dM_isWord_94 : decode yM_isWord.2.1 94 = .ok (.aload_n 0, 1) := by decide +kernel
theorem dM_isWord_95 : decode yM_isWord.2.1 95 = .ok (.aload_n 0, 1) := by decide +kernel
theorem dM_isWord_96 : decode yM_isWord.2.1 96 = .ok (.getfield 237, 3) := by decide +kernel
theorem dM_isWord_99 : decode yM_isWord.2.1 99 = .ok (.iconst 3, 1) := by decide +kernel
theorem dM_isWord_100 : decode yM_isWord.2.1 100 = .ok (.iadd, 1) := by decide +kernel
theorem dM_isWord_101 : decode yM_isWord.2.1 101 = .ok (.invokevirtual 240, 3) := by decide +kernel
theorem dM_isWord_104 : decode yM_isWord.2.1 104 = .ok (.iload 4, 2) := by decide +kernel
theorem dM_isWord_106 : decode yM_isWord.2.1 106 = .ok (.if_icmp .ne 7, 3) := by decide +kernel
theorem dM_isWord_109 : decode yM_isWord.2.1 109 = .ok (.iconst 1, 1) := by decide +kernel
theorem dM_isWord_110 : decode yM_isWord.2.1 110 = .ok (.goto 4, 3) := by decide +kernel
theorem dM_isWord_113 : decode yM_isWord.2.1 113 = .ok (.iconst 0, 1) := by decide +kernel
theorem dM_isWord_114 : decode yM_isWord.2.1 114 = .ok (.ireturn, 1) := by decide +kernel
theorem dM_wrong_0 : decode yM_wrong.2.1 0 = .ok (.aload_n 0, 1) := by decide +kernel
theorem dM_wrong_1 : decode yM_wrong.2.1 1 = .ok (.iconst 1, 1) := by decide +kernel
theorem dM_wrong_2 : decode yM_wrong.2.1 2 = .ok (.putfield 249, 3) := by decide +kernel
theorem dM_wrong_5 : decode yM_wrong.2.1 5 = .ok (.return_, 1) := by decide +kernel
theorem dM_either_0 : decode yM_either.2.1 0 = .ok (.aload_n 0, 1) := by decide +kernel
theorem dM_either_1 : decode yM_either.2.1 1 = .ok (.invokevirtual 311, 3) := by decide +kernel
theorem dM_either_4 : decode yM_either.2.1 4 = .ok (.aload_n 0, 1) := by decide +kernel
theorem dM_either_5 : decode yM_either.2.1 5 = .ok (.bipush 124, 2) := by decide +kernel
theorem dM_either_7 : decode yM_either.2.1 7 = .ok (.invokevirtual 281, 3) := by decide +kernel
theorem dM_either_10 : decode yM_either.2.1 10 = .ok (.ifCond .eq 21, 3) := by decide +kernel
theorem dM_either_13 : decode yM_either.2.1 13 = .ok (.aload_n 0, 1) := by decide +kernel
theorem dM_either_14 : decode yM_either.2.1 14 = .ok (.invokevirtual 269, 3) := by decide +kernel
theorem dM_either_17 : decode yM_either.2.1 17 = .ok (.aload_n 0, 1) := by decide +kernel
theorem dM_either_18 : decode yM_either.2.1 18 = .ok (.invokevirtual 311, 3) := by decide +kernel
theorem dM_either_21 : decode yM_either.2.1 21 = .ok (.aload_n 0, 1) := by decide +kernel
theorem dM_either_22 : decode yM_either.2.1 22 = .ok (.sipush (-134), 3) := by decide +kernel
theorem dM_either_25 : decode yM_either.2.1 25 = .ok (.invokevirtual 263, 3) := by decide +kernel
theorem dM_either_28 : decode yM_either.2.1 28 = .ok (.goto (-24), 3) := by decide +kernel
theorem dM_either_31 : decode yM_either.2.1 31 = .ok (.return_, 1) := by decide +kernel
theorem dM_both_0 : decode yM_both.2.1 0 = .ok (.aload_n 0, 1) := by decide +kernel
theorem dM_both_1 : decode yM_both.2.1 1 = .ok (.invokevirtual 308, 3) := by decide +kernel
theorem dM_both_4 : decode yM_both.2.1 4 = .ok (.aload_n 0, 1) := by decide +kernel
theorem dM_both_5 : decode yM_both.2.1 5 = .ok (.bipush 38, 2) := by decide +kernel
theorem dM_both_7 : decode yM_both.2.1 7 = .ok (.invokevirtual 281, 3) := by decide +kernel
theorem dM_both_10 : decode yM_both.2.1 10 = .ok (.ifCond .eq 20, 3) := by decide +kernel
theorem dM_both_13 : decode yM_both.2.1 13 = .ok (.aload_n 0, 1) := by decide +kernel
theorem dM_both_14 : decode yM_both.2.1 14 = .ok (.invokevirtual 269, 3) := by decide +kernel
theorem dM_both_17 : decode yM_both.2.1 17 = .ok (.aload_n 0, 1) := by decide +kernel
theorem dM_both_18 : decode yM_both.2.1 18 = .ok (.invokevirtual 308, 3) := by decide +kernel
theorem dM_both_21 : decode yM_both.2.1 21 = .ok (.aload_n 0, 1) := by decide +kernel
theorem dM_both_22 : decode yM_both.2.1 22 = .ok (.bipush (-48), 2) := by decide +kernel
theorem dM_both_24 : decode yM_both.2.1 24 = .ok (.invokevirtual 263, 3) := by decide +kernel
theorem dM_both_27 : decode yM_both.2.1 27 = .ok (.goto (-23), 3) := by decide +kernel
theorem dM_both_30 : decode yM_both.2.1 30 = .ok (.return_, 1) := by decide +kernel
theorem dM_test_0 : decode yM_test.2.1 0 = .ok (.aload_n 0, 1) := by decide +kernel
theorem dM_test_1 : decode yM_test.2.1 1 = .ok (.invokevirtual 305, 3) := by decide +kernel
theorem dM_test_4 : decode yM_test.2.1 4 = .ok (.aload_n 0, 1) := by decide +kernel
theorem dM_test_5 : decode yM_test.2.1 5 = .ok (.bipush 60, 2) := by decide +kernel
theorem dM_test_7 : decode yM_test.2.1 7 = .ok (.invokevirtual 281, 3) := by decide +kernel
theorem dM_test_10 : decode yM_test.2.1 10 = .ok (.ifCond .ne 21, 3) := by decide +kernel
theorem dM_test_13 : decode yM_test.2.1 13 = .ok (.aload_n 0, 1) := by decide +kernel
theorem dM_test_14 : decode yM_test.2.1 14 = .ok (.bipush 61, 2) := by decide +kernel
theorem dM_test_16 : decode yM_test.2.1 16 = .ok (.invokevirtual 281, 3) := by decide +kernel
theorem dM_test_19 : decode yM_test.2.1 19 = .ok (.ifCond .ne 12, 3) := by decide +kernel
theorem dM_test_22 : decode yM_test.2.1 22 = .ok (.aload_n 0, 1) := by decide +kernel
theorem dM_test_23 : decode yM_test.2.1 23 = .ok (.bipush 62, 2) := by decide +kernel
theorem dM_test_25 : decode yM_test.2.1 25 = .ok (.invokevirtual 281, 3) := by decide +kernel
theorem dM_test_28 : decode yM_test.2.1 28 = .ok (.ifCond .eq 28, 3) := by decide +kernel
theorem dM_test_31 : decode yM_test.2.1 31 = .ok (.aload_n 0, 1) := by decide +kernel
theorem dM_test_32 : decode yM_test.2.1 32 = .ok (.aload_n 0, 1) := by decide +kernel
theorem dM_test_33 : decode yM_test.2.1 33 = .ok (.getfield 237, 3) := by decide +kernel
theorem dM_test_36 : decode yM_test.2.1 36 = .ok (.invokevirtual 240, 3) := by decide +kernel
theorem dM_test_39 : decode yM_test.2.1 39 = .ok (.istore_n 1, 1) := by decide +kernel
theorem dM_test_40 : decode yM_test.2.1 40 = .ok (.aload_n 0, 1) := by decide +kernel
theorem dM_test_41 : decode yM_test.2.1 41 = .ok (.invokevirtual 269, 3) := by decide +kernel
theorem dM_test_44 : decode yM_test.2.1 44 = .ok (.aload_n 0, 1) := by decide +kernel
theorem dM_test_45 : decode yM_test.2.1 45 = .ok (.invokevirtual 305, 3) := by decide +kernel
theorem dM_test_48 : decode yM_test.2.1 48 = .ok (.aload_n 0, 1) := by decide +kernel
theorem dM_test_49 : decode yM_test.2.1 49 = .ok (.bipush (-10), 2) := by decide +kernel
theorem dM_test_51 : decode yM_test.2.1 51 = .ok (.iload_n 1, 1) := by decide +kernel
theorem dM_test_52 : decode yM_test.2.1 52 = .ok (.isub, 1) := by decide +kernel
theorem dM_test_53 : decode yM_test.2.1 53 = .ok (.invokevirtual 263, 3) := by decide +kernel
theorem dM_test_56 : decode yM_test.2.1 56 = .ok (.return_, 1) := by decide +kernel
theorem dM_sum_0 : decode yM_sum.2.1 0 = .ok (.aload_n 0, 1) := by decide +kernel
theorem dM_sum_1 : decode yM_sum.2.1 1 = .ok (.invokevirtual 302, 3) := by decide +kernel
theorem dM_sum_4 : decode yM_sum.2.1 4 = .ok (.aload_n 0, 1) := by decide +kernel
theorem dM_sum_5 : decode yM_sum.2.1 5 = .ok (.bipush 43, 2) := by decide +kernel
theorem dM_sum_7 : decode yM_sum.2.1 7 = .ok (.invokevirtual 281, 3) := by decide +kernel
theorem dM_sum_10 : decode yM_sum.2.1 10 = .ok (.ifCond .ne 12, 3) := by decide +kernel
theorem dM_sum_13 : decode yM_sum.2.1 13 = .ok (.aload_n 0, 1) := by decide +kernel
theorem dM_sum_14 : decode yM_sum.2.1 14 = .ok (.bipush 45, 2) := by decide +kernel
theorem dM_sum_16 : decode yM_sum.2.1 16 = .ok (.invokevirtual 281, 3) := by decide +kernel
theorem dM_sum_19 : decode yM_sum.2.1 19 = .ok (.ifCond .eq 31, 3) := by decide +kernel
theorem dM_sum_22 : decode yM_sum.2.1 22 = .ok (.aload_n 0, 1) := by decide +kernel
theorem dM_sum_23 : decode yM_sum.2.1 23 = .ok (.aload_n 0, 1) := by decide +kernel
theorem dM_sum_24 : decode yM_sum.2.1 24 = .ok (.getfield 237, 3) := by decide +kernel
theorem dM_sum_27 : decode yM_sum.2.1 27 = .ok (.invokevirtual 240, 3) := by decide +kernel
theorem dM_sum_30 : decode yM_sum.2.1 30 = .ok (.istore_n 1, 1) := by decide +kernel
theorem dM_sum_31 : decode yM_sum.2.1 31 = .ok (.aload_n 0, 1) := by decide +kernel
theorem dM_sum_32 : decode yM_sum.2.1 32 = .ok (.invokevirtual 269, 3) := by decide +kernel
theorem dM_sum_35 : decode yM_sum.2.1 35 = .ok (.aload_n 0, 1) := by decide +kernel
theorem dM_sum_36 : decode yM_sum.2.1 36 = .ok (.invokevirtual 302, 3) := by decide +kernel
theorem dM_sum_39 : decode yM_sum.2.1 39 = .ok (.aload_n 0, 1) := by decide +kernel
theorem dM_sum_40 : decode yM_sum.2.1 40 = .ok (.bipush (-10), 2) := by decide +kernel
theorem dM_sum_42 : decode yM_sum.2.1 42 = .ok (.iload_n 1, 1) := by decide +kernel
theorem dM_sum_43 : decode yM_sum.2.1 43 = .ok (.isub, 1) := by decide +kernel
theorem dM_sum_44 : decode yM_sum.2.1 44 = .ok (.invokevirtual 263, 3) := by decide +kernel
theorem dM_sum_47 : decode yM_sum.2.1 47 = .ok (.goto (-43), 3) := by decide +kernel
theorem dM_sum_50 : decode yM_sum.2.1 50 = .ok (.return_, 1) := by decide +kernel
theorem dM_term_0 : decode yM_term.2.1 0 = .ok (.aload_n 0, 1) := by decide +kernel
theorem dM_term_1 : decode yM_term.2.1 1 = .ok (.invokevirtual 287, 3) := by decide +kernel
theorem dM_term_4 : decode yM_term.2.1 4 = .ok (.aload_n 0, 1) := by decide +kernel
theorem dM_term_5 : decode yM_term.2.1 5 = .ok (.bipush 42, 2) := by decide +kernel
theorem dM_term_7 : decode yM_term.2.1 7 = .ok (.invokevirtual 281, 3) := by decide +kernel
theorem dM_term_10 : decode yM_term.2.1 10 = .ok (.ifCond .ne 12, 3) := by decide +kernel
theorem dM_term_13 : decode yM_term.2.1 13 = .ok (.aload_n 0, 1) := by decide +kernel
theorem dM_term_14 : decode yM_term.2.1 14 = .ok (.bipush 47, 2) := by decide +kernel
theorem dM_term_16 : decode yM_term.2.1 16 = .ok (.invokevirtual 281, 3) := by decide +kernel
theorem dM_term_19 : decode yM_term.2.1 19 = .ok (.ifCond .eq 31, 3) := by decide +kernel
theorem dM_term_22 : decode yM_term.2.1 22 = .ok (.aload_n 0, 1) := by decide +kernel
theorem dM_term_23 : decode yM_term.2.1 23 = .ok (.aload_n 0, 1) := by decide +kernel
theorem dM_term_24 : decode yM_term.2.1 24 = .ok (.getfield 237, 3) := by decide +kernel
theorem dM_term_27 : decode yM_term.2.1 27 = .ok (.invokevirtual 240, 3) := by decide +kernel
theorem dM_term_30 : decode yM_term.2.1 30 = .ok (.istore_n 1, 1) := by decide +kernel
theorem dM_term_31 : decode yM_term.2.1 31 = .ok (.aload_n 0, 1) := by decide +kernel
theorem dM_term_32 : decode yM_term.2.1 32 = .ok (.invokevirtual 269, 3) := by decide +kernel
theorem dM_term_35 : decode yM_term.2.1 35 = .ok (.aload_n 0, 1) := by decide +kernel
theorem dM_term_36 : decode yM_term.2.1 36 = .ok (.invokevirtual 287, 3) := by decide +kernel
theorem dM_term_39 : decode yM_term.2.1 39 = .ok (.aload_n 0, 1) := by decide +kernel
theorem dM_term_40 : decode yM_term.2.1 40 = .ok (.bipush (-10), 2) := by decide +kernel
theorem dM_term_42 : decode yM_term.2.1 42 = .ok (.iload_n 1, 1) := by decide +kernel
theorem dM_term_43 : decode yM_term.2.1 43 = .ok (.isub, 1) := by decide +kernel
theorem dM_term_44 : decode yM_term.2.1 44 = .ok (.invokevirtual 263, 3) := by decide +kernel
theorem dM_term_47 : decode yM_term.2.1 47 = .ok (.goto (-43), 3) := by decide +kernel
theorem dM_term_50 : decode yM_term.2.1 50 = .ok (.return_, 1) := by decide +kernel
theorem dM_piece_0 : decode yM_piece.2.1 0 = .ok (.aload_n 0, 1) := by decide +kernel
theorem dM_piece_1 : decode yM_piece.2.1 1 = .ok (.getfield 249, 3) := by decide +kernel
theorem dM_piece_4 : decode yM_piece.2.1 4 = .ok (.ifCond .eq 4, 3) := by decide +kernel
theorem dM_piece_7 : decode yM_piece.2.1 7 = .ok (.return_, 1) := by decide +kernel
theorem dM_piece_8 : decode yM_piece.2.1 8 = .ok (.aload_n 0, 1) := by decide +kernel
theorem dM_piece_9 : decode yM_piece.2.1 9 = .ok (.invokevirtual 290, 3) := by decide +kernel
theorem dM_piece_12 : decode yM_piece.2.1 12 = .ok (.istore_n 1, 1) := by decide +kernel
theorem dM_piece_13 : decode yM_piece.2.1 13 = .ok (.aload_n 0, 1) := by decide +kernel
theorem dM_piece_14 : decode yM_piece.2.1 14 = .ok (.getfield 231, 3) := by decide +kernel
theorem dM_piece_17 : decode yM_piece.2.1 17 = .ok (.iconst 2, 1) := by decide +kernel
theorem dM_piece_18 : decode yM_piece.2.1 18 = .ok (.if_icmp .ne 23, 3) := by decide +kernel
theorem dM_piece_21 : decode yM_piece.2.1 21 = .ok (.aload_n 0, 1) := by decide +kernel
theorem dM_piece_22 : decode yM_piece.2.1 22 = .ok (.getfield 234, 3) := by decide +kernel
theorem dM_piece_25 : decode yM_piece.2.1 25 = .ok (.aload_n 0, 1) := by decide +kernel
theorem dM_piece_26 : decode yM_piece.2.1 26 = .ok (.getfield 237, 3) := by decide +kernel
theorem dM_piece_29 : decode yM_piece.2.1 29 = .ok (.isub, 1) := by decide +kernel
theorem dM_piece_30 : decode yM_piece.2.1 30 = .ok (.iconst 4, 1) := by decide +kernel
theorem dM_piece_31 : decode yM_piece.2.1 31 = .ok (.if_icmp .gt 10, 3) := by decide +kernel
theorem dM_piece_34 : decode yM_piece.2.1 34 = .ok (.aload_n 0, 1) := by decide +kernel
theorem dM_piece_35 : decode yM_piece.2.1 35 = .ok (.invokevirtual 293, 3) := by decide +kernel
theorem dM_piece_38 : decode yM_piece.2.1 38 = .ok (.goto 67, 3) := by decide +kernel
theorem dM_piece_41 : decode yM_piece.2.1 41 = .ok (.iload_n 1, 1) := by decide +kernel
theorem dM_piece_42 : decode yM_piece.2.1 42 = .ok (.ifCond .lt 27, 3) := by decide +kernel
theorem dM_piece_45 : decode yM_piece.2.1 45 = .ok (.aload_n 0, 1) := by decide +kernel
theorem dM_piece_46 : decode yM_piece.2.1 46 = .ok (.iconst (-1), 1) := by decide +kernel
theorem dM_piece_47 : decode yM_piece.2.1 47 = .ok (.iload_n 1, 1) := by decide +kernel
theorem dM_piece_48 : decode yM_piece.2.1 48 = .ok (.isub, 1) := by decide +kernel
theorem dM_piece_49 : decode yM_piece.2.1 49 = .ok (.invokevirtual 263, 3) := by decide +kernel
theorem dM_piece_52 : decode yM_piece.2.1 52 = .ok (.aload_n 0, 1) := by decide +kernel
theorem dM_piece_53 : decode yM_piece.2.1 53 = .ok (.dup, 1) := by decide +kernel
theorem dM_piece_54 : decode yM_piece.2.1 54 = .ok (.getfield 266, 3) := by decide +kernel
theorem dM_piece_57 : decode yM_piece.2.1 57 = .ok (.iconst 1, 1) := by decide +kernel
theorem dM_piece_58 : decode yM_piece.2.1 58 = .ok (.iadd, 1) := by decide +kernel
theorem dM_piece_59 : decode yM_piece.2.1 59 = .ok (.putfield 266, 3) := by decide +kernel
theorem dM_piece_62 : decode yM_piece.2.1 62 = .ok (.aload_n 0, 1) := by decide +kernel
theorem dM_piece_63 : decode yM_piece.2.1 63 = .ok (.invokevirtual 269, 3) := by decide +kernel
theorem dM_piece_66 : decode yM_piece.2.1 66 = .ok (.goto 39, 3) := by decide +kernel
theorem dM_piece_69 : decode yM_piece.2.1 69 = .ok (.aload_n 0, 1) := by decide +kernel
theorem dM_piece_70 : decode yM_piece.2.1 70 = .ok (.bipush 33, 2) := by decide +kernel
theorem dM_piece_72 : decode yM_piece.2.1 72 = .ok (.invokevirtual 281, 3) := by decide +kernel
theorem dM_piece_75 : decode yM_piece.2.1 75 = .ok (.ifCond .eq 10, 3) := by decide +kernel
theorem dM_piece_78 : decode yM_piece.2.1 78 = .ok (.aload_n 0, 1) := by decide +kernel
theorem dM_piece_79 : decode yM_piece.2.1 79 = .ok (.invokevirtual 296, 3) := by decide +kernel
theorem dM_piece_82 : decode yM_piece.2.1 82 = .ok (.goto 23, 3) := by decide +kernel
theorem dM_piece_85 : decode yM_piece.2.1 85 = .ok (.aload_n 0, 1) := by decide +kernel
theorem dM_piece_86 : decode yM_piece.2.1 86 = .ok (.bipush 40, 2) := by decide +kernel
theorem dM_piece_88 : decode yM_piece.2.1 88 = .ok (.invokevirtual 281, 3) := by decide +kernel
theorem dM_piece_91 : decode yM_piece.2.1 91 = .ok (.ifCond .eq 10, 3) := by decide +kernel
theorem dM_piece_94 : decode yM_piece.2.1 94 = .ok (.aload_n 0, 1) := by decide +kernel
theorem dM_piece_95 : decode yM_piece.2.1 95 = .ok (.invokevirtual 299, 3) := by decide +kernel
theorem dM_piece_98 : decode yM_piece.2.1 98 = .ok (.goto 7, 3) := by decide +kernel
theorem dM_piece_101 : decode yM_piece.2.1 101 = .ok (.aload_n 0, 1) := by decide +kernel
theorem dM_piece_102 : decode yM_piece.2.1 102 = .ok (.invokevirtual 275, 3) := by decide +kernel
theorem dM_piece_105 : decode yM_piece.2.1 105 = .ok (.return_, 1) := by decide +kernel
theorem dM_nameHere_0 : decode yM_nameHere.2.1 0 = .ok (.aload_n 0, 1) := by decide +kernel
theorem dM_nameHere_1 : decode yM_nameHere.2.1 1 = .ok (.getfield 231, 3) := by decide +kernel
theorem dM_nameHere_4 : decode yM_nameHere.2.1 4 = .ok (.iconst 1, 1) := by decide +kernel
theorem dM_nameHere_5 : decode yM_nameHere.2.1 5 = .ok (.if_icmp .ne 27, 3) := by decide +kernel
theorem dM_nameHere_8 : decode yM_nameHere.2.1 8 = .ok (.aload_n 0, 1) := by decide +kernel
theorem dM_nameHere_9 : decode yM_nameHere.2.1 9 = .ok (.getfield 234, 3) := by decide +kernel
theorem dM_nameHere_12 : decode yM_nameHere.2.1 12 = .ok (.aload_n 0, 1) := by decide +kernel
theorem dM_nameHere_13 : decode yM_nameHere.2.1 13 = .ok (.getfield 237, 3) := by decide +kernel
theorem dM_nameHere_16 : decode yM_nameHere.2.1 16 = .ok (.iconst 1, 1) := by decide +kernel
theorem dM_nameHere_17 : decode yM_nameHere.2.1 17 = .ok (.iadd, 1) := by decide +kernel
theorem dM_nameHere_18 : decode yM_nameHere.2.1 18 = .ok (.if_icmp .ne 14, 3) := by decide +kernel
theorem dM_nameHere_21 : decode yM_nameHere.2.1 21 = .ok (.aload_n 0, 1) := by decide +kernel
theorem dM_nameHere_22 : decode yM_nameHere.2.1 22 = .ok (.aload_n 0, 1) := by decide +kernel
theorem dM_nameHere_23 : decode yM_nameHere.2.1 23 = .ok (.getfield 237, 3) := by decide +kernel
theorem dM_nameHere_26 : decode yM_nameHere.2.1 26 = .ok (.invokevirtual 240, 3) := by decide +kernel
theorem dM_nameHere_29 : decode yM_nameHere.2.1 29 = .ok (.goto 4, 3) := by decide +kernel
theorem dM_nameHere_32 : decode yM_nameHere.2.1 32 = .ok (.iconst (-1), 1) := by decide +kernel
theorem dM_nameHere_33 : decode yM_nameHere.2.1 33 = .ok (.istore_n 1, 1) := by decide +kernel
theorem dM_nameHere_34 : decode yM_nameHere.2.1 34 = .ok (.aload_n 0, 1) := by decide +kernel
theorem dM_nameHere_35 : decode yM_nameHere.2.1 35 = .ok (.getfield 260, 3) := by decide +kernel
theorem dM_nameHere_38 : decode yM_nameHere.2.1 38 = .ok (.lookupswitch 90 #[(0, 26), (1, 68)], 26) := by decide +kernel
theorem dM_nameHere_64 : decode yM_nameHere.2.1 64 = .ok (.iload_n 1, 1) := by decide +kernel
theorem dM_nameHere_65 : decode yM_nameHere.2.1 65 = .ok (.bipush 103, 2) := by decide +kernel
theorem dM_nameHere_67 : decode yM_nameHere.2.1 67 = .ok (.if_icmp .ne 7, 3) := by decide +kernel
theorem dM_nameHere_70 : decode yM_nameHere.2.1 70 = .ok (.iconst 0, 1) := by decide +kernel
theorem dM_nameHere_71 : decode yM_nameHere.2.1 71 = .ok (.goto 34, 3) := by decide +kernel
theorem dM_nameHere_74 : decode yM_nameHere.2.1 74 = .ok (.iload_n 1, 1) := by decide +kernel
theorem dM_nameHere_75 : decode yM_nameHere.2.1 75 = .ok (.bipush 97, 2) := by decide +kernel
theorem dM_nameHere_77 : decode yM_nameHere.2.1 77 = .ok (.if_icmp .ne 7, 3) := by decide +kernel
theorem dM_nameHere_80 : decode yM_nameHere.2.1 80 = .ok (.iconst 1, 1) := by decide +kernel
theorem dM_nameHere_81 : decode yM_nameHere.2.1 81 = .ok (.goto 24, 3) := by decide +kernel
theorem dM_nameHere_84 : decode yM_nameHere.2.1 84 = .ok (.iload_n 1, 1) := by decide +kernel
theorem dM_nameHere_85 : decode yM_nameHere.2.1 85 = .ok (.bipush 121, 2) := by decide +kernel
theorem dM_nameHere_87 : decode yM_nameHere.2.1 87 = .ok (.if_icmp .ne 7, 3) := by decide +kernel
theorem dM_nameHere_90 : decode yM_nameHere.2.1 90 = .ok (.iconst 2, 1) := by decide +kernel
theorem dM_nameHere_91 : decode yM_nameHere.2.1 91 = .ok (.goto 14, 3) := by decide +kernel
theorem dM_nameHere_94 : decode yM_nameHere.2.1 94 = .ok (.iload_n 1, 1) := by decide +kernel
theorem dM_nameHere_95 : decode yM_nameHere.2.1 95 = .ok (.bipush 110, 2) := by decide +kernel
theorem dM_nameHere_97 : decode yM_nameHere.2.1 97 = .ok (.if_icmp .ne 7, 3) := by decide +kernel
theorem dM_nameHere_100 : decode yM_nameHere.2.1 100 = .ok (.iconst 3, 1) := by decide +kernel
theorem dM_nameHere_101 : decode yM_nameHere.2.1 101 = .ok (.goto 4, 3) := by decide +kernel
theorem dM_nameHere_104 : decode yM_nameHere.2.1 104 = .ok (.iconst (-1), 1) := by decide +kernel
theorem dM_nameHere_105 : decode yM_nameHere.2.1 105 = .ok (.ireturn, 1) := by decide +kernel
theorem dM_nameHere_106 : decode yM_nameHere.2.1 106 = .ok (.iload_n 1, 1) := by decide +kernel
theorem dM_nameHere_107 : decode yM_nameHere.2.1 107 = .ok (.bipush 104, 2) := by decide +kernel
theorem dM_nameHere_109 : decode yM_nameHere.2.1 109 = .ok (.if_icmp .ne 7, 3) := by decide +kernel
theorem dM_nameHere_112 : decode yM_nameHere.2.1 112 = .ok (.iconst 0, 1) := by decide +kernel
theorem dM_nameHere_113 : decode yM_nameHere.2.1 113 = .ok (.goto 14, 3) := by decide +kernel
theorem dM_nameHere_116 : decode yM_nameHere.2.1 116 = .ok (.iload_n 1, 1) := by decide +kernel
theorem dM_nameHere_117 : decode yM_nameHere.2.1 117 = .ok (.bipush 98, 2) := by decide +kernel
theorem dM_nameHere_119 : decode yM_nameHere.2.1 119 = .ok (.if_icmp .ne 7, 3) := by decide +kernel
theorem dM_nameHere_122 : decode yM_nameHere.2.1 122 = .ok (.iconst 1, 1) := by decide +kernel
theorem dM_nameHere_123 : decode yM_nameHere.2.1 123 = .ok (.goto 4, 3) := by decide +kernel
theorem dM_nameHere_126 : decode yM_nameHere.2.1 126 = .ok (.iconst (-1), 1) := by decide +kernel
theorem dM_nameHere_127 : decode yM_nameHere.2.1 127 = .ok (.ireturn, 1) := by decide +kernel
theorem dM_nameHere_128 : decode yM_nameHere.2.1 128 = .ok (.iload_n 1, 1) := by decide +kernel
theorem dM_nameHere_129 : decode yM_nameHere.2.1 129 = .ok (.bipush 103, 2) := by decide +kernel
theorem dM_nameHere_131 : decode yM_nameHere.2.1 131 = .ok (.if_icmp .ne 7, 3) := by decide +kernel
theorem dM_nameHere_134 : decode yM_nameHere.2.1 134 = .ok (.iconst 0, 1) := by decide +kernel
theorem dM_nameHere_135 : decode yM_nameHere.2.1 135 = .ok (.goto 14, 3) := by decide +kernel
theorem dM_nameHere_138 : decode yM_nameHere.2.1 138 = .ok (.iload_n 1, 1) := by decide +kernel
theorem dM_nameHere_139 : decode yM_nameHere.2.1 139 = .ok (.bipush 115, 2) := by decide +kernel
theorem dM_nameHere_141 : decode yM_nameHere.2.1 141 = .ok (.if_icmp .ne 7, 3) := by decide +kernel
theorem dM_nameHere_144 : decode yM_nameHere.2.1 144 = .ok (.iconst 1, 1) := by decide +kernel
theorem dM_nameHere_145 : decode yM_nameHere.2.1 145 = .ok (.goto 4, 3) := by decide +kernel
theorem dM_nameHere_148 : decode yM_nameHere.2.1 148 = .ok (.iconst (-1), 1) := by decide +kernel
theorem dM_nameHere_149 : decode yM_nameHere.2.1 149 = .ok (.ireturn, 1) := by decide +kernel
theorem dM_figure_0 : decode yM_figure.2.1 0 = .ok (.iconst 0, 1) := by decide +kernel
theorem dM_figure_1 : decode yM_figure.2.1 1 = .ok (.istore_n 1, 1) := by decide +kernel
theorem dM_figure_2 : decode yM_figure.2.1 2 = .ok (.aload_n 0, 1) := by decide +kernel
theorem dM_figure_3 : decode yM_figure.2.1 3 = .ok (.getfield 237, 3) := by decide +kernel
theorem dM_figure_6 : decode yM_figure.2.1 6 = .ok (.istore_n 2, 1) := by decide +kernel
theorem dM_figure_7 : decode yM_figure.2.1 7 = .ok (.iload_n 2, 1) := by decide +kernel
theorem dM_figure_8 : decode yM_figure.2.1 8 = .ok (.aload_n 0, 1) := by decide +kernel
theorem dM_figure_9 : decode yM_figure.2.1 9 = .ok (.getfield 234, 3) := by decide +kernel
theorem dM_figure_12 : decode yM_figure.2.1 12 = .ok (.if_icmp .ge 23, 3) := by decide +kernel
theorem dM_figure_15 : decode yM_figure.2.1 15 = .ok (.bipush 10, 2) := by decide +kernel
theorem dM_figure_17 : decode yM_figure.2.1 17 = .ok (.iload_n 1, 1) := by decide +kernel
theorem dM_figure_18 : decode yM_figure.2.1 18 = .ok (.imul, 1) := by decide +kernel
theorem dM_figure_19 : decode yM_figure.2.1 19 = .ok (.aload_n 0, 1) := by decide +kernel
theorem dM_figure_20 : decode yM_figure.2.1 20 = .ok (.iload_n 2, 1) := by decide +kernel
theorem dM_figure_21 : decode yM_figure.2.1 21 = .ok (.invokevirtual 240, 3) := by decide +kernel
theorem dM_figure_24 : decode yM_figure.2.1 24 = .ok (.iadd, 1) := by decide +kernel
theorem dM_figure_25 : decode yM_figure.2.1 25 = .ok (.bipush 48, 2) := by decide +kernel
theorem dM_figure_27 : decode yM_figure.2.1 27 = .ok (.isub, 1) := by decide +kernel
theorem dM_figure_28 : decode yM_figure.2.1 28 = .ok (.istore_n 1, 1) := by decide +kernel
theorem dM_figure_29 : decode yM_figure.2.1 29 = .ok (.iinc 2 1, 3) := by decide +kernel
theorem dM_figure_32 : decode yM_figure.2.1 32 = .ok (.goto (-25), 3) := by decide +kernel
theorem dM_figure_35 : decode yM_figure.2.1 35 = .ok (.aload_n 0, 1) := by decide +kernel
theorem dM_figure_36 : decode yM_figure.2.1 36 = .ok (.iload_n 1, 1) := by decide +kernel
theorem dM_figure_37 : decode yM_figure.2.1 37 = .ok (.invokevirtual 263, 3) := by decide +kernel
theorem dM_figure_40 : decode yM_figure.2.1 40 = .ok (.aload_n 0, 1) := by decide +kernel
theorem dM_figure_41 : decode yM_figure.2.1 41 = .ok (.dup, 1) := by decide +kernel
theorem dM_figure_42 : decode yM_figure.2.1 42 = .ok (.getfield 266, 3) := by decide +kernel
theorem dM_figure_45 : decode yM_figure.2.1 45 = .ok (.iconst 1, 1) := by decide +kernel
theorem dM_figure_46 : decode yM_figure.2.1 46 = .ok (.iadd, 1) := by decide +kernel
theorem dM_figure_47 : decode yM_figure.2.1 47 = .ok (.putfield 266, 3) := by decide +kernel
theorem dM_figure_50 : decode yM_figure.2.1 50 = .ok (.aload_n 0, 1) := by decide +kernel
theorem dM_figure_51 : decode yM_figure.2.1 51 = .ok (.invokevirtual 269, 3) := by decide +kernel
theorem dM_figure_54 : decode yM_figure.2.1 54 = .ok (.return_, 1) := by decide +kernel
theorem dM_writes_0 : decode yM_writes.2.1 0 = .ok (.aload_n 0, 1) := by decide +kernel
theorem dM_writes_1 : decode yM_writes.2.1 1 = .ok (.getfield 34, 3) := by decide +kernel
theorem dM_writes_4 : decode yM_writes.2.1 4 = .ok (.aload_n 0, 1) := by decide +kernel
theorem dM_writes_5 : decode yM_writes.2.1 5 = .ok (.getfield 253, 3) := by decide +kernel
theorem dM_writes_8 : decode yM_writes.2.1 8 = .ok (.iload_n 1, 1) := by decide +kernel
theorem dM_writes_9 : decode yM_writes.2.1 9 = .ok (.iastore, 1) := by decide +kernel
theorem dM_writes_10 : decode yM_writes.2.1 10 = .ok (.aload_n 0, 1) := by decide +kernel
theorem dM_writes_11 : decode yM_writes.2.1 11 = .ok (.dup, 1) := by decide +kernel
theorem dM_writes_12 : decode yM_writes.2.1 12 = .ok (.getfield 253, 3) := by decide +kernel
theorem dM_writes_15 : decode yM_writes.2.1 15 = .ok (.iconst 1, 1) := by decide +kernel
theorem dM_writes_16 : decode yM_writes.2.1 16 = .ok (.iadd, 1) := by decide +kernel
theorem dM_writes_17 : decode yM_writes.2.1 17 = .ok (.putfield 253, 3) := by decide +kernel
theorem dM_writes_20 : decode yM_writes.2.1 20 = .ok (.return_, 1) := by decide +kernel
theorem dM_isSign_0 : decode yM_isSign.2.1 0 = .ok (.aload_n 0, 1) := by decide +kernel
theorem dM_isSign_1 : decode yM_isSign.2.1 1 = .ok (.getfield 249, 3) := by decide +kernel
theorem dM_isSign_4 : decode yM_isSign.2.1 4 = .ok (.ifCond .ne 27, 3) := by decide +kernel
theorem dM_isSign_7 : decode yM_isSign.2.1 7 = .ok (.aload_n 0, 1) := by decide +kernel
theorem dM_isSign_8 : decode yM_isSign.2.1 8 = .ok (.getfield 231, 3) := by decide +kernel
theorem dM_isSign_11 : decode yM_isSign.2.1 11 = .ok (.iconst 3, 1) := by decide +kernel
theorem dM_isSign_12 : decode yM_isSign.2.1 12 = .ok (.if_icmp .ne 19, 3) := by decide +kernel
theorem dM_isSign_15 : decode yM_isSign.2.1 15 = .ok (.aload_n 0, 1) := by decide +kernel
theorem dM_isSign_16 : decode yM_isSign.2.1 16 = .ok (.aload_n 0, 1) := by decide +kernel
theorem dM_isSign_17 : decode yM_isSign.2.1 17 = .ok (.getfield 237, 3) := by decide +kernel
theorem dM_isSign_20 : decode yM_isSign.2.1 20 = .ok (.invokevirtual 240, 3) := by decide +kernel
theorem dM_isSign_23 : decode yM_isSign.2.1 23 = .ok (.iload_n 1, 1) := by decide +kernel
theorem dM_isSign_24 : decode yM_isSign.2.1 24 = .ok (.if_icmp .ne 7, 3) := by decide +kernel
theorem dM_isSign_27 : decode yM_isSign.2.1 27 = .ok (.iconst 1, 1) := by decide +kernel
theorem dM_isSign_28 : decode yM_isSign.2.1 28 = .ok (.goto 4, 3) := by decide +kernel
theorem dM_isSign_31 : decode yM_isSign.2.1 31 = .ok (.iconst 0, 1) := by decide +kernel
theorem dM_isSign_32 : decode yM_isSign.2.1 32 = .ok (.ireturn, 1) := by decide +kernel
theorem dM_not_0 : decode yM_not.2.1 0 = .ok (.aload_n 0, 1) := by decide +kernel
theorem dM_not_1 : decode yM_not.2.1 1 = .ok (.getfield 284, 3) := by decide +kernel
theorem dM_not_4 : decode yM_not.2.1 4 = .ok (.bipush 8, 2) := by decide +kernel
theorem dM_not_6 : decode yM_not.2.1 6 = .ok (.if_icmp .ne 8, 3) := by decide +kernel
theorem dM_not_9 : decode yM_not.2.1 9 = .ok (.aload_n 0, 1) := by decide +kernel
theorem dM_not_10 : decode yM_not.2.1 10 = .ok (.invokevirtual 275, 3) := by decide +kernel
theorem dM_not_13 : decode yM_not.2.1 13 = .ok (.return_, 1) := by decide +kernel
theorem dM_not_14 : decode yM_not.2.1 14 = .ok (.aload_n 0, 1) := by decide +kernel
theorem dM_not_15 : decode yM_not.2.1 15 = .ok (.dup, 1) := by decide +kernel
theorem dM_not_16 : decode yM_not.2.1 16 = .ok (.getfield 284, 3) := by decide +kernel
theorem dM_not_19 : decode yM_not.2.1 19 = .ok (.iconst 1, 1) := by decide +kernel
theorem dM_not_20 : decode yM_not.2.1 20 = .ok (.iadd, 1) := by decide +kernel
theorem dM_not_21 : decode yM_not.2.1 21 = .ok (.putfield 284, 3) := by decide +kernel
theorem dM_not_24 : decode yM_not.2.1 24 = .ok (.aload_n 0, 1) := by decide +kernel
theorem dM_not_25 : decode yM_not.2.1 25 = .ok (.invokevirtual 269, 3) := by decide +kernel
theorem dM_not_28 : decode yM_not.2.1 28 = .ok (.aload_n 0, 1) := by decide +kernel
theorem dM_not_29 : decode yM_not.2.1 29 = .ok (.invokevirtual 287, 3) := by decide +kernel
theorem dM_not_32 : decode yM_not.2.1 32 = .ok (.aload_n 0, 1) := by decide +kernel
theorem dM_not_33 : decode yM_not.2.1 33 = .ok (.dup, 1) := by decide +kernel
theorem dM_not_34 : decode yM_not.2.1 34 = .ok (.getfield 284, 3) := by decide +kernel
theorem dM_not_37 : decode yM_not.2.1 37 = .ok (.iconst 1, 1) := by decide +kernel
theorem dM_not_38 : decode yM_not.2.1 38 = .ok (.isub, 1) := by decide +kernel
theorem dM_not_39 : decode yM_not.2.1 39 = .ok (.putfield 284, 3) := by decide +kernel
theorem dM_not_42 : decode yM_not.2.1 42 = .ok (.aload_n 0, 1) := by decide +kernel
theorem dM_not_43 : decode yM_not.2.1 43 = .ok (.bipush (-43), 2) := by decide +kernel
theorem dM_not_45 : decode yM_not.2.1 45 = .ok (.invokevirtual 263, 3) := by decide +kernel
theorem dM_not_48 : decode yM_not.2.1 48 = .ok (.return_, 1) := by decide +kernel
theorem dM_inner_0 : decode yM_inner.2.1 0 = .ok (.aload_n 0, 1) := by decide +kernel
theorem dM_inner_1 : decode yM_inner.2.1 1 = .ok (.getfield 272, 3) := by decide +kernel
theorem dM_inner_4 : decode yM_inner.2.1 4 = .ok (.bipush 8, 2) := by decide +kernel
theorem dM_inner_6 : decode yM_inner.2.1 6 = .ok (.if_icmp .ne 8, 3) := by decide +kernel
theorem dM_inner_9 : decode yM_inner.2.1 9 = .ok (.aload_n 0, 1) := by decide +kernel
theorem dM_inner_10 : decode yM_inner.2.1 10 = .ok (.invokevirtual 275, 3) := by decide +kernel
theorem dM_inner_13 : decode yM_inner.2.1 13 = .ok (.return_, 1) := by decide +kernel
theorem dM_inner_14 : decode yM_inner.2.1 14 = .ok (.aload_n 0, 1) := by decide +kernel
theorem dM_inner_15 : decode yM_inner.2.1 15 = .ok (.dup, 1) := by decide +kernel
theorem dM_inner_16 : decode yM_inner.2.1 16 = .ok (.getfield 272, 3) := by decide +kernel
theorem dM_inner_19 : decode yM_inner.2.1 19 = .ok (.iconst 1, 1) := by decide +kernel
theorem dM_inner_20 : decode yM_inner.2.1 20 = .ok (.iadd, 1) := by decide +kernel
theorem dM_inner_21 : decode yM_inner.2.1 21 = .ok (.putfield 272, 3) := by decide +kernel
theorem dM_inner_24 : decode yM_inner.2.1 24 = .ok (.aload_n 0, 1) := by decide +kernel
theorem dM_inner_25 : decode yM_inner.2.1 25 = .ok (.invokevirtual 269, 3) := by decide +kernel
theorem dM_inner_28 : decode yM_inner.2.1 28 = .ok (.aload_n 0, 1) := by decide +kernel
theorem dM_inner_29 : decode yM_inner.2.1 29 = .ok (.invokevirtual 278, 3) := by decide +kernel
theorem dM_inner_32 : decode yM_inner.2.1 32 = .ok (.aload_n 0, 1) := by decide +kernel
theorem dM_inner_33 : decode yM_inner.2.1 33 = .ok (.bipush 41, 2) := by decide +kernel
theorem dM_inner_35 : decode yM_inner.2.1 35 = .ok (.invokevirtual 281, 3) := by decide +kernel
theorem dM_inner_38 : decode yM_inner.2.1 38 = .ok (.ifCond .ne 8, 3) := by decide +kernel
theorem dM_inner_41 : decode yM_inner.2.1 41 = .ok (.aload_n 0, 1) := by decide +kernel
theorem dM_inner_42 : decode yM_inner.2.1 42 = .ok (.invokevirtual 275, 3) := by decide +kernel
theorem dM_inner_45 : decode yM_inner.2.1 45 = .ok (.return_, 1) := by decide +kernel
theorem dM_inner_46 : decode yM_inner.2.1 46 = .ok (.aload_n 0, 1) := by decide +kernel
theorem dM_inner_47 : decode yM_inner.2.1 47 = .ok (.dup, 1) := by decide +kernel
theorem dM_inner_48 : decode yM_inner.2.1 48 = .ok (.getfield 272, 3) := by decide +kernel
theorem dM_inner_51 : decode yM_inner.2.1 51 = .ok (.iconst 1, 1) := by decide +kernel
theorem dM_inner_52 : decode yM_inner.2.1 52 = .ok (.isub, 1) := by decide +kernel
theorem dM_inner_53 : decode yM_inner.2.1 53 = .ok (.putfield 272, 3) := by decide +kernel
theorem dM_inner_56 : decode yM_inner.2.1 56 = .ok (.aload_n 0, 1) := by decide +kernel
theorem dM_inner_57 : decode yM_inner.2.1 57 = .ok (.invokevirtual 269, 3) := by decide +kernel
theorem dM_inner_60 : decode yM_inner.2.1 60 = .ok (.return_, 1) := by decide +kernel
theorem dM_lays_0 : decode yM_lays.2.1 0 = .ok (.aload_n 0, 1) := by decide +kernel
theorem dM_lays_1 : decode yM_lays.2.1 1 = .ok (.getfield 7, 3) := by decide +kernel
theorem dM_lays_4 : decode yM_lays.2.1 4 = .ok (.bipush 64, 2) := by decide +kernel
theorem dM_lays_6 : decode yM_lays.2.1 6 = .ok (.iaload, 1) := by decide +kernel
theorem dM_lays_7 : decode yM_lays.2.1 7 = .ok (.istore_n 1, 1) := by decide +kernel
theorem dM_lays_8 : decode yM_lays.2.1 8 = .ok (.aload_n 0, 1) := by decide +kernel
theorem dM_lays_9 : decode yM_lays.2.1 9 = .ok (.getfield 7, 3) := by decide +kernel
theorem dM_lays_12 : decode yM_lays.2.1 12 = .ok (.bipush 64, 2) := by decide +kernel
theorem dM_lays_14 : decode yM_lays.2.1 14 = .ok (.dup2, 1) := by decide +kernel
theorem dM_lays_15 : decode yM_lays.2.1 15 = .ok (.iaload, 1) := by decide +kernel
theorem dM_lays_16 : decode yM_lays.2.1 16 = .ok (.iconst 1, 1) := by decide +kernel
theorem dM_lays_17 : decode yM_lays.2.1 17 = .ok (.iadd, 1) := by decide +kernel
theorem dM_lays_18 : decode yM_lays.2.1 18 = .ok (.iastore, 1) := by decide +kernel
theorem dM_lays_19 : decode yM_lays.2.1 19 = .ok (.aload_n 0, 1) := by decide +kernel
theorem dM_lays_20 : decode yM_lays.2.1 20 = .ok (.getfield 7, 3) := by decide +kernel
theorem dM_lays_23 : decode yM_lays.2.1 23 = .ok (.bipush 65, 2) := by decide +kernel
theorem dM_lays_25 : decode yM_lays.2.1 25 = .ok (.aload_n 0, 1) := by decide +kernel
theorem dM_lays_26 : decode yM_lays.2.1 26 = .ok (.getfield 260, 3) := by decide +kernel
theorem dM_lays_29 : decode yM_lays.2.1 29 = .ok (.iadd, 1) := by decide +kernel
theorem dM_lays_30 : decode yM_lays.2.1 30 = .ok (.iload_n 1, 1) := by decide +kernel
theorem dM_lays_31 : decode yM_lays.2.1 31 = .ok (.iastore, 1) := by decide +kernel
theorem dM_lays_32 : decode yM_lays.2.1 32 = .ok (.aload_n 0, 1) := by decide +kernel
theorem dM_lays_33 : decode yM_lays.2.1 33 = .ok (.getfield 7, 3) := by decide +kernel
theorem dM_lays_36 : decode yM_lays.2.1 36 = .ok (.bipush 68, 2) := by decide +kernel
theorem dM_lays_38 : decode yM_lays.2.1 38 = .ok (.iload_n 1, 1) := by decide +kernel
theorem dM_lays_39 : decode yM_lays.2.1 39 = .ok (.iadd, 1) := by decide +kernel
theorem dM_lays_40 : decode yM_lays.2.1 40 = .ok (.aload_n 0, 1) := by decide +kernel
theorem dM_lays_41 : decode yM_lays.2.1 41 = .ok (.getfield 260, 3) := by decide +kernel
theorem dM_lays_44 : decode yM_lays.2.1 44 = .ok (.iastore, 1) := by decide +kernel
theorem dM_lays_45 : decode yM_lays.2.1 45 = .ok (.aload_n 0, 1) := by decide +kernel
theorem dM_lays_46 : decode yM_lays.2.1 46 = .ok (.getfield 7, 3) := by decide +kernel
theorem dM_lays_49 : decode yM_lays.2.1 49 = .ok (.bipush 82, 2) := by decide +kernel
theorem dM_lays_51 : decode yM_lays.2.1 51 = .ok (.iload_n 1, 1) := by decide +kernel
theorem dM_lays_52 : decode yM_lays.2.1 52 = .ok (.iadd, 1) := by decide +kernel
theorem dM_lays_53 : decode yM_lays.2.1 53 = .ok (.aload_n 0, 1) := by decide +kernel
theorem dM_lays_54 : decode yM_lays.2.1 54 = .ok (.getfield 253, 3) := by decide +kernel
theorem dM_lays_57 : decode yM_lays.2.1 57 = .ok (.iastore, 1) := by decide +kernel
theorem dM_lays_58 : decode yM_lays.2.1 58 = .ok (.aload_n 0, 1) := by decide +kernel
theorem dM_lays_59 : decode yM_lays.2.1 59 = .ok (.getfield 7, 3) := by decide +kernel
theorem dM_lays_62 : decode yM_lays.2.1 62 = .ok (.bipush 96, 2) := by decide +kernel
theorem dM_lays_64 : decode yM_lays.2.1 64 = .ok (.iload_n 1, 1) := by decide +kernel
theorem dM_lays_65 : decode yM_lays.2.1 65 = .ok (.iadd, 1) := by decide +kernel
theorem dM_lays_66 : decode yM_lays.2.1 66 = .ok (.aload_n 0, 1) := by decide +kernel
theorem dM_lays_67 : decode yM_lays.2.1 67 = .ok (.getfield 266, 3) := by decide +kernel
theorem dM_lays_70 : decode yM_lays.2.1 70 = .ok (.iastore, 1) := by decide +kernel
theorem dM_lays_71 : decode yM_lays.2.1 71 = .ok (.iconst 0, 1) := by decide +kernel
theorem dM_lays_72 : decode yM_lays.2.1 72 = .ok (.istore_n 2, 1) := by decide +kernel
theorem dM_lays_73 : decode yM_lays.2.1 73 = .ok (.iload_n 2, 1) := by decide +kernel
theorem dM_lays_74 : decode yM_lays.2.1 74 = .ok (.aload_n 0, 1) := by decide +kernel
theorem dM_lays_75 : decode yM_lays.2.1 75 = .ok (.getfield 253, 3) := by decide +kernel
theorem dM_lays_78 : decode yM_lays.2.1 78 = .ok (.if_icmp .ge 29, 3) := by decide +kernel
theorem dM_lays_81 : decode yM_lays.2.1 81 = .ok (.aload_n 0, 1) := by decide +kernel
theorem dM_lays_82 : decode yM_lays.2.1 82 = .ok (.getfield 7, 3) := by decide +kernel
theorem dM_lays_85 : decode yM_lays.2.1 85 = .ok (.bipush 110, 2) := by decide +kernel
theorem dM_lays_87 : decode yM_lays.2.1 87 = .ok (.bipush 100, 2) := by decide +kernel
theorem dM_lays_89 : decode yM_lays.2.1 89 = .ok (.iload_n 1, 1) := by decide +kernel
theorem dM_lays_90 : decode yM_lays.2.1 90 = .ok (.imul, 1) := by decide +kernel
theorem dM_lays_91 : decode yM_lays.2.1 91 = .ok (.iadd, 1) := by decide +kernel
theorem dM_lays_92 : decode yM_lays.2.1 92 = .ok (.iload_n 2, 1) := by decide +kernel
theorem dM_lays_93 : decode yM_lays.2.1 93 = .ok (.iadd, 1) := by decide +kernel
theorem dM_lays_94 : decode yM_lays.2.1 94 = .ok (.aload_n 0, 1) := by decide +kernel
theorem dM_lays_95 : decode yM_lays.2.1 95 = .ok (.getfield 34, 3) := by decide +kernel
theorem dM_lays_98 : decode yM_lays.2.1 98 = .ok (.iload_n 2, 1) := by decide +kernel
theorem dM_lays_99 : decode yM_lays.2.1 99 = .ok (.iaload, 1) := by decide +kernel
theorem dM_lays_100 : decode yM_lays.2.1 100 = .ok (.iastore, 1) := by decide +kernel
theorem dM_lays_101 : decode yM_lays.2.1 101 = .ok (.iinc 2 1, 3) := by decide +kernel
theorem dM_lays_104 : decode yM_lays.2.1 104 = .ok (.goto (-31), 3) := by decide +kernel
theorem dM_lays_107 : decode yM_lays.2.1 107 = .ok (.iload_n 1, 1) := by decide +kernel
theorem dM_lays_108 : decode yM_lays.2.1 108 = .ok (.ireturn, 1) := by decide +kernel
theorem dM_textTold_0 : decode yM_textTold.2.1 0 = .ok (.iload_n 1, 1) := by decide +kernel
theorem dM_textTold_1 : decode yM_textTold.2.1 1 = .ok (.i2l, 1) := by decide +kernel
theorem dM_textTold_2 : decode yM_textTold.2.1 2 = .ok (.lconst 0, 1) := by decide +kernel
theorem dM_textTold_3 : decode yM_textTold.2.1 3 = .ok (.aload_n 0, 1) := by decide +kernel
theorem dM_textTold_4 : decode yM_textTold.2.1 4 = .ok (.getfield 7, 3) := by decide +kernel
theorem dM_textTold_7 : decode yM_textTold.2.1 7 = .ok (.bipush 64, 2) := by decide +kernel
theorem dM_textTold_9 : decode yM_textTold.2.1 9 = .ok (.iaload, 1) := by decide +kernel
theorem dM_textTold_10 : decode yM_textTold.2.1 10 = .ok (.iconst 1, 1) := by decide +kernel
theorem dM_textTold_11 : decode yM_textTold.2.1 11 = .ok (.isub, 1) := by decide +kernel
theorem dM_textTold_12 : decode yM_textTold.2.1 12 = .ok (.i2l, 1) := by decide +kernel
theorem dM_textTold_13 : decode yM_textTold.2.1 13 = .ok (.invokestatic 65, 3) := by decide +kernel
theorem dM_textTold_16 : decode yM_textTold.2.1 16 = .ok (.ifCond .eq 34, 3) := by decide +kernel
theorem dM_textTold_19 : decode yM_textTold.2.1 19 = .ok (.iload_n 2, 1) := by decide +kernel
theorem dM_textTold_20 : decode yM_textTold.2.1 20 = .ok (.i2l, 1) := by decide +kernel
theorem dM_textTold_21 : decode yM_textTold.2.1 21 = .ok (.lconst 0, 1) := by decide +kernel
theorem dM_textTold_22 : decode yM_textTold.2.1 22 = .ok (.lconst 1, 1) := by decide +kernel
theorem dM_textTold_23 : decode yM_textTold.2.1 23 = .ok (.invokestatic 65, 3) := by decide +kernel
theorem dM_textTold_26 : decode yM_textTold.2.1 26 = .ok (.ifCond .eq 24, 3) := by decide +kernel
theorem dM_textTold_29 : decode yM_textTold.2.1 29 = .ok (.aload_n 0, 1) := by decide +kernel
theorem dM_textTold_30 : decode yM_textTold.2.1 30 = .ok (.getfield 7, 3) := by decide +kernel
theorem dM_textTold_33 : decode yM_textTold.2.1 33 = .ok (.iload_n 2, 1) := by decide +kernel
theorem dM_textTold_34 : decode yM_textTold.2.1 34 = .ok (.ifCond .ne 8, 3) := by decide +kernel
theorem dM_textTold_37 : decode yM_textTold.2.1 37 = .ok (.bipush 68, 2) := by decide +kernel
theorem dM_textTold_39 : decode yM_textTold.2.1 39 = .ok (.goto 5, 3) := by decide +kernel
theorem dM_textTold_42 : decode yM_textTold.2.1 42 = .ok (.bipush 96, 2) := by decide +kernel
theorem dM_textTold_44 : decode yM_textTold.2.1 44 = .ok (.iload_n 1, 1) := by decide +kernel
theorem dM_textTold_45 : decode yM_textTold.2.1 45 = .ok (.iadd, 1) := by decide +kernel
theorem dM_textTold_46 : decode yM_textTold.2.1 46 = .ok (.iaload, 1) := by decide +kernel
theorem dM_textTold_47 : decode yM_textTold.2.1 47 = .ok (.goto 5, 3) := by decide +kernel
theorem dM_textTold_50 : decode yM_textTold.2.1 50 = .ok (.ldc 96, 2) := by decide +kernel
theorem dM_textTold_52 : decode yM_textTold.2.1 52 = .ok (.ireturn, 1) := by decide +kernel
theorem dM_why_0 : decode yM_why.2.1 0 = .ok (.iload_n 1, 1) := by decide +kernel
theorem dM_why_1 : decode yM_why.2.1 1 = .ok (.i2l, 1) := by decide +kernel
theorem dM_why_2 : decode yM_why.2.1 2 = .ok (.lconst 0, 1) := by decide +kernel
theorem dM_why_3 : decode yM_why.2.1 3 = .ok (.ldc2_w 323, 3) := by decide +kernel
theorem dM_why_6 : decode yM_why.2.1 6 = .ok (.invokestatic 65, 3) := by decide +kernel
theorem dM_why_9 : decode yM_why.2.1 9 = .ok (.ifCond .ne 6, 3) := by decide +kernel
theorem dM_why_12 : decode yM_why.2.1 12 = .ok (.ldc 96, 2) := by decide +kernel
theorem dM_why_14 : decode yM_why.2.1 14 = .ok (.ireturn, 1) := by decide +kernel
theorem dM_why_15 : decode yM_why.2.1 15 = .ok (.aload_n 0, 1) := by decide +kernel
theorem dM_why_16 : decode yM_why.2.1 16 = .ok (.getfield 7, 3) := by decide +kernel
theorem dM_why_19 : decode yM_why.2.1 19 = .ok (.bipush 65, 2) := by decide +kernel
theorem dM_why_21 : decode yM_why.2.1 21 = .ok (.iload_n 1, 1) := by decide +kernel
theorem dM_why_22 : decode yM_why.2.1 22 = .ok (.iadd, 1) := by decide +kernel
theorem dM_why_23 : decode yM_why.2.1 23 = .ok (.iaload, 1) := by decide +kernel
theorem dM_why_24 : decode yM_why.2.1 24 = .ok (.ifCond .ge 8, 3) := by decide +kernel
theorem dM_why_27 : decode yM_why.2.1 27 = .ok (.ldc 169, 2) := by decide +kernel
theorem dM_why_29 : decode yM_why.2.1 29 = .ok (.goto 12, 3) := by decide +kernel
theorem dM_why_32 : decode yM_why.2.1 32 = .ok (.aload_n 0, 1) := by decide +kernel
theorem dM_why_33 : decode yM_why.2.1 33 = .ok (.getfield 7, 3) := by decide +kernel
theorem dM_why_36 : decode yM_why.2.1 36 = .ok (.bipush 65, 2) := by decide +kernel
theorem dM_why_38 : decode yM_why.2.1 38 = .ok (.iload_n 1, 1) := by decide +kernel
theorem dM_why_39 : decode yM_why.2.1 39 = .ok (.iadd, 1) := by decide +kernel
theorem dM_why_40 : decode yM_why.2.1 40 = .ok (.iaload, 1) := by decide +kernel
theorem dM_why_41 : decode yM_why.2.1 41 = .ok (.ireturn, 1) := by decide +kernel
theorem dM_sheet_0 : decode yM_sheet.2.1 0 = .ok (.iload_n 1, 1) := by decide +kernel
theorem dM_sheet_1 : decode yM_sheet.2.1 1 = .ok (.invokestatic 215, 3) := by decide +kernel
theorem dM_sheet_4 : decode yM_sheet.2.1 4 = .ok (.ifCond .eq 25, 3) := by decide +kernel
theorem dM_sheet_7 : decode yM_sheet.2.1 7 = .ok (.iload_n 2, 1) := by decide +kernel
theorem dM_sheet_8 : decode yM_sheet.2.1 8 = .ok (.i2l, 1) := by decide +kernel
theorem dM_sheet_9 : decode yM_sheet.2.1 9 = .ok (.ldc2_w 327, 3) := by decide +kernel
theorem dM_sheet_12 : decode yM_sheet.2.1 12 = .ok (.lconst 1, 1) := by decide +kernel
theorem dM_sheet_13 : decode yM_sheet.2.1 13 = .ok (.invokestatic 65, 3) := by decide +kernel
theorem dM_sheet_16 : decode yM_sheet.2.1 16 = .ok (.ifCond .eq 13, 3) := by decide +kernel
theorem dM_sheet_19 : decode yM_sheet.2.1 19 = .ok (.iload_n 2, 1) := by decide +kernel
theorem dM_sheet_20 : decode yM_sheet.2.1 20 = .ok (.ifCond .lt 12, 3) := by decide +kernel
theorem dM_sheet_23 : decode yM_sheet.2.1 23 = .ok (.iload_n 3, 1) := by decide +kernel
theorem dM_sheet_24 : decode yM_sheet.2.1 24 = .ok (.bipush 24, 2) := by decide +kernel
theorem dM_sheet_26 : decode yM_sheet.2.1 26 = .ok (.if_icmp .le 6, 3) := by decide +kernel
theorem dM_sheet_29 : decode yM_sheet.2.1 29 = .ok (.ldc 96, 2) := by decide +kernel
theorem dM_sheet_31 : decode yM_sheet.2.1 31 = .ok (.ireturn, 1) := by decide +kernel
theorem dM_sheet_32 : decode yM_sheet.2.1 32 = .ok (.iload_n 2, 1) := by decide +kernel
theorem dM_sheet_33 : decode yM_sheet.2.1 33 = .ok (.ifCond .ge 9, 3) := by decide +kernel
theorem dM_sheet_36 : decode yM_sheet.2.1 36 = .ok (.aload_n 0, 1) := by decide +kernel
theorem dM_sheet_37 : decode yM_sheet.2.1 37 = .ok (.iload_n 1, 1) := by decide +kernel
theorem dM_sheet_38 : decode yM_sheet.2.1 38 = .ok (.invokevirtual 329, 3) := by decide +kernel
theorem dM_sheet_41 : decode yM_sheet.2.1 41 = .ok (.ireturn, 1) := by decide +kernel
theorem dM_sheet_42 : decode yM_sheet.2.1 42 = .ok (.iload_n 3, 1) := by decide +kernel
theorem dM_sheet_43 : decode yM_sheet.2.1 43 = .ok (.ifCond .ge 7, 3) := by decide +kernel
theorem dM_sheet_46 : decode yM_sheet.2.1 46 = .ok (.ldc_w 332, 3) := by decide +kernel
theorem dM_sheet_49 : decode yM_sheet.2.1 49 = .ok (.ireturn, 1) := by decide +kernel
theorem dM_sheet_50 : decode yM_sheet.2.1 50 = .ok (.aload_n 0, 1) := by decide +kernel
theorem dM_sheet_51 : decode yM_sheet.2.1 51 = .ok (.getfield 37, 3) := by decide +kernel
theorem dM_sheet_54 : decode yM_sheet.2.1 54 = .ok (.iload_n 1, 1) := by decide +kernel
theorem dM_sheet_55 : decode yM_sheet.2.1 55 = .ok (.iload_n 2, 1) := by decide +kernel
theorem dM_sheet_56 : decode yM_sheet.2.1 56 = .ok (.iastore, 1) := by decide +kernel
theorem dM_sheet_57 : decode yM_sheet.2.1 57 = .ok (.aload_n 0, 1) := by decide +kernel
theorem dM_sheet_58 : decode yM_sheet.2.1 58 = .ok (.getfield 40, 3) := by decide +kernel
theorem dM_sheet_61 : decode yM_sheet.2.1 61 = .ok (.iload_n 1, 1) := by decide +kernel
theorem dM_sheet_62 : decode yM_sheet.2.1 62 = .ok (.iload_n 3, 1) := by decide +kernel
theorem dM_sheet_63 : decode yM_sheet.2.1 63 = .ok (.iastore, 1) := by decide +kernel
theorem dM_sheet_64 : decode yM_sheet.2.1 64 = .ok (.iconst 0, 1) := by decide +kernel
theorem dM_sheet_65 : decode yM_sheet.2.1 65 = .ok (.istore 4, 2) := by decide +kernel
theorem dM_sheet_67 : decode yM_sheet.2.1 67 = .ok (.iload 4, 2) := by decide +kernel
theorem dM_sheet_69 : decode yM_sheet.2.1 69 = .ok (.bipush 24, 2) := by decide +kernel
theorem dM_sheet_71 : decode yM_sheet.2.1 71 = .ok (.if_icmp .ge 22, 3) := by decide +kernel
theorem dM_sheet_74 : decode yM_sheet.2.1 74 = .ok (.aload_n 0, 1) := by decide +kernel
theorem dM_sheet_75 : decode yM_sheet.2.1 75 = .ok (.getfield 43, 3) := by decide +kernel
theorem dM_sheet_78 : decode yM_sheet.2.1 78 = .ok (.bipush 24, 2) := by decide +kernel
theorem dM_sheet_80 : decode yM_sheet.2.1 80 = .ok (.iload_n 1, 1) := by decide +kernel
theorem dM_sheet_81 : decode yM_sheet.2.1 81 = .ok (.imul, 1) := by decide +kernel
theorem dM_sheet_82 : decode yM_sheet.2.1 82 = .ok (.iload 4, 2) := by decide +kernel
theorem dM_sheet_84 : decode yM_sheet.2.1 84 = .ok (.iadd, 1) := by decide +kernel
theorem dM_sheet_85 : decode yM_sheet.2.1 85 = .ok (.iconst 0, 1) := by decide +kernel
theorem dM_sheet_86 : decode yM_sheet.2.1 86 = .ok (.iastore, 1) := by decide +kernel
theorem dM_sheet_87 : decode yM_sheet.2.1 87 = .ok (.iinc 4 1, 3) := by decide +kernel
theorem dM_sheet_90 : decode yM_sheet.2.1 90 = .ok (.goto (-23), 3) := by decide +kernel
theorem dM_sheet_93 : decode yM_sheet.2.1 93 = .ok (.iload_n 3, 1) := by decide +kernel
theorem dM_sheet_94 : decode yM_sheet.2.1 94 = .ok (.ireturn, 1) := by decide +kernel
theorem dM_missing_0 : decode yM_missing.2.1 0 = .ok (.aload_n 0, 1) := by decide +kernel
theorem dM_missing_1 : decode yM_missing.2.1 1 = .ok (.getfield 37, 3) := by decide +kernel
theorem dM_missing_4 : decode yM_missing.2.1 4 = .ok (.iload_n 1, 1) := by decide +kernel
theorem dM_missing_5 : decode yM_missing.2.1 5 = .ok (.iconst (-1), 1) := by decide +kernel
theorem dM_missing_6 : decode yM_missing.2.1 6 = .ok (.iastore, 1) := by decide +kernel
theorem dM_missing_7 : decode yM_missing.2.1 7 = .ok (.aload_n 0, 1) := by decide +kernel
theorem dM_missing_8 : decode yM_missing.2.1 8 = .ok (.getfield 40, 3) := by decide +kernel
theorem dM_missing_11 : decode yM_missing.2.1 11 = .ok (.iload_n 1, 1) := by decide +kernel
theorem dM_missing_12 : decode yM_missing.2.1 12 = .ok (.iconst 0, 1) := by decide +kernel
theorem dM_missing_13 : decode yM_missing.2.1 13 = .ok (.iastore, 1) := by decide +kernel
theorem dM_missing_14 : decode yM_missing.2.1 14 = .ok (.iconst 0, 1) := by decide +kernel
theorem dM_missing_15 : decode yM_missing.2.1 15 = .ok (.ireturn, 1) := by decide +kernel
theorem dM_mark_0 : decode yM_mark.2.1 0 = .ok (.aload_n 0, 1) := by decide +kernel
theorem dM_mark_1 : decode yM_mark.2.1 1 = .ok (.iload_n 1, 1) := by decide +kernel
theorem dM_mark_2 : decode yM_mark.2.1 2 = .ok (.iload_n 2, 1) := by decide +kernel
theorem dM_mark_3 : decode yM_mark.2.1 3 = .ok (.invokevirtual 334, 3) := by decide +kernel
theorem dM_mark_6 : decode yM_mark.2.1 6 = .ok (.istore 4, 2) := by decide +kernel
theorem dM_mark_8 : decode yM_mark.2.1 8 = .ok (.iload 4, 2) := by decide +kernel
theorem dM_mark_10 : decode yM_mark.2.1 10 = .ok (.ifCond .eq 6, 3) := by decide +kernel
theorem dM_mark_13 : decode yM_mark.2.1 13 = .ok (.iload 4, 2) := by decide +kernel
theorem dM_mark_15 : decode yM_mark.2.1 15 = .ok (.ireturn, 1) := by decide +kernel
theorem dM_mark_16 : decode yM_mark.2.1 16 = .ok (.aload_n 0, 1) := by decide +kernel
theorem dM_mark_17 : decode yM_mark.2.1 17 = .ok (.getfield 37, 3) := by decide +kernel
theorem dM_mark_20 : decode yM_mark.2.1 20 = .ok (.iload_n 1, 1) := by decide +kernel
theorem dM_mark_21 : decode yM_mark.2.1 21 = .ok (.iaload, 1) := by decide +kernel
theorem dM_mark_22 : decode yM_mark.2.1 22 = .ok (.ifCond .ne 12, 3) := by decide +kernel
theorem dM_mark_25 : decode yM_mark.2.1 25 = .ok (.iload_n 3, 1) := by decide +kernel
theorem dM_mark_26 : decode yM_mark.2.1 26 = .ok (.ldc 169, 2) := by decide +kernel
theorem dM_mark_28 : decode yM_mark.2.1 28 = .ok (.if_icmp .ne 6, 3) := by decide +kernel
theorem dM_mark_31 : decode yM_mark.2.1 31 = .ok (.ldc 129, 2) := by decide +kernel
theorem dM_mark_33 : decode yM_mark.2.1 33 = .ok (.ireturn, 1) := by decide +kernel
theorem dM_mark_34 : decode yM_mark.2.1 34 = .ok (.aload_n 0, 1) := by decide +kernel
theorem dM_mark_35 : decode yM_mark.2.1 35 = .ok (.getfield 37, 3) := by decide +kernel
theorem dM_mark_38 : decode yM_mark.2.1 38 = .ok (.iload_n 1, 1) := by decide +kernel
theorem dM_mark_39 : decode yM_mark.2.1 39 = .ok (.iaload, 1) := by decide +kernel
theorem dM_mark_40 : decode yM_mark.2.1 40 = .ok (.iconst 1, 1) := by decide +kernel
theorem dM_mark_41 : decode yM_mark.2.1 41 = .ok (.if_icmp .ne 26, 3) := by decide +kernel
theorem dM_mark_44 : decode yM_mark.2.1 44 = .ok (.iload_n 3, 1) := by decide +kernel
theorem dM_mark_45 : decode yM_mark.2.1 45 = .ok (.ldc 169, 2) := by decide +kernel
theorem dM_mark_47 : decode yM_mark.2.1 47 = .ok (.if_icmp .eq 20, 3) := by decide +kernel
theorem dM_mark_50 : decode yM_mark.2.1 50 = .ok (.iload_n 3, 1) := by decide +kernel
theorem dM_mark_51 : decode yM_mark.2.1 51 = .ok (.i2l, 1) := by decide +kernel
theorem dM_mark_52 : decode yM_mark.2.1 52 = .ok (.ldc2_w 337, 3) := by decide +kernel
theorem dM_mark_55 : decode yM_mark.2.1 55 = .ok (.ldc2_w 213, 3) := by decide +kernel
theorem dM_mark_58 : decode yM_mark.2.1 58 = .ok (.invokestatic 65, 3) := by decide +kernel
theorem dM_mark_61 : decode yM_mark.2.1 61 = .ok (.ifCond .ne 6, 3) := by decide +kernel
theorem dM_mark_64 : decode yM_mark.2.1 64 = .ok (.ldc 96, 2) := by decide +kernel
theorem dM_mark_66 : decode yM_mark.2.1 66 = .ok (.ireturn, 1) := by decide +kernel
theorem dM_mark_67 : decode yM_mark.2.1 67 = .ok (.aload_n 0, 1) := by decide +kernel
theorem dM_mark_68 : decode yM_mark.2.1 68 = .ok (.getfield 43, 3) := by decide +kernel
theorem dM_mark_71 : decode yM_mark.2.1 71 = .ok (.bipush 24, 2) := by decide +kernel
theorem dM_mark_73 : decode yM_mark.2.1 73 = .ok (.iload_n 1, 1) := by decide +kernel
theorem dM_mark_74 : decode yM_mark.2.1 74 = .ok (.imul, 1) := by decide +kernel
theorem dM_mark_75 : decode yM_mark.2.1 75 = .ok (.iload_n 2, 1) := by decide +kernel
theorem dM_mark_76 : decode yM_mark.2.1 76 = .ok (.iadd, 1) := by decide +kernel
theorem dM_mark_77 : decode yM_mark.2.1 77 = .ok (.aload_n 0, 1) := by decide +kernel
theorem dM_mark_78 : decode yM_mark.2.1 78 = .ok (.getfield 37, 3) := by decide +kernel
theorem dM_mark_81 : decode yM_mark.2.1 81 = .ok (.iload_n 1, 1) := by decide +kernel
theorem dM_mark_82 : decode yM_mark.2.1 82 = .ok (.iaload, 1) := by decide +kernel
theorem dM_mark_83 : decode yM_mark.2.1 83 = .ok (.ifCond .ne 8, 3) := by decide +kernel
theorem dM_mark_86 : decode yM_mark.2.1 86 = .ok (.iload_n 3, 1) := by decide +kernel
theorem dM_mark_87 : decode yM_mark.2.1 87 = .ok (.i2s, 1) := by decide +kernel
theorem dM_mark_88 : decode yM_mark.2.1 88 = .ok (.goto 4, 3) := by decide +kernel
theorem dM_mark_91 : decode yM_mark.2.1 91 = .ok (.iload_n 3, 1) := by decide +kernel
theorem dM_mark_92 : decode yM_mark.2.1 92 = .ok (.iastore, 1) := by decide +kernel
theorem dM_mark_93 : decode yM_mark.2.1 93 = .ok (.iconst 1, 1) := by decide +kernel
theorem dM_mark_94 : decode yM_mark.2.1 94 = .ok (.ireturn, 1) := by decide +kernel
theorem dM_wrongPlace_0 : decode yM_wrongPlace.2.1 0 = .ok (.iload_n 1, 1) := by decide +kernel
theorem dM_wrongPlace_1 : decode yM_wrongPlace.2.1 1 = .ok (.invokestatic 215, 3) := by decide +kernel
theorem dM_wrongPlace_4 : decode yM_wrongPlace.2.1 4 = .ok (.ifCond .ne 6, 3) := by decide +kernel
theorem dM_wrongPlace_7 : decode yM_wrongPlace.2.1 7 = .ok (.ldc 96, 2) := by decide +kernel
theorem dM_wrongPlace_9 : decode yM_wrongPlace.2.1 9 = .ok (.ireturn, 1) := by decide +kernel
theorem dM_wrongPlace_10 : decode yM_wrongPlace.2.1 10 = .ok (.aload_n 0, 1) := by decide +kernel
theorem dM_wrongPlace_11 : decode yM_wrongPlace.2.1 11 = .ok (.getfield 37, 3) := by decide +kernel
theorem dM_wrongPlace_14 : decode yM_wrongPlace.2.1 14 = .ok (.iload_n 1, 1) := by decide +kernel
theorem dM_wrongPlace_15 : decode yM_wrongPlace.2.1 15 = .ok (.iaload, 1) := by decide +kernel
theorem dM_wrongPlace_16 : decode yM_wrongPlace.2.1 16 = .ok (.ifCond .ge 6, 3) := by decide +kernel
theorem dM_wrongPlace_19 : decode yM_wrongPlace.2.1 19 = .ok (.ldc 218, 2) := by decide +kernel
theorem dM_wrongPlace_21 : decode yM_wrongPlace.2.1 21 = .ok (.ireturn, 1) := by decide +kernel
theorem dM_wrongPlace_22 : decode yM_wrongPlace.2.1 22 = .ok (.iload_n 2, 1) := by decide +kernel
theorem dM_wrongPlace_23 : decode yM_wrongPlace.2.1 23 = .ok (.i2l, 1) := by decide +kernel
theorem dM_wrongPlace_24 : decode yM_wrongPlace.2.1 24 = .ok (.lconst 0, 1) := by decide +kernel
theorem dM_wrongPlace_25 : decode yM_wrongPlace.2.1 25 = .ok (.aload_n 0, 1) := by decide +kernel
theorem dM_wrongPlace_26 : decode yM_wrongPlace.2.1 26 = .ok (.getfield 40, 3) := by decide +kernel
theorem dM_wrongPlace_29 : decode yM_wrongPlace.2.1 29 = .ok (.iload_n 1, 1) := by decide +kernel
theorem dM_wrongPlace_30 : decode yM_wrongPlace.2.1 30 = .ok (.iaload, 1) := by decide +kernel
theorem dM_wrongPlace_31 : decode yM_wrongPlace.2.1 31 = .ok (.iconst 1, 1) := by decide +kernel
theorem dM_wrongPlace_32 : decode yM_wrongPlace.2.1 32 = .ok (.isub, 1) := by decide +kernel
theorem dM_wrongPlace_33 : decode yM_wrongPlace.2.1 33 = .ok (.i2l, 1) := by decide +kernel
theorem dM_wrongPlace_34 : decode yM_wrongPlace.2.1 34 = .ok (.invokestatic 65, 3) := by decide +kernel
theorem dM_wrongPlace_37 : decode yM_wrongPlace.2.1 37 = .ok (.ifCond .eq 7, 3) := by decide +kernel
theorem dM_wrongPlace_40 : decode yM_wrongPlace.2.1 40 = .ok (.iconst 0, 1) := by decide +kernel
theorem dM_wrongPlace_41 : decode yM_wrongPlace.2.1 41 = .ok (.goto 6, 3) := by decide +kernel
theorem dM_wrongPlace_44 : decode yM_wrongPlace.2.1 44 = .ok (.ldc_w 333, 3) := by decide +kernel
theorem dM_wrongPlace_47 : decode yM_wrongPlace.2.1 47 = .ok (.ireturn, 1) := by decide +kernel
theorem dM_pour_0 : decode yM_pour.2.1 0 = .ok (.iload_n 1, 1) := by decide +kernel
theorem dM_pour_1 : decode yM_pour.2.1 1 = .ok (.invokestatic 215, 3) := by decide +kernel
theorem dM_pour_4 : decode yM_pour.2.1 4 = .ok (.ifCond .ne 6, 3) := by decide +kernel
theorem dM_pour_7 : decode yM_pour.2.1 7 = .ok (.ldc 96, 2) := by decide +kernel
theorem dM_pour_9 : decode yM_pour.2.1 9 = .ok (.ireturn, 1) := by decide +kernel
theorem dM_pour_10 : decode yM_pour.2.1 10 = .ok (.aload_n 0, 1) := by decide +kernel
theorem dM_pour_11 : decode yM_pour.2.1 11 = .ok (.getfield 37, 3) := by decide +kernel
theorem dM_pour_14 : decode yM_pour.2.1 14 = .ok (.iload_n 1, 1) := by decide +kernel
theorem dM_pour_15 : decode yM_pour.2.1 15 = .ok (.iaload, 1) := by decide +kernel
theorem dM_pour_16 : decode yM_pour.2.1 16 = .ok (.ifCond .ge 6, 3) := by decide +kernel
theorem dM_pour_19 : decode yM_pour.2.1 19 = .ok (.ldc 218, 2) := by decide +kernel
theorem dM_pour_21 : decode yM_pour.2.1 21 = .ok (.ireturn, 1) := by decide +kernel
theorem dM_pour_22 : decode yM_pour.2.1 22 = .ok (.iconst 0, 1) := by decide +kernel
theorem dM_pour_23 : decode yM_pour.2.1 23 = .ok (.istore_n 2, 1) := by decide +kernel
theorem dM_pour_24 : decode yM_pour.2.1 24 = .ok (.iconst 0, 1) := by decide +kernel
theorem dM_pour_25 : decode yM_pour.2.1 25 = .ok (.istore_n 3, 1) := by decide +kernel
theorem dM_pour_26 : decode yM_pour.2.1 26 = .ok (.iload_n 3, 1) := by decide +kernel
theorem dM_pour_27 : decode yM_pour.2.1 27 = .ok (.aload_n 0, 1) := by decide +kernel
theorem dM_pour_28 : decode yM_pour.2.1 28 = .ok (.getfield 7, 3) := by decide +kernel
theorem dM_pour_31 : decode yM_pour.2.1 31 = .ok (.iconst 0, 1) := by decide +kernel
theorem dM_pour_32 : decode yM_pour.2.1 32 = .ok (.iaload, 1) := by decide +kernel
theorem dM_pour_33 : decode yM_pour.2.1 33 = .ok (.if_icmp .ge 85, 3) := by decide +kernel
theorem dM_pour_36 : decode yM_pour.2.1 36 = .ok (.iload_n 3, 1) := by decide +kernel
theorem dM_pour_37 : decode yM_pour.2.1 37 = .ok (.aload_n 0, 1) := by decide +kernel
theorem dM_pour_38 : decode yM_pour.2.1 38 = .ok (.getfield 40, 3) := by decide +kernel
theorem dM_pour_41 : decode yM_pour.2.1 41 = .ok (.iload_n 1, 1) := by decide +kernel
theorem dM_pour_42 : decode yM_pour.2.1 42 = .ok (.iaload, 1) := by decide +kernel
theorem dM_pour_43 : decode yM_pour.2.1 43 = .ok (.if_icmp .ge 75, 3) := by decide +kernel
theorem dM_pour_46 : decode yM_pour.2.1 46 = .ok (.aload_n 0, 1) := by decide +kernel
theorem dM_pour_47 : decode yM_pour.2.1 47 = .ok (.getfield 43, 3) := by decide +kernel
theorem dM_pour_50 : decode yM_pour.2.1 50 = .ok (.bipush 24, 2) := by decide +kernel
theorem dM_pour_52 : decode yM_pour.2.1 52 = .ok (.iload_n 1, 1) := by decide +kernel
theorem dM_pour_53 : decode yM_pour.2.1 53 = .ok (.imul, 1) := by decide +kernel
theorem dM_pour_54 : decode yM_pour.2.1 54 = .ok (.iload_n 3, 1) := by decide +kernel
theorem dM_pour_55 : decode yM_pour.2.1 55 = .ok (.iadd, 1) := by decide +kernel
theorem dM_pour_56 : decode yM_pour.2.1 56 = .ok (.iaload, 1) := by decide +kernel
theorem dM_pour_57 : decode yM_pour.2.1 57 = .ok (.istore 4, 2) := by decide +kernel
theorem dM_pour_59 : decode yM_pour.2.1 59 = .ok (.iload 4, 2) := by decide +kernel
theorem dM_pour_61 : decode yM_pour.2.1 61 = .ok (.ldc 169, 2) := by decide +kernel
theorem dM_pour_63 : decode yM_pour.2.1 63 = .ok (.if_icmp .ne 12, 3) := by decide +kernel
theorem dM_pour_66 : decode yM_pour.2.1 66 = .ok (.aload_n 0, 1) := by decide +kernel
theorem dM_pour_67 : decode yM_pour.2.1 67 = .ok (.iload_n 3, 1) := by decide +kernel
theorem dM_pour_68 : decode yM_pour.2.1 68 = .ok (.iconst 1, 1) := by decide +kernel
theorem dM_pour_69 : decode yM_pour.2.1 69 = .ok (.invokevirtual 79, 3) := by decide +kernel
theorem dM_pour_72 : decode yM_pour.2.1 72 = .ok (.goto 11, 3) := by decide +kernel
theorem dM_pour_75 : decode yM_pour.2.1 75 = .ok (.iload 4, 2) := by decide +kernel
theorem dM_pour_77 : decode yM_pour.2.1 77 = .ok (.iconst 0, 1) := by decide +kernel
theorem dM_pour_78 : decode yM_pour.2.1 78 = .ok (.bipush 99, 2) := by decide +kernel
theorem dM_pour_80 : decode yM_pour.2.1 80 = .ok (.invokestatic 89, 3) := by decide +kernel
theorem dM_pour_83 : decode yM_pour.2.1 83 = .ok (.istore 5, 2) := by decide +kernel
theorem dM_pour_85 : decode yM_pour.2.1 85 = .ok (.iload_n 2, 1) := by decide +kernel
theorem dM_pour_86 : decode yM_pour.2.1 86 = .ok (.aload_n 0, 1) := by decide +kernel
theorem dM_pour_87 : decode yM_pour.2.1 87 = .ok (.iload_n 3, 1) := by decide +kernel
theorem dM_pour_88 : decode yM_pour.2.1 88 = .ok (.iconst 1, 1) := by decide +kernel
theorem dM_pour_89 : decode yM_pour.2.1 89 = .ok (.invokestatic 61, 3) := by decide +kernel
theorem dM_pour_92 : decode yM_pour.2.1 92 = .ok (.iload 5, 2) := by decide +kernel
theorem dM_pour_94 : decode yM_pour.2.1 94 = .ok (.invokevirtual 130, 3) := by decide +kernel
theorem dM_pour_97 : decode yM_pour.2.1 97 = .ok (.iload 5, 2) := by decide +kernel
theorem dM_pour_99 : decode yM_pour.2.1 99 = .ok (.if_icmp .eq 7, 3) := by decide +kernel
theorem dM_pour_102 : decode yM_pour.2.1 102 = .ok (.iconst 1, 1) := by decide +kernel
theorem dM_pour_103 : decode yM_pour.2.1 103 = .ok (.goto 4, 3) := by decide +kernel
theorem dM_pour_106 : decode yM_pour.2.1 106 = .ok (.iconst 0, 1) := by decide +kernel
theorem dM_pour_107 : decode yM_pour.2.1 107 = .ok (.invokestatic 71, 3) := by decide +kernel
theorem dM_pour_110 : decode yM_pour.2.1 110 = .ok (.iadd, 1) := by decide +kernel
theorem dM_pour_111 : decode yM_pour.2.1 111 = .ok (.istore_n 2, 1) := by decide +kernel
theorem dM_pour_112 : decode yM_pour.2.1 112 = .ok (.iinc 3 1, 3) := by decide +kernel
theorem dM_pour_115 : decode yM_pour.2.1 115 = .ok (.goto (-89), 3) := by decide +kernel
theorem dM_pour_118 : decode yM_pour.2.1 118 = .ok (.iload_n 2, 1) := by decide +kernel
theorem dM_pour_119 : decode yM_pour.2.1 119 = .ok (.ireturn, 1) := by decide +kernel
theorem dM_reads_0 : decode yM_reads.2.1 0 = .ok (.iload_n 1, 1) := by decide +kernel
theorem dM_reads_1 : decode yM_reads.2.1 1 = .ok (.invokestatic 215, 3) := by decide +kernel
theorem dM_reads_4 : decode yM_reads.2.1 4 = .ok (.ifCond .ne 6, 3) := by decide +kernel
theorem dM_reads_7 : decode yM_reads.2.1 7 = .ok (.ldc 96, 2) := by decide +kernel
theorem dM_reads_9 : decode yM_reads.2.1 9 = .ok (.ireturn, 1) := by decide +kernel
theorem dM_reads_10 : decode yM_reads.2.1 10 = .ok (.aload_n 0, 1) := by decide +kernel
theorem dM_reads_11 : decode yM_reads.2.1 11 = .ok (.getfield 37, 3) := by decide +kernel
theorem dM_reads_14 : decode yM_reads.2.1 14 = .ok (.iload_n 1, 1) := by decide +kernel
theorem dM_reads_15 : decode yM_reads.2.1 15 = .ok (.iaload, 1) := by decide +kernel
theorem dM_reads_16 : decode yM_reads.2.1 16 = .ok (.ifCond .ge 6, 3) := by decide +kernel
theorem dM_reads_19 : decode yM_reads.2.1 19 = .ok (.ldc 218, 2) := by decide +kernel
theorem dM_reads_21 : decode yM_reads.2.1 21 = .ok (.ireturn, 1) := by decide +kernel
theorem dM_reads_22 : decode yM_reads.2.1 22 = .ok (.iconst 0, 1) := by decide +kernel
theorem dM_reads_23 : decode yM_reads.2.1 23 = .ok (.istore_n 2, 1) := by decide +kernel
theorem dM_reads_24 : decode yM_reads.2.1 24 = .ok (.iload_n 2, 1) := by decide +kernel
theorem dM_reads_25 : decode yM_reads.2.1 25 = .ok (.aload_n 0, 1) := by decide +kernel
theorem dM_reads_26 : decode yM_reads.2.1 26 = .ok (.getfield 40, 3) := by decide +kernel
theorem dM_reads_29 : decode yM_reads.2.1 29 = .ok (.iload_n 1, 1) := by decide +kernel
theorem dM_reads_30 : decode yM_reads.2.1 30 = .ok (.iaload, 1) := by decide +kernel
theorem dM_reads_31 : decode yM_reads.2.1 31 = .ok (.if_icmp .ge 47, 3) := by decide +kernel
theorem dM_reads_34 : decode yM_reads.2.1 34 = .ok (.aload_n 0, 1) := by decide +kernel
theorem dM_reads_35 : decode yM_reads.2.1 35 = .ok (.getfield 43, 3) := by decide +kernel
theorem dM_reads_38 : decode yM_reads.2.1 38 = .ok (.bipush 24, 2) := by decide +kernel
theorem dM_reads_40 : decode yM_reads.2.1 40 = .ok (.iload_n 1, 1) := by decide +kernel
theorem dM_reads_41 : decode yM_reads.2.1 41 = .ok (.imul, 1) := by decide +kernel
theorem dM_reads_42 : decode yM_reads.2.1 42 = .ok (.iload_n 2, 1) := by decide +kernel
theorem dM_reads_43 : decode yM_reads.2.1 43 = .ok (.iadd, 1) := by decide +kernel
theorem dM_reads_44 : decode yM_reads.2.1 44 = .ok (.iaload, 1) := by decide +kernel
theorem dM_reads_45 : decode yM_reads.2.1 45 = .ok (.istore_n 3, 1) := by decide +kernel
theorem dM_reads_46 : decode yM_reads.2.1 46 = .ok (.iload_n 3, 1) := by decide +kernel
theorem dM_reads_47 : decode yM_reads.2.1 47 = .ok (.ldc 169, 2) := by decide +kernel
theorem dM_reads_49 : decode yM_reads.2.1 49 = .ok (.if_icmp .eq 23, 3) := by decide +kernel
theorem dM_reads_52 : decode yM_reads.2.1 52 = .ok (.aload_n 0, 1) := by decide +kernel
theorem dM_reads_53 : decode yM_reads.2.1 53 = .ok (.iload_n 2, 1) := by decide +kernel
theorem dM_reads_54 : decode yM_reads.2.1 54 = .ok (.invokevirtual 92, 3) := by decide +kernel
theorem dM_reads_57 : decode yM_reads.2.1 57 = .ok (.ifCond .eq 13, 3) := by decide +kernel
theorem dM_reads_60 : decode yM_reads.2.1 60 = .ok (.aload_n 0, 1) := by decide +kernel
theorem dM_reads_61 : decode yM_reads.2.1 61 = .ok (.iload_n 2, 1) := by decide +kernel
theorem dM_reads_62 : decode yM_reads.2.1 62 = .ok (.iconst 3, 1) := by decide +kernel
theorem dM_reads_63 : decode yM_reads.2.1 63 = .ok (.invokevirtual 79, 3) := by decide +kernel
theorem dM_reads_66 : decode yM_reads.2.1 66 = .ok (.iload_n 3, 1) := by decide +kernel
theorem dM_reads_67 : decode yM_reads.2.1 67 = .ok (.if_icmp .eq 5, 3) := by decide +kernel
theorem dM_reads_70 : decode yM_reads.2.1 70 = .ok (.iload_n 2, 1) := by decide +kernel
theorem dM_reads_71 : decode yM_reads.2.1 71 = .ok (.ireturn, 1) := by decide +kernel
theorem dM_reads_72 : decode yM_reads.2.1 72 = .ok (.iinc 2 1, 3) := by decide +kernel
theorem dM_reads_75 : decode yM_reads.2.1 75 = .ok (.goto (-51), 3) := by decide +kernel
theorem dM_reads_78 : decode yM_reads.2.1 78 = .ok (.ldc 169, 2) := by decide +kernel
theorem dM_reads_80 : decode yM_reads.2.1 80 = .ok (.ireturn, 1) := by decide +kernel
theorem dM_copy_0 : decode yM_copy.2.1 0 = .ok (.iload_n 1, 1) := by decide +kernel
theorem dM_copy_1 : decode yM_copy.2.1 1 = .ok (.invokestatic 215, 3) := by decide +kernel
theorem dM_copy_4 : decode yM_copy.2.1 4 = .ok (.ifCond .eq 10, 3) := by decide +kernel
theorem dM_copy_7 : decode yM_copy.2.1 7 = .ok (.iload_n 3, 1) := by decide +kernel
theorem dM_copy_8 : decode yM_copy.2.1 8 = .ok (.invokestatic 215, 3) := by decide +kernel
theorem dM_copy_11 : decode yM_copy.2.1 11 = .ok (.ifCond .ne 6, 3) := by decide +kernel
theorem dM_copy_14 : decode yM_copy.2.1 14 = .ok (.ldc 96, 2) := by decide +kernel
theorem dM_copy_16 : decode yM_copy.2.1 16 = .ok (.ireturn, 1) := by decide +kernel
theorem dM_copy_17 : decode yM_copy.2.1 17 = .ok (.aload_n 0, 1) := by decide +kernel
theorem dM_copy_18 : decode yM_copy.2.1 18 = .ok (.getfield 37, 3) := by decide +kernel
theorem dM_copy_21 : decode yM_copy.2.1 21 = .ok (.iload_n 1, 1) := by decide +kernel
theorem dM_copy_22 : decode yM_copy.2.1 22 = .ok (.iaload, 1) := by decide +kernel
theorem dM_copy_23 : decode yM_copy.2.1 23 = .ok (.ifCond .lt 12, 3) := by decide +kernel
theorem dM_copy_26 : decode yM_copy.2.1 26 = .ok (.aload_n 0, 1) := by decide +kernel
theorem dM_copy_27 : decode yM_copy.2.1 27 = .ok (.getfield 37, 3) := by decide +kernel
theorem dM_copy_30 : decode yM_copy.2.1 30 = .ok (.iload_n 3, 1) := by decide +kernel
theorem dM_copy_31 : decode yM_copy.2.1 31 = .ok (.iaload, 1) := by decide +kernel
theorem dM_copy_32 : decode yM_copy.2.1 32 = .ok (.ifCond .ge 6, 3) := by decide +kernel
theorem dM_copy_35 : decode yM_copy.2.1 35 = .ok (.ldc 218, 2) := by decide +kernel
theorem dM_copy_37 : decode yM_copy.2.1 37 = .ok (.ireturn, 1) := by decide +kernel
theorem dM_copy_38 : decode yM_copy.2.1 38 = .ok (.aload_n 0, 1) := by decide +kernel
theorem dM_copy_39 : decode yM_copy.2.1 39 = .ok (.getfield 37, 3) := by decide +kernel
theorem dM_copy_42 : decode yM_copy.2.1 42 = .ok (.iload_n 1, 1) := by decide +kernel
theorem dM_copy_43 : decode yM_copy.2.1 43 = .ok (.iaload, 1) := by decide +kernel
theorem dM_copy_44 : decode yM_copy.2.1 44 = .ok (.aload_n 0, 1) := by decide +kernel
theorem dM_copy_45 : decode yM_copy.2.1 45 = .ok (.getfield 37, 3) := by decide +kernel
theorem dM_copy_48 : decode yM_copy.2.1 48 = .ok (.iload_n 3, 1) := by decide +kernel
theorem dM_copy_49 : decode yM_copy.2.1 49 = .ok (.iaload, 1) := by decide +kernel
theorem dM_copy_50 : decode yM_copy.2.1 50 = .ok (.if_icmp .eq 6, 3) := by decide +kernel
theorem dM_copy_53 : decode yM_copy.2.1 53 = .ok (.ldc 129, 2) := by decide +kernel
theorem dM_copy_55 : decode yM_copy.2.1 55 = .ok (.ireturn, 1) := by decide +kernel
theorem dM_copy_56 : decode yM_copy.2.1 56 = .ok (.aload_n 0, 1) := by decide +kernel
theorem dM_copy_57 : decode yM_copy.2.1 57 = .ok (.iload_n 1, 1) := by decide +kernel
theorem dM_copy_58 : decode yM_copy.2.1 58 = .ok (.iload_n 2, 1) := by decide +kernel
theorem dM_copy_59 : decode yM_copy.2.1 59 = .ok (.iload 5, 2) := by decide +kernel
theorem dM_copy_61 : decode yM_copy.2.1 61 = .ok (.invokevirtual 339, 3) := by decide +kernel
theorem dM_copy_64 : decode yM_copy.2.1 64 = .ok (.ifCond .eq 15, 3) := by decide +kernel
theorem dM_copy_67 : decode yM_copy.2.1 67 = .ok (.aload_n 0, 1) := by decide +kernel
theorem dM_copy_68 : decode yM_copy.2.1 68 = .ok (.iload_n 3, 1) := by decide +kernel
theorem dM_copy_69 : decode yM_copy.2.1 69 = .ok (.iload 4, 2) := by decide +kernel
theorem dM_copy_71 : decode yM_copy.2.1 71 = .ok (.iload 5, 2) := by decide +kernel
theorem dM_copy_73 : decode yM_copy.2.1 73 = .ok (.invokevirtual 339, 3) := by decide +kernel
theorem dM_copy_76 : decode yM_copy.2.1 76 = .ok (.ifCond .ne 7, 3) := by decide +kernel
theorem dM_copy_79 : decode yM_copy.2.1 79 = .ok (.ldc_w 333, 3) := by decide +kernel
theorem dM_copy_82 : decode yM_copy.2.1 82 = .ok (.ireturn, 1) := by decide +kernel
theorem dM_copy_83 : decode yM_copy.2.1 83 = .ok (.iconst 0, 1) := by decide +kernel
theorem dM_copy_84 : decode yM_copy.2.1 84 = .ok (.istore 6, 2) := by decide +kernel
theorem dM_copy_86 : decode yM_copy.2.1 86 = .ok (.iload 6, 2) := by decide +kernel
theorem dM_copy_88 : decode yM_copy.2.1 88 = .ok (.iload 5, 2) := by decide +kernel
theorem dM_copy_90 : decode yM_copy.2.1 90 = .ok (.if_icmp .ge 30, 3) := by decide +kernel
theorem dM_copy_93 : decode yM_copy.2.1 93 = .ok (.aload_n 0, 1) := by decide +kernel
theorem dM_copy_94 : decode yM_copy.2.1 94 = .ok (.getfield 46, 3) := by decide +kernel
theorem dM_copy_97 : decode yM_copy.2.1 97 = .ok (.iload 6, 2) := by decide +kernel
theorem dM_copy_99 : decode yM_copy.2.1 99 = .ok (.aload_n 0, 1) := by decide +kernel
theorem dM_copy_100 : decode yM_copy.2.1 100 = .ok (.getfield 43, 3) := by decide +kernel
theorem dM_copy_103 : decode yM_copy.2.1 103 = .ok (.bipush 24, 2) := by decide +kernel
theorem dM_copy_105 : decode yM_copy.2.1 105 = .ok (.iload_n 1, 1) := by decide +kernel
theorem dM_copy_106 : decode yM_copy.2.1 106 = .ok (.imul, 1) := by decide +kernel
theorem dM_copy_107 : decode yM_copy.2.1 107 = .ok (.iload_n 2, 1) := by decide +kernel
theorem dM_copy_108 : decode yM_copy.2.1 108 = .ok (.iadd, 1) := by decide +kernel
theorem dM_copy_109 : decode yM_copy.2.1 109 = .ok (.iload 6, 2) := by decide +kernel
theorem dM_copy_111 : decode yM_copy.2.1 111 = .ok (.iadd, 1) := by decide +kernel
theorem dM_copy_112 : decode yM_copy.2.1 112 = .ok (.iaload, 1) := by decide +kernel
theorem dM_copy_113 : decode yM_copy.2.1 113 = .ok (.iastore, 1) := by decide +kernel
theorem dM_copy_114 : decode yM_copy.2.1 114 = .ok (.iinc 6 1, 3) := by decide +kernel
theorem dM_copy_117 : decode yM_copy.2.1 117 = .ok (.goto (-31), 3) := by decide +kernel
theorem dM_copy_120 : decode yM_copy.2.1 120 = .ok (.iconst 0, 1) := by decide +kernel
theorem dM_copy_121 : decode yM_copy.2.1 121 = .ok (.istore 6, 2) := by decide +kernel
theorem dM_copy_123 : decode yM_copy.2.1 123 = .ok (.iload 6, 2) := by decide +kernel
theorem dM_copy_125 : decode yM_copy.2.1 125 = .ok (.iload 5, 2) := by decide +kernel
theorem dM_copy_127 : decode yM_copy.2.1 127 = .ok (.if_icmp .ge 31, 3) := by decide +kernel
theorem dM_copy_130 : decode yM_copy.2.1 130 = .ok (.aload_n 0, 1) := by decide +kernel
theorem dM_copy_131 : decode yM_copy.2.1 131 = .ok (.getfield 43, 3) := by decide +kernel
theorem dM_copy_134 : decode yM_copy.2.1 134 = .ok (.bipush 24, 2) := by decide +kernel
theorem dM_copy_136 : decode yM_copy.2.1 136 = .ok (.iload_n 3, 1) := by decide +kernel
theorem dM_copy_137 : decode yM_copy.2.1 137 = .ok (.imul, 1) := by decide +kernel
theorem dM_copy_138 : decode yM_copy.2.1 138 = .ok (.iload 4, 2) := by decide +kernel
theorem dM_copy_140 : decode yM_copy.2.1 140 = .ok (.iadd, 1) := by decide +kernel
theorem dM_copy_141 : decode yM_copy.2.1 141 = .ok (.iload 6, 2) := by decide +kernel
theorem dM_copy_143 : decode yM_copy.2.1 143 = .ok (.iadd, 1) := by decide +kernel
theorem dM_copy_144 : decode yM_copy.2.1 144 = .ok (.aload_n 0, 1) := by decide +kernel
theorem dM_copy_145 : decode yM_copy.2.1 145 = .ok (.getfield 46, 3) := by decide +kernel
theorem dM_copy_148 : decode yM_copy.2.1 148 = .ok (.iload 6, 2) := by decide +kernel
theorem dM_copy_150 : decode yM_copy.2.1 150 = .ok (.iaload, 1) := by decide +kernel
theorem dM_copy_151 : decode yM_copy.2.1 151 = .ok (.iastore, 1) := by decide +kernel
theorem dM_copy_152 : decode yM_copy.2.1 152 = .ok (.iinc 6 1, 3) := by decide +kernel
theorem dM_copy_155 : decode yM_copy.2.1 155 = .ok (.goto (-32), 3) := by decide +kernel
theorem dM_copy_158 : decode yM_copy.2.1 158 = .ok (.iload 5, 2) := by decide +kernel
theorem dM_copy_160 : decode yM_copy.2.1 160 = .ok (.ireturn, 1) := by decide +kernel
theorem dM_isThere_0 : decode yM_isThere.2.1 0 = .ok (.iload_n 2, 1) := by decide +kernel
theorem dM_isThere_1 : decode yM_isThere.2.1 1 = .ok (.ifCond .lt 23, 3) := by decide +kernel
theorem dM_isThere_4 : decode yM_isThere.2.1 4 = .ok (.iload_n 3, 1) := by decide +kernel
theorem dM_isThere_5 : decode yM_isThere.2.1 5 = .ok (.ifCond .lt 19, 3) := by decide +kernel
theorem dM_isThere_8 : decode yM_isThere.2.1 8 = .ok (.iload_n 3, 1) := by decide +kernel
theorem dM_isThere_9 : decode yM_isThere.2.1 9 = .ok (.aload_n 0, 1) := by decide +kernel
theorem dM_isThere_10 : decode yM_isThere.2.1 10 = .ok (.getfield 40, 3) := by decide +kernel
theorem dM_isThere_13 : decode yM_isThere.2.1 13 = .ok (.iload_n 1, 1) := by decide +kernel
theorem dM_isThere_14 : decode yM_isThere.2.1 14 = .ok (.iaload, 1) := by decide +kernel
theorem dM_isThere_15 : decode yM_isThere.2.1 15 = .ok (.iload_n 2, 1) := by decide +kernel
theorem dM_isThere_16 : decode yM_isThere.2.1 16 = .ok (.isub, 1) := by decide +kernel
theorem dM_isThere_17 : decode yM_isThere.2.1 17 = .ok (.if_icmp .gt 7, 3) := by decide +kernel
theorem dM_isThere_20 : decode yM_isThere.2.1 20 = .ok (.iconst 1, 1) := by decide +kernel
theorem dM_isThere_21 : decode yM_isThere.2.1 21 = .ok (.goto 4, 3) := by decide +kernel
theorem dM_isThere_24 : decode yM_isThere.2.1 24 = .ok (.iconst 0, 1) := by decide +kernel
theorem dM_isThere_25 : decode yM_isThere.2.1 25 = .ok (.ireturn, 1) := by decide +kernel
theorem dM_lay_0 : decode yM_lay.2.1 0 = .ok (.iload_n 2, 1) := by decide +kernel
theorem dM_lay_1 : decode yM_lay.2.1 1 = .ok (.iconst 1, 1) := by decide +kernel
theorem dM_lay_2 : decode yM_lay.2.1 2 = .ok (.if_icmp .ne 11, 3) := by decide +kernel
theorem dM_lay_5 : decode yM_lay.2.1 5 = .ok (.aload_n 0, 1) := by decide +kernel
theorem dM_lay_6 : decode yM_lay.2.1 6 = .ok (.iload_n 3, 1) := by decide +kernel
theorem dM_lay_7 : decode yM_lay.2.1 7 = .ok (.invokevirtual 92, 3) := by decide +kernel
theorem dM_lay_10 : decode yM_lay.2.1 10 = .ok (.goto 29, 3) := by decide +kernel
theorem dM_lay_13 : decode yM_lay.2.1 13 = .ok (.iload_n 2, 1) := by decide +kernel
theorem dM_lay_14 : decode yM_lay.2.1 14 = .ok (.iconst 2, 1) := by decide +kernel
theorem dM_lay_15 : decode yM_lay.2.1 15 = .ok (.if_icmp .ne 10, 3) := by decide +kernel
theorem dM_lay_18 : decode yM_lay.2.1 18 = .ok (.iload_n 3, 1) := by decide +kernel
theorem dM_lay_19 : decode yM_lay.2.1 19 = .ok (.invokestatic 215, 3) := by decide +kernel
theorem dM_lay_22 : decode yM_lay.2.1 22 = .ok (.goto 17, 3) := by decide +kernel
theorem dM_lay_25 : decode yM_lay.2.1 25 = .ok (.iload_n 2, 1) := by decide +kernel
theorem dM_lay_26 : decode yM_lay.2.1 26 = .ok (.ifCond .eq 8, 3) := by decide +kernel
theorem dM_lay_29 : decode yM_lay.2.1 29 = .ok (.iload_n 2, 1) := by decide +kernel
theorem dM_lay_30 : decode yM_lay.2.1 30 = .ok (.iconst 3, 1) := by decide +kernel
theorem dM_lay_31 : decode yM_lay.2.1 31 = .ok (.if_icmp .ne 7, 3) := by decide +kernel
theorem dM_lay_34 : decode yM_lay.2.1 34 = .ok (.iconst 1, 1) := by decide +kernel
theorem dM_lay_35 : decode yM_lay.2.1 35 = .ok (.goto 4, 3) := by decide +kernel
theorem dM_lay_38 : decode yM_lay.2.1 38 = .ok (.iconst 0, 1) := by decide +kernel
theorem dM_lay_39 : decode yM_lay.2.1 39 = .ok (.istore 4, 2) := by decide +kernel
theorem dM_lay_41 : decode yM_lay.2.1 41 = .ok (.iload_n 1, 1) := by decide +kernel
theorem dM_lay_42 : decode yM_lay.2.1 42 = .ok (.invokestatic 349, 3) := by decide +kernel
theorem dM_lay_45 : decode yM_lay.2.1 45 = .ok (.ifCond .eq 8, 3) := by decide +kernel
theorem dM_lay_48 : decode yM_lay.2.1 48 = .ok (.iload 4, 2) := by decide +kernel
theorem dM_lay_50 : decode yM_lay.2.1 50 = .ok (.ifCond .ne 6, 3) := by decide +kernel
theorem dM_lay_53 : decode yM_lay.2.1 53 = .ok (.ldc 96, 2) := by decide +kernel
theorem dM_lay_55 : decode yM_lay.2.1 55 = .ok (.ireturn, 1) := by decide +kernel
theorem dM_lay_56 : decode yM_lay.2.1 56 = .ok (.iload_n 2, 1) := by decide +kernel
theorem dM_lay_57 : decode yM_lay.2.1 57 = .ok (.iconst 2, 1) := by decide +kernel
theorem dM_lay_58 : decode yM_lay.2.1 58 = .ok (.if_icmp .ne 17, 3) := by decide +kernel
theorem dM_lay_61 : decode yM_lay.2.1 61 = .ok (.aload_n 0, 1) := by decide +kernel
theorem dM_lay_62 : decode yM_lay.2.1 62 = .ok (.getfield 37, 3) := by decide +kernel
theorem dM_lay_65 : decode yM_lay.2.1 65 = .ok (.iload_n 3, 1) := by decide +kernel
theorem dM_lay_66 : decode yM_lay.2.1 66 = .ok (.iaload, 1) := by decide +kernel
theorem dM_lay_67 : decode yM_lay.2.1 67 = .ok (.ifCond .ge 8, 3) := by decide +kernel
theorem dM_lay_70 : decode yM_lay.2.1 70 = .ok (.ldc 218, 2) := by decide +kernel
theorem dM_lay_72 : decode yM_lay.2.1 72 = .ok (.goto 10, 3) := by decide +kernel
theorem dM_lay_75 : decode yM_lay.2.1 75 = .ok (.aload_n 0, 1) := by decide +kernel
theorem dM_lay_76 : decode yM_lay.2.1 76 = .ok (.iload_n 1, 1) := by decide +kernel
theorem dM_lay_77 : decode yM_lay.2.1 77 = .ok (.iload_n 2, 1) := by decide +kernel
theorem dM_lay_78 : decode yM_lay.2.1 78 = .ok (.iload_n 3, 1) := by decide +kernel
theorem dM_lay_79 : decode yM_lay.2.1 79 = .ok (.invokevirtual 352, 3) := by decide +kernel
theorem dM_lay_82 : decode yM_lay.2.1 82 = .ok (.ireturn, 1) := by decide +kernel
theorem dM_isSlot_0 : decode yM_isSlot.2.1 0 = .ok (.iload_n 0, 1) := by decide +kernel
theorem dM_isSlot_1 : decode yM_isSlot.2.1 1 = .ok (.i2l, 1) := by decide +kernel
theorem dM_isSlot_2 : decode yM_isSlot.2.1 2 = .ok (.lconst 0, 1) := by decide +kernel
theorem dM_isSlot_3 : decode yM_isSlot.2.1 3 = .ok (.ldc2_w 133, 3) := by decide +kernel
theorem dM_isSlot_6 : decode yM_isSlot.2.1 6 = .ok (.invokestatic 65, 3) := by decide +kernel
theorem dM_isSlot_9 : decode yM_isSlot.2.1 9 = .ok (.ireturn, 1) := by decide +kernel
theorem dM_laid_0 : decode yM_laid.2.1 0 = .ok (.aload_n 0, 1) := by decide +kernel
theorem dM_laid_1 : decode yM_laid.2.1 1 = .ok (.getfield 49, 3) := by decide +kernel
theorem dM_laid_4 : decode yM_laid.2.1 4 = .ok (.iload_n 1, 1) := by decide +kernel
theorem dM_laid_5 : decode yM_laid.2.1 5 = .ok (.iaload, 1) := by decide +kernel
theorem dM_laid_6 : decode yM_laid.2.1 6 = .ok (.istore 4, 2) := by decide +kernel
theorem dM_laid_8 : decode yM_laid.2.1 8 = .ok (.aload_n 0, 1) := by decide +kernel
theorem dM_laid_9 : decode yM_laid.2.1 9 = .ok (.getfield 49, 3) := by decide +kernel
theorem dM_laid_12 : decode yM_laid.2.1 12 = .ok (.iload_n 1, 1) := by decide +kernel
theorem dM_laid_13 : decode yM_laid.2.1 13 = .ok (.iload_n 2, 1) := by decide +kernel
theorem dM_laid_14 : decode yM_laid.2.1 14 = .ok (.iastore, 1) := by decide +kernel
theorem dM_laid_15 : decode yM_laid.2.1 15 = .ok (.aload_n 0, 1) := by decide +kernel
theorem dM_laid_16 : decode yM_laid.2.1 16 = .ok (.getfield 52, 3) := by decide +kernel
theorem dM_laid_19 : decode yM_laid.2.1 19 = .ok (.iload_n 1, 1) := by decide +kernel
theorem dM_laid_20 : decode yM_laid.2.1 20 = .ok (.iload_n 3, 1) := by decide +kernel
theorem dM_laid_21 : decode yM_laid.2.1 21 = .ok (.iastore, 1) := by decide +kernel
theorem dM_laid_22 : decode yM_laid.2.1 22 = .ok (.iload_n 2, 1) := by decide +kernel
theorem dM_laid_23 : decode yM_laid.2.1 23 = .ok (.iconst 1, 1) := by decide +kernel
theorem dM_laid_24 : decode yM_laid.2.1 24 = .ok (.if_icmp .ne 9, 3) := by decide +kernel
theorem dM_laid_27 : decode yM_laid.2.1 27 = .ok (.aload_n 0, 1) := by decide +kernel
theorem dM_laid_28 : decode yM_laid.2.1 28 = .ok (.iload_n 1, 1) := by decide +kernel
theorem dM_laid_29 : decode yM_laid.2.1 29 = .ok (.iload_n 3, 1) := by decide +kernel
theorem dM_laid_30 : decode yM_laid.2.1 30 = .ok (.invokevirtual 342, 3) := by decide +kernel
theorem dM_laid_33 : decode yM_laid.2.1 33 = .ok (.iload_n 2, 1) := by decide +kernel
theorem dM_laid_34 : decode yM_laid.2.1 34 = .ok (.iconst 2, 1) := by decide +kernel
theorem dM_laid_35 : decode yM_laid.2.1 35 = .ok (.if_icmp .ne 9, 3) := by decide +kernel
theorem dM_laid_38 : decode yM_laid.2.1 38 = .ok (.aload_n 0, 1) := by decide +kernel
theorem dM_laid_39 : decode yM_laid.2.1 39 = .ok (.iload_n 1, 1) := by decide +kernel
theorem dM_laid_40 : decode yM_laid.2.1 40 = .ok (.iload_n 3, 1) := by decide +kernel
theorem dM_laid_41 : decode yM_laid.2.1 41 = .ok (.invokevirtual 346, 3) := by decide +kernel
theorem dM_laid_44 : decode yM_laid.2.1 44 = .ok (.iload 4, 2) := by decide +kernel
theorem dM_laid_46 : decode yM_laid.2.1 46 = .ok (.ireturn, 1) := by decide +kernel
theorem dM_holdsGoose_0 : decode yM_holdsGoose.2.1 0 = .ok (.aload_n 0, 1) := by decide +kernel
theorem dM_holdsGoose_1 : decode yM_holdsGoose.2.1 1 = .ok (.getfield 55, 3) := by decide +kernel
theorem dM_holdsGoose_4 : decode yM_holdsGoose.2.1 4 = .ok (.iconst 4, 1) := by decide +kernel
theorem dM_holdsGoose_5 : decode yM_holdsGoose.2.1 5 = .ok (.iload_n 1, 1) := by decide +kernel
theorem dM_holdsGoose_6 : decode yM_holdsGoose.2.1 6 = .ok (.imul, 1) := by decide +kernel
theorem dM_holdsGoose_7 : decode yM_holdsGoose.2.1 7 = .ok (.aload_n 0, 1) := by decide +kernel
theorem dM_holdsGoose_8 : decode yM_holdsGoose.2.1 8 = .ok (.iload_n 2, 1) := by decide +kernel
theorem dM_holdsGoose_9 : decode yM_holdsGoose.2.1 9 = .ok (.iconst 0, 1) := by decide +kernel
theorem dM_holdsGoose_10 : decode yM_holdsGoose.2.1 10 = .ok (.invokevirtual 79, 3) := by decide +kernel
theorem dM_holdsGoose_13 : decode yM_holdsGoose.2.1 13 = .ok (.iastore, 1) := by decide +kernel
theorem dM_holdsGoose_14 : decode yM_holdsGoose.2.1 14 = .ok (.aload_n 0, 1) := by decide +kernel
theorem dM_holdsGoose_15 : decode yM_holdsGoose.2.1 15 = .ok (.getfield 55, 3) := by decide +kernel
theorem dM_holdsGoose_18 : decode yM_holdsGoose.2.1 18 = .ok (.iconst 4, 1) := by decide +kernel
theorem dM_holdsGoose_19 : decode yM_holdsGoose.2.1 19 = .ok (.iload_n 1, 1) := by decide +kernel
theorem dM_holdsGoose_20 : decode yM_holdsGoose.2.1 20 = .ok (.imul, 1) := by decide +kernel
theorem dM_holdsGoose_21 : decode yM_holdsGoose.2.1 21 = .ok (.iconst 1, 1) := by decide +kernel
theorem dM_holdsGoose_22 : decode yM_holdsGoose.2.1 22 = .ok (.iadd, 1) := by decide +kernel
theorem dM_holdsGoose_23 : decode yM_holdsGoose.2.1 23 = .ok (.aload_n 0, 1) := by decide +kernel
theorem dM_holdsGoose_24 : decode yM_holdsGoose.2.1 24 = .ok (.iload_n 2, 1) := by decide +kernel
theorem dM_holdsGoose_25 : decode yM_holdsGoose.2.1 25 = .ok (.iconst 1, 1) := by decide +kernel
theorem dM_holdsGoose_26 : decode yM_holdsGoose.2.1 26 = .ok (.invokevirtual 79, 3) := by decide +kernel
theorem dM_holdsGoose_29 : decode yM_holdsGoose.2.1 29 = .ok (.iastore, 1) := by decide +kernel
theorem dM_holdsGoose_30 : decode yM_holdsGoose.2.1 30 = .ok (.aload_n 0, 1) := by decide +kernel
theorem dM_holdsGoose_31 : decode yM_holdsGoose.2.1 31 = .ok (.getfield 55, 3) := by decide +kernel
theorem dM_holdsGoose_34 : decode yM_holdsGoose.2.1 34 = .ok (.iconst 4, 1) := by decide +kernel
theorem dM_holdsGoose_35 : decode yM_holdsGoose.2.1 35 = .ok (.iload_n 1, 1) := by decide +kernel
theorem dM_holdsGoose_36 : decode yM_holdsGoose.2.1 36 = .ok (.imul, 1) := by decide +kernel
theorem dM_holdsGoose_37 : decode yM_holdsGoose.2.1 37 = .ok (.iconst 2, 1) := by decide +kernel
theorem dM_holdsGoose_38 : decode yM_holdsGoose.2.1 38 = .ok (.iadd, 1) := by decide +kernel
theorem dM_holdsGoose_39 : decode yM_holdsGoose.2.1 39 = .ok (.aload_n 0, 1) := by decide +kernel
theorem dM_holdsGoose_40 : decode yM_holdsGoose.2.1 40 = .ok (.iload_n 2, 1) := by decide +kernel
theorem dM_holdsGoose_41 : decode yM_holdsGoose.2.1 41 = .ok (.iconst 2, 1) := by decide +kernel
theorem dM_holdsGoose_42 : decode yM_holdsGoose.2.1 42 = .ok (.invokevirtual 79, 3) := by decide +kernel
theorem dM_holdsGoose_45 : decode yM_holdsGoose.2.1 45 = .ok (.iastore, 1) := by decide +kernel
theorem dM_holdsGoose_46 : decode yM_holdsGoose.2.1 46 = .ok (.aload_n 0, 1) := by decide +kernel
theorem dM_holdsGoose_47 : decode yM_holdsGoose.2.1 47 = .ok (.getfield 55, 3) := by decide +kernel
theorem dM_holdsGoose_50 : decode yM_holdsGoose.2.1 50 = .ok (.iconst 4, 1) := by decide +kernel
theorem dM_holdsGoose_51 : decode yM_holdsGoose.2.1 51 = .ok (.iload_n 1, 1) := by decide +kernel
theorem dM_holdsGoose_52 : decode yM_holdsGoose.2.1 52 = .ok (.imul, 1) := by decide +kernel
theorem dM_holdsGoose_53 : decode yM_holdsGoose.2.1 53 = .ok (.iconst 3, 1) := by decide +kernel
theorem dM_holdsGoose_54 : decode yM_holdsGoose.2.1 54 = .ok (.iadd, 1) := by decide +kernel
theorem dM_holdsGoose_55 : decode yM_holdsGoose.2.1 55 = .ok (.aload_n 0, 1) := by decide +kernel
theorem dM_holdsGoose_56 : decode yM_holdsGoose.2.1 56 = .ok (.iload_n 2, 1) := by decide +kernel
theorem dM_holdsGoose_57 : decode yM_holdsGoose.2.1 57 = .ok (.iconst 4, 1) := by decide +kernel
theorem dM_holdsGoose_58 : decode yM_holdsGoose.2.1 58 = .ok (.invokevirtual 79, 3) := by decide +kernel
theorem dM_holdsGoose_61 : decode yM_holdsGoose.2.1 61 = .ok (.iastore, 1) := by decide +kernel
theorem dM_holdsGoose_62 : decode yM_holdsGoose.2.1 62 = .ok (.return_, 1) := by decide +kernel
theorem dM_holdsSheet_0 : decode yM_holdsSheet.2.1 0 = .ok (.aload_n 0, 1) := by decide +kernel
theorem dM_holdsSheet_1 : decode yM_holdsSheet.2.1 1 = .ok (.getfield 37, 3) := by decide +kernel
theorem dM_holdsSheet_4 : decode yM_holdsSheet.2.1 4 = .ok (.iconst 4, 1) := by decide +kernel
theorem dM_holdsSheet_5 : decode yM_holdsSheet.2.1 5 = .ok (.iload_n 1, 1) := by decide +kernel
theorem dM_holdsSheet_6 : decode yM_holdsSheet.2.1 6 = .ok (.iadd, 1) := by decide +kernel
theorem dM_holdsSheet_7 : decode yM_holdsSheet.2.1 7 = .ok (.aload_n 0, 1) := by decide +kernel
theorem dM_holdsSheet_8 : decode yM_holdsSheet.2.1 8 = .ok (.getfield 37, 3) := by decide +kernel
theorem dM_holdsSheet_11 : decode yM_holdsSheet.2.1 11 = .ok (.iload_n 2, 1) := by decide +kernel
theorem dM_holdsSheet_12 : decode yM_holdsSheet.2.1 12 = .ok (.iaload, 1) := by decide +kernel
theorem dM_holdsSheet_13 : decode yM_holdsSheet.2.1 13 = .ok (.iastore, 1) := by decide +kernel
theorem dM_holdsSheet_14 : decode yM_holdsSheet.2.1 14 = .ok (.aload_n 0, 1) := by decide +kernel
theorem dM_holdsSheet_15 : decode yM_holdsSheet.2.1 15 = .ok (.getfield 40, 3) := by decide +kernel
theorem dM_holdsSheet_18 : decode yM_holdsSheet.2.1 18 = .ok (.iconst 4, 1) := by decide +kernel
theorem dM_holdsSheet_19 : decode yM_holdsSheet.2.1 19 = .ok (.iload_n 1, 1) := by decide +kernel
theorem dM_holdsSheet_20 : decode yM_holdsSheet.2.1 20 = .ok (.iadd, 1) := by decide +kernel
theorem dM_holdsSheet_21 : decode yM_holdsSheet.2.1 21 = .ok (.aload_n 0, 1) := by decide +kernel
theorem dM_holdsSheet_22 : decode yM_holdsSheet.2.1 22 = .ok (.getfield 40, 3) := by decide +kernel
theorem dM_holdsSheet_25 : decode yM_holdsSheet.2.1 25 = .ok (.iload_n 2, 1) := by decide +kernel
theorem dM_holdsSheet_26 : decode yM_holdsSheet.2.1 26 = .ok (.iaload, 1) := by decide +kernel
theorem dM_holdsSheet_27 : decode yM_holdsSheet.2.1 27 = .ok (.iastore, 1) := by decide +kernel
theorem dM_holdsSheet_28 : decode yM_holdsSheet.2.1 28 = .ok (.iconst 0, 1) := by decide +kernel
theorem dM_holdsSheet_29 : decode yM_holdsSheet.2.1 29 = .ok (.istore_n 3, 1) := by decide +kernel
theorem dM_holdsSheet_30 : decode yM_holdsSheet.2.1 30 = .ok (.iload_n 3, 1) := by decide +kernel
theorem dM_holdsSheet_31 : decode yM_holdsSheet.2.1 31 = .ok (.bipush 24, 2) := by decide +kernel
theorem dM_holdsSheet_33 : decode yM_holdsSheet.2.1 33 = .ok (.if_icmp .ge 33, 3) := by decide +kernel
theorem dM_holdsSheet_36 : decode yM_holdsSheet.2.1 36 = .ok (.aload_n 0, 1) := by decide +kernel
theorem dM_holdsSheet_37 : decode yM_holdsSheet.2.1 37 = .ok (.getfield 43, 3) := by decide +kernel
theorem dM_holdsSheet_40 : decode yM_holdsSheet.2.1 40 = .ok (.bipush 24, 2) := by decide +kernel
theorem dM_holdsSheet_42 : decode yM_holdsSheet.2.1 42 = .ok (.iconst 4, 1) := by decide +kernel
theorem dM_holdsSheet_43 : decode yM_holdsSheet.2.1 43 = .ok (.iload_n 1, 1) := by decide +kernel
theorem dM_holdsSheet_44 : decode yM_holdsSheet.2.1 44 = .ok (.iadd, 1) := by decide +kernel
theorem dM_holdsSheet_45 : decode yM_holdsSheet.2.1 45 = .ok (.imul, 1) := by decide +kernel
theorem dM_holdsSheet_46 : decode yM_holdsSheet.2.1 46 = .ok (.iload_n 3, 1) := by decide +kernel
theorem dM_holdsSheet_47 : decode yM_holdsSheet.2.1 47 = .ok (.iadd, 1) := by decide +kernel
theorem dM_holdsSheet_48 : decode yM_holdsSheet.2.1 48 = .ok (.aload_n 0, 1) := by decide +kernel
theorem dM_holdsSheet_49 : decode yM_holdsSheet.2.1 49 = .ok (.getfield 43, 3) := by decide +kernel
theorem dM_holdsSheet_52 : decode yM_holdsSheet.2.1 52 = .ok (.bipush 24, 2) := by decide +kernel
theorem dM_holdsSheet_54 : decode yM_holdsSheet.2.1 54 = .ok (.iload_n 2, 1) := by decide +kernel
theorem dM_holdsSheet_55 : decode yM_holdsSheet.2.1 55 = .ok (.imul, 1) := by decide +kernel
theorem dM_holdsSheet_56 : decode yM_holdsSheet.2.1 56 = .ok (.iload_n 3, 1) := by decide +kernel
theorem dM_holdsSheet_57 : decode yM_holdsSheet.2.1 57 = .ok (.iadd, 1) := by decide +kernel
theorem dM_holdsSheet_58 : decode yM_holdsSheet.2.1 58 = .ok (.iaload, 1) := by decide +kernel
theorem dM_holdsSheet_59 : decode yM_holdsSheet.2.1 59 = .ok (.iastore, 1) := by decide +kernel
theorem dM_holdsSheet_60 : decode yM_holdsSheet.2.1 60 = .ok (.iinc 3 1, 3) := by decide +kernel
theorem dM_holdsSheet_63 : decode yM_holdsSheet.2.1 63 = .ok (.goto (-33), 3) := by decide +kernel
theorem dM_holdsSheet_66 : decode yM_holdsSheet.2.1 66 = .ok (.return_, 1) := by decide +kernel
theorem dM_ask_0 : decode yM_ask.2.1 0 = .ok (.iload_n 1, 1) := by decide +kernel
theorem dM_ask_1 : decode yM_ask.2.1 1 = .ok (.invokestatic 349, 3) := by decide +kernel
theorem dM_ask_4 : decode yM_ask.2.1 4 = .ok (.ifCond .eq 10, 3) := by decide +kernel
theorem dM_ask_7 : decode yM_ask.2.1 7 = .ok (.iload_n 2, 1) := by decide +kernel
theorem dM_ask_8 : decode yM_ask.2.1 8 = .ok (.invokestatic 100, 3) := by decide +kernel
theorem dM_ask_11 : decode yM_ask.2.1 11 = .ok (.ifCond .ne 6, 3) := by decide +kernel
theorem dM_ask_14 : decode yM_ask.2.1 14 = .ok (.ldc 96, 2) := by decide +kernel
theorem dM_ask_16 : decode yM_ask.2.1 16 = .ok (.ireturn, 1) := by decide +kernel
theorem dM_ask_17 : decode yM_ask.2.1 17 = .ok (.aload_n 0, 1) := by decide +kernel
theorem dM_ask_18 : decode yM_ask.2.1 18 = .ok (.getfield 49, 3) := by decide +kernel
theorem dM_ask_21 : decode yM_ask.2.1 21 = .ok (.iload_n 1, 1) := by decide +kernel
theorem dM_ask_22 : decode yM_ask.2.1 22 = .ok (.iaload, 1) := by decide +kernel
theorem dM_ask_23 : decode yM_ask.2.1 23 = .ok (.ifCond .ne 6, 3) := by decide +kernel
theorem dM_ask_26 : decode yM_ask.2.1 26 = .ok (.ldc 218, 2) := by decide +kernel
theorem dM_ask_28 : decode yM_ask.2.1 28 = .ok (.ireturn, 1) := by decide +kernel
theorem dM_ask_29 : decode yM_ask.2.1 29 = .ok (.aload_n 0, 1) := by decide +kernel
theorem dM_ask_30 : decode yM_ask.2.1 30 = .ok (.getfield 55, 3) := by decide +kernel
theorem dM_ask_33 : decode yM_ask.2.1 33 = .ok (.iconst 4, 1) := by decide +kernel
theorem dM_ask_34 : decode yM_ask.2.1 34 = .ok (.iload_n 1, 1) := by decide +kernel
theorem dM_ask_35 : decode yM_ask.2.1 35 = .ok (.imul, 1) := by decide +kernel
theorem dM_ask_36 : decode yM_ask.2.1 36 = .ok (.iaload, 1) := by decide +kernel
theorem dM_ask_37 : decode yM_ask.2.1 37 = .ok (.istore_n 3, 1) := by decide +kernel
theorem dM_ask_38 : decode yM_ask.2.1 38 = .ok (.aload_n 0, 1) := by decide +kernel
theorem dM_ask_39 : decode yM_ask.2.1 39 = .ok (.getfield 49, 3) := by decide +kernel
theorem dM_ask_42 : decode yM_ask.2.1 42 = .ok (.iload_n 1, 1) := by decide +kernel
theorem dM_ask_43 : decode yM_ask.2.1 43 = .ok (.iaload, 1) := by decide +kernel
theorem dM_ask_44 : decode yM_ask.2.1 44 = .ok (.iconst 1, 1) := by decide +kernel
theorem dM_ask_45 : decode yM_ask.2.1 45 = .ok (.if_icmp .ne 15, 3) := by decide +kernel
theorem dM_ask_48 : decode yM_ask.2.1 48 = .ok (.iload_n 3, 1) := by decide +kernel
theorem dM_ask_49 : decode yM_ask.2.1 49 = .ok (.iload_n 2, 1) := by decide +kernel
theorem dM_ask_50 : decode yM_ask.2.1 50 = .ok (.invokestatic 125, 3) := by decide +kernel
theorem dM_ask_53 : decode yM_ask.2.1 53 = .ok (.ifCond .eq 7, 3) := by decide +kernel
theorem dM_ask_56 : decode yM_ask.2.1 56 = .ok (.iconst 1, 1) := by decide +kernel
theorem dM_ask_57 : decode yM_ask.2.1 57 = .ok (.goto 4, 3) := by decide +kernel
theorem dM_ask_60 : decode yM_ask.2.1 60 = .ok (.iconst 0, 1) := by decide +kernel
theorem dM_ask_61 : decode yM_ask.2.1 61 = .ok (.istore 4, 2) := by decide +kernel
theorem dM_ask_63 : decode yM_ask.2.1 63 = .ok (.iload 4, 2) := by decide +kernel
theorem dM_ask_65 : decode yM_ask.2.1 65 = .ok (.ifCond .eq 40, 3) := by decide +kernel
theorem dM_ask_68 : decode yM_ask.2.1 68 = .ok (.iload_n 3, 1) := by decide +kernel
theorem dM_ask_69 : decode yM_ask.2.1 69 = .ok (.aload_n 0, 1) := by decide +kernel
theorem dM_ask_70 : decode yM_ask.2.1 70 = .ok (.getfield 55, 3) := by decide +kernel
theorem dM_ask_73 : decode yM_ask.2.1 73 = .ok (.iconst 4, 1) := by decide +kernel
theorem dM_ask_74 : decode yM_ask.2.1 74 = .ok (.iload_n 1, 1) := by decide +kernel
theorem dM_ask_75 : decode yM_ask.2.1 75 = .ok (.imul, 1) := by decide +kernel
theorem dM_ask_76 : decode yM_ask.2.1 76 = .ok (.iconst 1, 1) := by decide +kernel
theorem dM_ask_77 : decode yM_ask.2.1 77 = .ok (.iadd, 1) := by decide +kernel
theorem dM_ask_78 : decode yM_ask.2.1 78 = .ok (.iaload, 1) := by decide +kernel
theorem dM_ask_79 : decode yM_ask.2.1 79 = .ok (.aload_n 0, 1) := by decide +kernel
theorem dM_ask_80 : decode yM_ask.2.1 80 = .ok (.getfield 55, 3) := by decide +kernel
theorem dM_ask_83 : decode yM_ask.2.1 83 = .ok (.iconst 4, 1) := by decide +kernel
theorem dM_ask_84 : decode yM_ask.2.1 84 = .ok (.iload_n 1, 1) := by decide +kernel
theorem dM_ask_85 : decode yM_ask.2.1 85 = .ok (.imul, 1) := by decide +kernel
theorem dM_ask_86 : decode yM_ask.2.1 86 = .ok (.iconst 2, 1) := by decide +kernel
theorem dM_ask_87 : decode yM_ask.2.1 87 = .ok (.iadd, 1) := by decide +kernel
theorem dM_ask_88 : decode yM_ask.2.1 88 = .ok (.iaload, 1) := by decide +kernel
theorem dM_ask_89 : decode yM_ask.2.1 89 = .ok (.aload_n 0, 1) := by decide +kernel
theorem dM_ask_90 : decode yM_ask.2.1 90 = .ok (.getfield 55, 3) := by decide +kernel
theorem dM_ask_93 : decode yM_ask.2.1 93 = .ok (.iconst 4, 1) := by decide +kernel
theorem dM_ask_94 : decode yM_ask.2.1 94 = .ok (.iload_n 1, 1) := by decide +kernel
theorem dM_ask_95 : decode yM_ask.2.1 95 = .ok (.imul, 1) := by decide +kernel
theorem dM_ask_96 : decode yM_ask.2.1 96 = .ok (.iconst 3, 1) := by decide +kernel
theorem dM_ask_97 : decode yM_ask.2.1 97 = .ok (.iadd, 1) := by decide +kernel
theorem dM_ask_98 : decode yM_ask.2.1 98 = .ok (.iaload, 1) := by decide +kernel
theorem dM_ask_99 : decode yM_ask.2.1 99 = .ok (.invokestatic 122, 3) := by decide +kernel
theorem dM_ask_102 : decode yM_ask.2.1 102 = .ok (.goto 5, 3) := by decide +kernel
theorem dM_ask_105 : decode yM_ask.2.1 105 = .ok (.ldc 129, 2) := by decide +kernel
theorem dM_ask_107 : decode yM_ask.2.1 107 = .ok (.ireturn, 1) := by decide +kernel
theorem dM_item_0 : decode yM_item.2.1 0 = .ok (.iload_n 1, 1) := by decide +kernel
theorem dM_item_1 : decode yM_item.2.1 1 = .ok (.invokestatic 349, 3) := by decide +kernel
theorem dM_item_4 : decode yM_item.2.1 4 = .ok (.ifCond .ne 6, 3) := by decide +kernel
theorem dM_item_7 : decode yM_item.2.1 7 = .ok (.ldc 96, 2) := by decide +kernel
theorem dM_item_9 : decode yM_item.2.1 9 = .ok (.ireturn, 1) := by decide +kernel
theorem dM_item_10 : decode yM_item.2.1 10 = .ok (.aload_n 0, 1) := by decide +kernel
theorem dM_item_11 : decode yM_item.2.1 11 = .ok (.getfield 49, 3) := by decide +kernel
theorem dM_item_14 : decode yM_item.2.1 14 = .ok (.iload_n 1, 1) := by decide +kernel
theorem dM_item_15 : decode yM_item.2.1 15 = .ok (.iaload, 1) := by decide +kernel
theorem dM_item_16 : decode yM_item.2.1 16 = .ok (.iconst 2, 1) := by decide +kernel
theorem dM_item_17 : decode yM_item.2.1 17 = .ok (.if_icmp .eq 20, 3) := by decide +kernel
theorem dM_item_20 : decode yM_item.2.1 20 = .ok (.aload_n 0, 1) := by decide +kernel
theorem dM_item_21 : decode yM_item.2.1 21 = .ok (.getfield 49, 3) := by decide +kernel
theorem dM_item_24 : decode yM_item.2.1 24 = .ok (.iload_n 1, 1) := by decide +kernel
theorem dM_item_25 : decode yM_item.2.1 25 = .ok (.iaload, 1) := by decide +kernel
theorem dM_item_26 : decode yM_item.2.1 26 = .ok (.ifCond .ne 8, 3) := by decide +kernel
theorem dM_item_29 : decode yM_item.2.1 29 = .ok (.ldc 218, 2) := by decide +kernel
theorem dM_item_31 : decode yM_item.2.1 31 = .ok (.goto 5, 3) := by decide +kernel
theorem dM_item_34 : decode yM_item.2.1 34 = .ok (.ldc 129, 2) := by decide +kernel
theorem dM_item_36 : decode yM_item.2.1 36 = .ok (.ireturn, 1) := by decide +kernel
theorem dM_item_37 : decode yM_item.2.1 37 = .ok (.iload_n 2, 1) := by decide +kernel
theorem dM_item_38 : decode yM_item.2.1 38 = .ok (.i2l, 1) := by decide +kernel
theorem dM_item_39 : decode yM_item.2.1 39 = .ok (.lconst 0, 1) := by decide +kernel
theorem dM_item_40 : decode yM_item.2.1 40 = .ok (.aload_n 0, 1) := by decide +kernel
theorem dM_item_41 : decode yM_item.2.1 41 = .ok (.getfield 40, 3) := by decide +kernel
theorem dM_item_44 : decode yM_item.2.1 44 = .ok (.iconst 4, 1) := by decide +kernel
theorem dM_item_45 : decode yM_item.2.1 45 = .ok (.iload_n 1, 1) := by decide +kernel
theorem dM_item_46 : decode yM_item.2.1 46 = .ok (.iadd, 1) := by decide +kernel
theorem dM_item_47 : decode yM_item.2.1 47 = .ok (.iaload, 1) := by decide +kernel
theorem dM_item_48 : decode yM_item.2.1 48 = .ok (.iconst 1, 1) := by decide +kernel
theorem dM_item_49 : decode yM_item.2.1 49 = .ok (.isub, 1) := by decide +kernel
theorem dM_item_50 : decode yM_item.2.1 50 = .ok (.i2l, 1) := by decide +kernel
theorem dM_item_51 : decode yM_item.2.1 51 = .ok (.invokestatic 65, 3) := by decide +kernel
theorem dM_item_54 : decode yM_item.2.1 54 = .ok (.ifCond .ne 7, 3) := by decide +kernel
theorem dM_item_57 : decode yM_item.2.1 57 = .ok (.ldc_w 333, 3) := by decide +kernel
theorem dM_item_60 : decode yM_item.2.1 60 = .ok (.ireturn, 1) := by decide +kernel
theorem dM_item_61 : decode yM_item.2.1 61 = .ok (.aload_n 0, 1) := by decide +kernel
theorem dM_item_62 : decode yM_item.2.1 62 = .ok (.getfield 43, 3) := by decide +kernel
theorem dM_item_65 : decode yM_item.2.1 65 = .ok (.bipush 24, 2) := by decide +kernel
theorem dM_item_67 : decode yM_item.2.1 67 = .ok (.iconst 4, 1) := by decide +kernel
theorem dM_item_68 : decode yM_item.2.1 68 = .ok (.iload_n 1, 1) := by decide +kernel
theorem dM_item_69 : decode yM_item.2.1 69 = .ok (.iadd, 1) := by decide +kernel
theorem dM_item_70 : decode yM_item.2.1 70 = .ok (.imul, 1) := by decide +kernel
theorem dM_item_71 : decode yM_item.2.1 71 = .ok (.iload_n 2, 1) := by decide +kernel
theorem dM_item_72 : decode yM_item.2.1 72 = .ok (.iadd, 1) := by decide +kernel
theorem dM_item_73 : decode yM_item.2.1 73 = .ok (.iaload, 1) := by decide +kernel
theorem dM_item_74 : decode yM_item.2.1 74 = .ok (.istore_n 3, 1) := by decide +kernel
theorem dM_item_75 : decode yM_item.2.1 75 = .ok (.iload_n 3, 1) := by decide +kernel
theorem dM_item_76 : decode yM_item.2.1 76 = .ok (.ldc 169, 2) := by decide +kernel
theorem dM_item_78 : decode yM_item.2.1 78 = .ok (.if_icmp .ne 8, 3) := by decide +kernel
theorem dM_item_81 : decode yM_item.2.1 81 = .ok (.ldc 129, 2) := by decide +kernel
theorem dM_item_83 : decode yM_item.2.1 83 = .ok (.goto 4, 3) := by decide +kernel
theorem dM_item_86 : decode yM_item.2.1 86 = .ok (.iload_n 3, 1) := by decide +kernel
theorem dM_item_87 : decode yM_item.2.1 87 = .ok (.ireturn, 1) := by decide +kernel
theorem dM_rest_0 : decode yM_rest.2.1 0 = .ok (.iload_n 1, 1) := by decide +kernel
theorem dM_rest_1 : decode yM_rest.2.1 1 = .ok (.invokestatic 349, 3) := by decide +kernel
theorem dM_rest_4 : decode yM_rest.2.1 4 = .ok (.ifCond .ne 6, 3) := by decide +kernel
theorem dM_rest_7 : decode yM_rest.2.1 7 = .ok (.ldc 96, 2) := by decide +kernel
theorem dM_rest_9 : decode yM_rest.2.1 9 = .ok (.ireturn, 1) := by decide +kernel
theorem dM_rest_10 : decode yM_rest.2.1 10 = .ok (.aload_n 0, 1) := by decide +kernel
theorem dM_rest_11 : decode yM_rest.2.1 11 = .ok (.getfield 49, 3) := by decide +kernel
theorem dM_rest_14 : decode yM_rest.2.1 14 = .ok (.iload_n 1, 1) := by decide +kernel
theorem dM_rest_15 : decode yM_rest.2.1 15 = .ok (.iaload, 1) := by decide +kernel
theorem dM_rest_16 : decode yM_rest.2.1 16 = .ok (.iconst 3, 1) := by decide +kernel
theorem dM_rest_17 : decode yM_rest.2.1 17 = .ok (.if_icmp .eq 20, 3) := by decide +kernel
theorem dM_rest_20 : decode yM_rest.2.1 20 = .ok (.aload_n 0, 1) := by decide +kernel
theorem dM_rest_21 : decode yM_rest.2.1 21 = .ok (.getfield 49, 3) := by decide +kernel
theorem dM_rest_24 : decode yM_rest.2.1 24 = .ok (.iload_n 1, 1) := by decide +kernel
theorem dM_rest_25 : decode yM_rest.2.1 25 = .ok (.iaload, 1) := by decide +kernel
theorem dM_rest_26 : decode yM_rest.2.1 26 = .ok (.ifCond .ne 8, 3) := by decide +kernel
theorem dM_rest_29 : decode yM_rest.2.1 29 = .ok (.ldc 218, 2) := by decide +kernel
theorem dM_rest_31 : decode yM_rest.2.1 31 = .ok (.goto 5, 3) := by decide +kernel
theorem dM_rest_34 : decode yM_rest.2.1 34 = .ok (.ldc 129, 2) := by decide +kernel
theorem dM_rest_36 : decode yM_rest.2.1 36 = .ok (.ireturn, 1) := by decide +kernel
theorem dM_rest_37 : decode yM_rest.2.1 37 = .ok (.iload_n 2, 1) := by decide +kernel
theorem dM_rest_38 : decode yM_rest.2.1 38 = .ok (.ifCond .ne 9, 3) := by decide +kernel
theorem dM_rest_41 : decode yM_rest.2.1 41 = .ok (.ldc_w 355, 3) := by decide +kernel
theorem dM_rest_44 : decode yM_rest.2.1 44 = .ok (.goto 11, 3) := by decide +kernel
theorem dM_rest_47 : decode yM_rest.2.1 47 = .ok (.aload_n 0, 1) := by decide +kernel
theorem dM_rest_48 : decode yM_rest.2.1 48 = .ok (.getfield 52, 3) := by decide +kernel
theorem dM_rest_51 : decode yM_rest.2.1 51 = .ok (.iload_n 1, 1) := by decide +kernel
theorem dM_rest_52 : decode yM_rest.2.1 52 = .ok (.iaload, 1) := by decide +kernel
theorem dM_rest_53 : decode yM_rest.2.1 53 = .ok (.iload_n 2, 1) := by decide +kernel
theorem dM_rest_54 : decode yM_rest.2.1 54 = .ok (.irem, 1) := by decide +kernel
theorem dM_rest_55 : decode yM_rest.2.1 55 = .ok (.ireturn, 1) := by decide +kernel
theorem dM_tell_0 : decode yM_tell.2.1 0 = .ok (.aload_n 0, 1) := by decide +kernel
theorem dM_tell_1 : decode yM_tell.2.1 1 = .ok (.getfield 356, 3) := by decide +kernel
theorem dM_tell_4 : decode yM_tell.2.1 4 = .ok (.bipush 60, 2) := by decide +kernel
theorem dM_tell_6 : decode yM_tell.2.1 6 = .ok (.if_icmp .ne 6, 3) := by decide +kernel
theorem dM_tell_9 : decode yM_tell.2.1 9 = .ok (.ldc 108, 2) := by decide +kernel
theorem dM_tell_11 : decode yM_tell.2.1 11 = .ok (.ireturn, 1) := by decide +kernel
theorem dM_tell_12 : decode yM_tell.2.1 12 = .ok (.aload_n 0, 1) := by decide +kernel
theorem dM_tell_13 : decode yM_tell.2.1 13 = .ok (.getfield 19, 3) := by decide +kernel
theorem dM_tell_16 : decode yM_tell.2.1 16 = .ok (.aload_n 0, 1) := by decide +kernel
theorem dM_tell_17 : decode yM_tell.2.1 17 = .ok (.getfield 356, 3) := by decide +kernel
theorem dM_tell_20 : decode yM_tell.2.1 20 = .ok (.iload_n 1, 1) := by decide +kernel
theorem dM_tell_21 : decode yM_tell.2.1 21 = .ok (.iastore, 1) := by decide +kernel
theorem dM_tell_22 : decode yM_tell.2.1 22 = .ok (.aload_n 0, 1) := by decide +kernel
theorem dM_tell_23 : decode yM_tell.2.1 23 = .ok (.dup, 1) := by decide +kernel
theorem dM_tell_24 : decode yM_tell.2.1 24 = .ok (.getfield 356, 3) := by decide +kernel
theorem dM_tell_27 : decode yM_tell.2.1 27 = .ok (.iconst 1, 1) := by decide +kernel
theorem dM_tell_28 : decode yM_tell.2.1 28 = .ok (.iadd, 1) := by decide +kernel
theorem dM_tell_29 : decode yM_tell.2.1 29 = .ok (.putfield 356, 3) := by decide +kernel
theorem dM_tell_32 : decode yM_tell.2.1 32 = .ok (.aload_n 0, 1) := by decide +kernel
theorem dM_tell_33 : decode yM_tell.2.1 33 = .ok (.getfield 356, 3) := by decide +kernel
theorem dM_tell_36 : decode yM_tell.2.1 36 = .ok (.ireturn, 1) := by decide +kernel
theorem dM_check_0 : decode yM_check.2.1 0 = .ok (.aload_n 0, 1) := by decide +kernel
theorem dM_check_1 : decode yM_check.2.1 1 = .ok (.getfield 356, 3) := by decide +kernel
theorem dM_check_4 : decode yM_check.2.1 4 = .ok (.istore_n 2, 1) := by decide +kernel
theorem dM_check_5 : decode yM_check.2.1 5 = .ok (.aload_n 0, 1) := by decide +kernel
theorem dM_check_6 : decode yM_check.2.1 6 = .ok (.iconst 0, 1) := by decide +kernel
theorem dM_check_7 : decode yM_check.2.1 7 = .ok (.putfield 356, 3) := by decide +kernel
theorem dM_check_10 : decode yM_check.2.1 10 = .ok (.iload_n 1, 1) := by decide +kernel
theorem dM_check_11 : decode yM_check.2.1 11 = .ok (.i2l, 1) := by decide +kernel
theorem dM_check_12 : decode yM_check.2.1 12 = .ok (.lconst 1, 1) := by decide +kernel
theorem dM_check_13 : decode yM_check.2.1 13 = .ok (.ldc2_w 359, 3) := by decide +kernel
theorem dM_check_16 : decode yM_check.2.1 16 = .ok (.invokestatic 65, 3) := by decide +kernel
theorem dM_check_19 : decode yM_check.2.1 19 = .ok (.ifCond .ne 6, 3) := by decide +kernel
theorem dM_check_22 : decode yM_check.2.1 22 = .ok (.ldc 96, 2) := by decide +kernel
theorem dM_check_24 : decode yM_check.2.1 24 = .ok (.ireturn, 1) := by decide +kernel
theorem dM_check_25 : decode yM_check.2.1 25 = .ok (.aload_n 0, 1) := by decide +kernel
theorem dM_check_26 : decode yM_check.2.1 26 = .ok (.getfield 361, 3) := by decide +kernel
theorem dM_check_29 : decode yM_check.2.1 29 = .ok (.ifCond .ne 7, 3) := by decide +kernel
theorem dM_check_32 : decode yM_check.2.1 32 = .ok (.ldc_w 355, 3) := by decide +kernel
theorem dM_check_35 : decode yM_check.2.1 35 = .ok (.ireturn, 1) := by decide +kernel
theorem dM_check_36 : decode yM_check.2.1 36 = .ok (.aload_n 0, 1) := by decide +kernel
theorem dM_check_37 : decode yM_check.2.1 37 = .ok (.aload_n 0, 1) := by decide +kernel
theorem dM_check_38 : decode yM_check.2.1 38 = .ok (.getfield 58, 3) := by decide +kernel
theorem dM_check_41 : decode yM_check.2.1 41 = .ok (.aload_n 0, 1) := by decide +kernel
theorem dM_check_42 : decode yM_check.2.1 42 = .ok (.getfield 7, 3) := by decide +kernel
theorem dM_check_45 : decode yM_check.2.1 45 = .ok (.invokevirtual 364, 3) := by decide +kernel
theorem dM_check_48 : decode yM_check.2.1 48 = .ok (.aload_n 0, 1) := by decide +kernel
theorem dM_check_49 : decode yM_check.2.1 49 = .ok (.aload_n 0, 1) := by decide +kernel
theorem dM_check_50 : decode yM_check.2.1 50 = .ok (.getfield 7, 3) := by decide +kernel
theorem dM_check_53 : decode yM_check.2.1 53 = .ok (.aload_n 0, 1) := by decide +kernel
theorem dM_check_54 : decode yM_check.2.1 54 = .ok (.getfield 13, 3) := by decide +kernel
theorem dM_check_57 : decode yM_check.2.1 57 = .ok (.invokevirtual 364, 3) := by decide +kernel
theorem dM_check_60 : decode yM_check.2.1 60 = .ok (.aload_n 0, 1) := by decide +kernel
theorem dM_check_61 : decode yM_check.2.1 61 = .ok (.iload_n 1, 1) := by decide +kernel
theorem dM_check_62 : decode yM_check.2.1 62 = .ok (.iload_n 2, 1) := by decide +kernel
theorem dM_check_63 : decode yM_check.2.1 63 = .ok (.invokevirtual 368, 3) := by decide +kernel
theorem dM_check_66 : decode yM_check.2.1 66 = .ok (.istore_n 3, 1) := by decide +kernel
theorem dM_check_67 : decode yM_check.2.1 67 = .ok (.aload_n 0, 1) := by decide +kernel
theorem dM_check_68 : decode yM_check.2.1 68 = .ok (.aload_n 0, 1) := by decide +kernel
theorem dM_check_69 : decode yM_check.2.1 69 = .ok (.getfield 7, 3) := by decide +kernel
theorem dM_check_72 : decode yM_check.2.1 72 = .ok (.aload_n 0, 1) := by decide +kernel
theorem dM_check_73 : decode yM_check.2.1 73 = .ok (.getfield 58, 3) := by decide +kernel
theorem dM_check_76 : decode yM_check.2.1 76 = .ok (.invokevirtual 364, 3) := by decide +kernel
theorem dM_check_79 : decode yM_check.2.1 79 = .ok (.iload_n 3, 1) := by decide +kernel
theorem dM_check_80 : decode yM_check.2.1 80 = .ok (.ireturn, 1) := by decide +kernel
theorem dM_become_0 : decode yM_become.2.1 0 = .ok (.iconst 0, 1) := by decide +kernel
theorem dM_become_1 : decode yM_become.2.1 1 = .ok (.istore_n 3, 1) := by decide +kernel
theorem dM_become_2 : decode yM_become.2.1 2 = .ok (.iload_n 3, 1) := by decide +kernel
theorem dM_become_3 : decode yM_become.2.1 3 = .ok (.sipush 1510, 3) := by decide +kernel
theorem dM_become_6 : decode yM_become.2.1 6 = .ok (.if_icmp .ge 15, 3) := by decide +kernel
theorem dM_become_9 : decode yM_become.2.1 9 = .ok (.aload_n 1, 1) := by decide +kernel
theorem dM_become_10 : decode yM_become.2.1 10 = .ok (.iload_n 3, 1) := by decide +kernel
theorem dM_become_11 : decode yM_become.2.1 11 = .ok (.aload_n 2, 1) := by decide +kernel
theorem dM_become_12 : decode yM_become.2.1 12 = .ok (.iload_n 3, 1) := by decide +kernel
theorem dM_become_13 : decode yM_become.2.1 13 = .ok (.iaload, 1) := by decide +kernel
theorem dM_become_14 : decode yM_become.2.1 14 = .ok (.iastore, 1) := by decide +kernel
theorem dM_become_15 : decode yM_become.2.1 15 = .ok (.iinc 3 1, 3) := by decide +kernel
theorem dM_become_18 : decode yM_become.2.1 18 = .ok (.goto (-16), 3) := by decide +kernel
theorem dM_become_21 : decode yM_become.2.1 21 = .ok (.return_, 1) := by decide +kernel
theorem dM_firstUnlike_0 : decode yM_firstUnlike.2.1 0 = .ok (.iconst 0, 1) := by decide +kernel
theorem dM_firstUnlike_1 : decode yM_firstUnlike.2.1 1 = .ok (.istore_n 3, 1) := by decide +kernel
theorem dM_firstUnlike_2 : decode yM_firstUnlike.2.1 2 = .ok (.iconst 1, 1) := by decide +kernel
theorem dM_firstUnlike_3 : decode yM_firstUnlike.2.1 3 = .ok (.istore 4, 2) := by decide +kernel
theorem dM_firstUnlike_5 : decode yM_firstUnlike.2.1 5 = .ok (.aload_n 0, 1) := by decide +kernel
theorem dM_firstUnlike_6 : decode yM_firstUnlike.2.1 6 = .ok (.iload_n 1, 1) := by decide +kernel
theorem dM_firstUnlike_7 : decode yM_firstUnlike.2.1 7 = .ok (.invokevirtual 182, 3) := by decide +kernel
theorem dM_firstUnlike_10 : decode yM_firstUnlike.2.1 10 = .ok (.istore 5, 2) := by decide +kernel
theorem dM_firstUnlike_12 : decode yM_firstUnlike.2.1 12 = .ok (.iconst 0, 1) := by decide +kernel
theorem dM_firstUnlike_13 : decode yM_firstUnlike.2.1 13 = .ok (.istore 6, 2) := by decide +kernel
theorem dM_firstUnlike_15 : decode yM_firstUnlike.2.1 15 = .ok (.iload 6, 2) := by decide +kernel
theorem dM_firstUnlike_17 : decode yM_firstUnlike.2.1 17 = .ok (.iload 5, 2) := by decide +kernel
theorem dM_firstUnlike_19 : decode yM_firstUnlike.2.1 19 = .ok (.if_icmp .ge 92, 3) := by decide +kernel
theorem dM_firstUnlike_22 : decode yM_firstUnlike.2.1 22 = .ok (.iload 4, 2) := by decide +kernel
theorem dM_firstUnlike_24 : decode yM_firstUnlike.2.1 24 = .ok (.ifCond .eq 87, 3) := by decide +kernel
theorem dM_firstUnlike_27 : decode yM_firstUnlike.2.1 27 = .ok (.aload_n 0, 1) := by decide +kernel
theorem dM_firstUnlike_28 : decode yM_firstUnlike.2.1 28 = .ok (.invokevirtual 177, 3) := by decide +kernel
theorem dM_firstUnlike_31 : decode yM_firstUnlike.2.1 31 = .ok (.iload_n 3, 1) := by decide +kernel
theorem dM_firstUnlike_32 : decode yM_firstUnlike.2.1 32 = .ok (.iload_n 2, 1) := by decide +kernel
theorem dM_firstUnlike_33 : decode yM_firstUnlike.2.1 33 = .ok (.if_icmp .ge 22, 3) := by decide +kernel
theorem dM_firstUnlike_36 : decode yM_firstUnlike.2.1 36 = .ok (.aload_n 0, 1) := by decide +kernel
theorem dM_firstUnlike_37 : decode yM_firstUnlike.2.1 37 = .ok (.getfield 19, 3) := by decide +kernel
theorem dM_firstUnlike_40 : decode yM_firstUnlike.2.1 40 = .ok (.iload_n 3, 1) := by decide +kernel
theorem dM_firstUnlike_41 : decode yM_firstUnlike.2.1 41 = .ok (.iaload, 1) := by decide +kernel
theorem dM_firstUnlike_42 : decode yM_firstUnlike.2.1 42 = .ok (.aload_n 0, 1) := by decide +kernel
theorem dM_firstUnlike_43 : decode yM_firstUnlike.2.1 43 = .ok (.getfield 7, 3) := by decide +kernel
theorem dM_firstUnlike_46 : decode yM_firstUnlike.2.1 46 = .ok (.iconst 3, 1) := by decide +kernel
theorem dM_firstUnlike_47 : decode yM_firstUnlike.2.1 47 = .ok (.iaload, 1) := by decide +kernel
theorem dM_firstUnlike_48 : decode yM_firstUnlike.2.1 48 = .ok (.if_icmp .ne 7, 3) := by decide +kernel
theorem dM_firstUnlike_51 : decode yM_firstUnlike.2.1 51 = .ok (.iconst 1, 1) := by decide +kernel
theorem dM_firstUnlike_52 : decode yM_firstUnlike.2.1 52 = .ok (.goto 4, 3) := by decide +kernel
theorem dM_firstUnlike_55 : decode yM_firstUnlike.2.1 55 = .ok (.iconst 0, 1) := by decide +kernel
theorem dM_firstUnlike_56 : decode yM_firstUnlike.2.1 56 = .ok (.istore 4, 2) := by decide +kernel
theorem dM_firstUnlike_58 : decode yM_firstUnlike.2.1 58 = .ok (.iload_n 3, 1) := by decide +kernel
theorem dM_firstUnlike_59 : decode yM_firstUnlike.2.1 59 = .ok (.iload 4, 2) := by decide +kernel
theorem dM_firstUnlike_61 : decode yM_firstUnlike.2.1 61 = .ok (.invokestatic 71, 3) := by decide +kernel
theorem dM_firstUnlike_64 : decode yM_firstUnlike.2.1 64 = .ok (.iadd, 1) := by decide +kernel
theorem dM_firstUnlike_65 : decode yM_firstUnlike.2.1 65 = .ok (.istore_n 3, 1) := by decide +kernel
theorem dM_firstUnlike_66 : decode yM_firstUnlike.2.1 66 = .ok (.iload 4, 2) := by decide +kernel
theorem dM_firstUnlike_68 : decode yM_firstUnlike.2.1 68 = .ok (.ifCond .eq 26, 3) := by decide +kernel
theorem dM_firstUnlike_71 : decode yM_firstUnlike.2.1 71 = .ok (.iload_n 3, 1) := by decide +kernel
theorem dM_firstUnlike_72 : decode yM_firstUnlike.2.1 72 = .ok (.iload_n 2, 1) := by decide +kernel
theorem dM_firstUnlike_73 : decode yM_firstUnlike.2.1 73 = .ok (.if_icmp .ge 21, 3) := by decide +kernel
theorem dM_firstUnlike_76 : decode yM_firstUnlike.2.1 76 = .ok (.aload_n 0, 1) := by decide +kernel
theorem dM_firstUnlike_77 : decode yM_firstUnlike.2.1 77 = .ok (.getfield 19, 3) := by decide +kernel
theorem dM_firstUnlike_80 : decode yM_firstUnlike.2.1 80 = .ok (.iload_n 3, 1) := by decide +kernel
theorem dM_firstUnlike_81 : decode yM_firstUnlike.2.1 81 = .ok (.iaload, 1) := by decide +kernel
theorem dM_firstUnlike_82 : decode yM_firstUnlike.2.1 82 = .ok (.aload_n 0, 1) := by decide +kernel
theorem dM_firstUnlike_83 : decode yM_firstUnlike.2.1 83 = .ok (.iconst 4, 1) := by decide +kernel
theorem dM_firstUnlike_84 : decode yM_firstUnlike.2.1 84 = .ok (.invokevirtual 192, 3) := by decide +kernel
theorem dM_firstUnlike_87 : decode yM_firstUnlike.2.1 87 = .ok (.if_icmp .ne 7, 3) := by decide +kernel
theorem dM_firstUnlike_90 : decode yM_firstUnlike.2.1 90 = .ok (.iconst 1, 1) := by decide +kernel
theorem dM_firstUnlike_91 : decode yM_firstUnlike.2.1 91 = .ok (.goto 4, 3) := by decide +kernel
theorem dM_firstUnlike_94 : decode yM_firstUnlike.2.1 94 = .ok (.iconst 0, 1) := by decide +kernel
theorem dM_firstUnlike_95 : decode yM_firstUnlike.2.1 95 = .ok (.istore 4, 2) := by decide +kernel
theorem dM_firstUnlike_97 : decode yM_firstUnlike.2.1 97 = .ok (.iload_n 3, 1) := by decide +kernel
theorem dM_firstUnlike_98 : decode yM_firstUnlike.2.1 98 = .ok (.iload 4, 2) := by decide +kernel
theorem dM_firstUnlike_100 : decode yM_firstUnlike.2.1 100 = .ok (.invokestatic 71, 3) := by decide +kernel
theorem dM_firstUnlike_103 : decode yM_firstUnlike.2.1 103 = .ok (.iadd, 1) := by decide +kernel
theorem dM_firstUnlike_104 : decode yM_firstUnlike.2.1 104 = .ok (.istore_n 3, 1) := by decide +kernel
theorem dM_firstUnlike_105 : decode yM_firstUnlike.2.1 105 = .ok (.iinc 6 1, 3) := by decide +kernel
theorem dM_firstUnlike_108 : decode yM_firstUnlike.2.1 108 = .ok (.goto (-93), 3) := by decide +kernel
theorem dM_firstUnlike_111 : decode yM_firstUnlike.2.1 111 = .ok (.iload 4, 2) := by decide +kernel
theorem dM_firstUnlike_113 : decode yM_firstUnlike.2.1 113 = .ok (.ifCond .eq 12, 3) := by decide +kernel
theorem dM_firstUnlike_116 : decode yM_firstUnlike.2.1 116 = .ok (.iload_n 3, 1) := by decide +kernel
theorem dM_firstUnlike_117 : decode yM_firstUnlike.2.1 117 = .ok (.iload_n 2, 1) := by decide +kernel
theorem dM_firstUnlike_118 : decode yM_firstUnlike.2.1 118 = .ok (.if_icmp .ne 7, 3) := by decide +kernel
theorem dM_firstUnlike_121 : decode yM_firstUnlike.2.1 121 = .ok (.iconst 0, 1) := by decide +kernel
theorem dM_firstUnlike_122 : decode yM_firstUnlike.2.1 122 = .ok (.goto 6, 3) := by decide +kernel
theorem dM_firstUnlike_125 : decode yM_firstUnlike.2.1 125 = .ok (.iconst 1, 1) := by decide +kernel
theorem dM_firstUnlike_126 : decode yM_firstUnlike.2.1 126 = .ok (.iload_n 3, 1) := by decide +kernel
theorem dM_firstUnlike_127 : decode yM_firstUnlike.2.1 127 = .ok (.iadd, 1) := by decide +kernel
theorem dM_firstUnlike_128 : decode yM_firstUnlike.2.1 128 = .ok (.ireturn, 1) := by decide +kernel
theorem dM_keep_0 : decode yM_keep.2.1 0 = .ok (.aload_n 0, 1) := by decide +kernel
theorem dM_keep_1 : decode yM_keep.2.1 1 = .ok (.aload_n 0, 1) := by decide +kernel
theorem dM_keep_2 : decode yM_keep.2.1 2 = .ok (.getfield 13, 3) := by decide +kernel
theorem dM_keep_5 : decode yM_keep.2.1 5 = .ok (.aload_n 0, 1) := by decide +kernel
theorem dM_keep_6 : decode yM_keep.2.1 6 = .ok (.getfield 7, 3) := by decide +kernel
theorem dM_keep_9 : decode yM_keep.2.1 9 = .ok (.invokevirtual 364, 3) := by decide +kernel
theorem dM_keep_12 : decode yM_keep.2.1 12 = .ok (.aload_n 0, 1) := by decide +kernel
theorem dM_keep_13 : decode yM_keep.2.1 13 = .ok (.iconst 1, 1) := by decide +kernel
theorem dM_keep_14 : decode yM_keep.2.1 14 = .ok (.putfield 361, 3) := by decide +kernel
theorem dM_keep_17 : decode yM_keep.2.1 17 = .ok (.aload_n 0, 1) := by decide +kernel
theorem dM_keep_18 : decode yM_keep.2.1 18 = .ok (.getfield 7, 3) := by decide +kernel
theorem dM_keep_21 : decode yM_keep.2.1 21 = .ok (.iconst 0, 1) := by decide +kernel
theorem dM_keep_22 : decode yM_keep.2.1 22 = .ok (.iaload, 1) := by decide +kernel
theorem dM_keep_23 : decode yM_keep.2.1 23 = .ok (.ireturn, 1) := by decide +kernel
theorem dM_back_0 : decode yM_back.2.1 0 = .ok (.aload_n 0, 1) := by decide +kernel
theorem dM_back_1 : decode yM_back.2.1 1 = .ok (.getfield 361, 3) := by decide +kernel
theorem dM_back_4 : decode yM_back.2.1 4 = .ok (.ifCond .ne 7, 3) := by decide +kernel
theorem dM_back_7 : decode yM_back.2.1 7 = .ok (.ldc_w 355, 3) := by decide +kernel
theorem dM_back_10 : decode yM_back.2.1 10 = .ok (.ireturn, 1) := by decide +kernel
theorem dM_back_11 : decode yM_back.2.1 11 = .ok (.aload_n 0, 1) := by decide +kernel
theorem dM_back_12 : decode yM_back.2.1 12 = .ok (.aload_n 0, 1) := by decide +kernel
theorem dM_back_13 : decode yM_back.2.1 13 = .ok (.getfield 7, 3) := by decide +kernel
theorem dM_back_16 : decode yM_back.2.1 16 = .ok (.aload_n 0, 1) := by decide +kernel
theorem dM_back_17 : decode yM_back.2.1 17 = .ok (.getfield 13, 3) := by decide +kernel
theorem dM_back_20 : decode yM_back.2.1 20 = .ok (.invokevirtual 364, 3) := by decide +kernel
theorem dM_back_23 : decode yM_back.2.1 23 = .ok (.aload_n 0, 1) := by decide +kernel
theorem dM_back_24 : decode yM_back.2.1 24 = .ok (.getfield 7, 3) := by decide +kernel
theorem dM_back_27 : decode yM_back.2.1 27 = .ok (.iconst 0, 1) := by decide +kernel
theorem dM_back_28 : decode yM_back.2.1 28 = .ok (.iaload, 1) := by decide +kernel
theorem dM_back_29 : decode yM_back.2.1 29 = .ok (.ireturn, 1) := by decide +kernel
theorem dM_count_0 : decode yM_count.2.1 0 = .ok (.iload_n 1, 1) := by decide +kernel
theorem dM_count_1 : decode yM_count.2.1 1 = .ok (.tableswitch 102 0 7 #[47, 54, 62, 69, 76, 84, 89, 94], 47) := by decide +kernel
theorem dM_count_48 : decode yM_count.2.1 48 = .ok (.aload_n 0, 1) := by decide +kernel
theorem dM_count_49 : decode yM_count.2.1 49 = .ok (.getfield 7, 3) := by decide +kernel
theorem dM_count_52 : decode yM_count.2.1 52 = .ok (.iconst 0, 1) := by decide +kernel
theorem dM_count_53 : decode yM_count.2.1 53 = .ok (.iaload, 1) := by decide +kernel
theorem dM_count_54 : decode yM_count.2.1 54 = .ok (.ireturn, 1) := by decide +kernel
theorem dM_count_55 : decode yM_count.2.1 55 = .ok (.aload_n 0, 1) := by decide +kernel
theorem dM_count_56 : decode yM_count.2.1 56 = .ok (.getfield 7, 3) := by decide +kernel
theorem dM_count_59 : decode yM_count.2.1 59 = .ok (.bipush 6, 2) := by decide +kernel
theorem dM_count_61 : decode yM_count.2.1 61 = .ok (.iaload, 1) := by decide +kernel
theorem dM_count_62 : decode yM_count.2.1 62 = .ok (.ireturn, 1) := by decide +kernel
theorem dM_count_63 : decode yM_count.2.1 63 = .ok (.aload_n 0, 1) := by decide +kernel
theorem dM_count_64 : decode yM_count.2.1 64 = .ok (.getfield 7, 3) := by decide +kernel
theorem dM_count_67 : decode yM_count.2.1 67 = .ok (.iconst 1, 1) := by decide +kernel
theorem dM_count_68 : decode yM_count.2.1 68 = .ok (.iaload, 1) := by decide +kernel
theorem dM_count_69 : decode yM_count.2.1 69 = .ok (.ireturn, 1) := by decide +kernel
theorem dM_count_70 : decode yM_count.2.1 70 = .ok (.aload_n 0, 1) := by decide +kernel
theorem dM_count_71 : decode yM_count.2.1 71 = .ok (.getfield 7, 3) := by decide +kernel
theorem dM_count_74 : decode yM_count.2.1 74 = .ok (.iconst 2, 1) := by decide +kernel
theorem dM_count_75 : decode yM_count.2.1 75 = .ok (.iaload, 1) := by decide +kernel
theorem dM_count_76 : decode yM_count.2.1 76 = .ok (.ireturn, 1) := by decide +kernel
theorem dM_count_77 : decode yM_count.2.1 77 = .ok (.aload_n 0, 1) := by decide +kernel
theorem dM_count_78 : decode yM_count.2.1 78 = .ok (.getfield 7, 3) := by decide +kernel
theorem dM_count_81 : decode yM_count.2.1 81 = .ok (.bipush 64, 2) := by decide +kernel
theorem dM_count_83 : decode yM_count.2.1 83 = .ok (.iaload, 1) := by decide +kernel
theorem dM_count_84 : decode yM_count.2.1 84 = .ok (.ireturn, 1) := by decide +kernel
theorem dM_count_85 : decode yM_count.2.1 85 = .ok (.aload_n 0, 1) := by decide +kernel
theorem dM_count_86 : decode yM_count.2.1 86 = .ok (.getfield 356, 3) := by decide +kernel
theorem dM_count_89 : decode yM_count.2.1 89 = .ok (.ireturn, 1) := by decide +kernel
theorem dM_count_90 : decode yM_count.2.1 90 = .ok (.aload_n 0, 1) := by decide +kernel
theorem dM_count_91 : decode yM_count.2.1 91 = .ok (.getfield 227, 3) := by decide +kernel
theorem dM_count_94 : decode yM_count.2.1 94 = .ok (.ireturn, 1) := by decide +kernel
theorem dM_count_95 : decode yM_count.2.1 95 = .ok (.aload_n 0, 1) := by decide +kernel
theorem dM_count_96 : decode yM_count.2.1 96 = .ok (.getfield 7, 3) := by decide +kernel
theorem dM_count_99 : decode yM_count.2.1 99 = .ok (.bipush 7, 2) := by decide +kernel
theorem dM_count_101 : decode yM_count.2.1 101 = .ok (.iaload, 1) := by decide +kernel
theorem dM_count_102 : decode yM_count.2.1 102 = .ok (.ireturn, 1) := by decide +kernel
theorem dM_count_103 : decode yM_count.2.1 103 = .ok (.ldc 96, 2) := by decide +kernel
theorem dM_count_105 : decode yM_count.2.1 105 = .ok (.ireturn, 1) := by decide +kernel
