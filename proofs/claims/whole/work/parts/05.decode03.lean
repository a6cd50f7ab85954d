theorem dX11_sq_20 : decode cX11_sq 20 = .ok (.lreturn, 1) := by decide +kernel
theorem dX11_areTold_0 : decode cX11_areTold 0 = .ok (.aload_n 0, 1) := by decide +kernel
theorem dX11_areTold_1 : decode cX11_areTold 1 = .ok (.iload_n 1, 1) := by decide +kernel
theorem dX11_areTold_2 : decode cX11_areTold 2 = .ok (.iload_n 2, 1) := by decide +kernel
theorem dX11_areTold_3 : decode cX11_areTold 3 = .ok (.invokevirtual 149, 3) := by decide +kernel
theorem dX11_areTold_6 : decode cX11_areTold 6 = .ok (.lconst 0, 1) := by decide +kernel
theorem dX11_areTold_7 : decode cX11_areTold 7 = .ok (.lcmp, 1) := by decide +kernel
theorem dX11_areTold_8 : decode cX11_areTold 8 = .ok (.ifCond .le 29, 3) := by decide +kernel
theorem dX11_areTold_11 : decode cX11_areTold 11 = .ok (.aload_n 0, 1) := by decide +kernel
theorem dX11_areTold_12 : decode cX11_areTold 12 = .ok (.iload_n 1, 1) := by decide +kernel
theorem dX11_areTold_13 : decode cX11_areTold 13 = .ok (.iload_n 3, 1) := by decide +kernel
theorem dX11_areTold_14 : decode cX11_areTold 14 = .ok (.invokevirtual 149, 3) := by decide +kernel
theorem dX11_areTold_17 : decode cX11_areTold 17 = .ok (.lconst 0, 1) := by decide +kernel
theorem dX11_areTold_18 : decode cX11_areTold 18 = .ok (.lcmp, 1) := by decide +kernel
theorem dX11_areTold_19 : decode cX11_areTold 19 = .ok (.ifCond .le 18, 3) := by decide +kernel
theorem dX11_areTold_22 : decode cX11_areTold 22 = .ok (.aload_n 0, 1) := by decide +kernel
theorem dX11_areTold_23 : decode cX11_areTold 23 = .ok (.iload_n 2, 1) := by decide +kernel
theorem dX11_areTold_24 : decode cX11_areTold 24 = .ok (.iload_n 3, 1) := by decide +kernel
theorem dX11_areTold_25 : decode cX11_areTold 25 = .ok (.invokevirtual 149, 3) := by decide +kernel
theorem dX11_areTold_28 : decode cX11_areTold 28 = .ok (.lconst 0, 1) := by decide +kernel
theorem dX11_areTold_29 : decode cX11_areTold 29 = .ok (.lcmp, 1) := by decide +kernel
theorem dX11_areTold_30 : decode cX11_areTold 30 = .ok (.ifCond .le 7, 3) := by decide +kernel
theorem dX11_areTold_33 : decode cX11_areTold 33 = .ok (.iconst 1, 1) := by decide +kernel
theorem dX11_areTold_34 : decode cX11_areTold 34 = .ok (.goto 4, 3) := by decide +kernel
theorem dX11_areTold_37 : decode cX11_areTold 37 = .ok (.iconst 0, 1) := by decide +kernel
theorem dX11_areTold_38 : decode cX11_areTold 38 = .ok (.ireturn, 1) := by decide +kernel
theorem dX11_allTold_0 : decode cX11_allTold 0 = .ok (.aload_n 0, 1) := by decide +kernel
theorem dX11_allTold_1 : decode cX11_allTold 1 = .ok (.iload_n 1, 1) := by decide +kernel
theorem dX11_allTold_2 : decode cX11_allTold 2 = .ok (.iload_n 2, 1) := by decide +kernel
theorem dX11_allTold_3 : decode cX11_allTold 3 = .ok (.iload_n 3, 1) := by decide +kernel
theorem dX11_allTold_4 : decode cX11_allTold 4 = .ok (.invokevirtual 153, 3) := by decide +kernel
theorem dX11_allTold_7 : decode cX11_allTold 7 = .ok (.ifCond .eq 30, 3) := by decide +kernel
theorem dX11_allTold_10 : decode cX11_allTold 10 = .ok (.aload_n 0, 1) := by decide +kernel
theorem dX11_allTold_11 : decode cX11_allTold 11 = .ok (.iload_n 1, 1) := by decide +kernel
theorem dX11_allTold_12 : decode cX11_allTold 12 = .ok (.iload_n 2, 1) := by decide +kernel
theorem dX11_allTold_13 : decode cX11_allTold 13 = .ok (.iload 4, 2) := by decide +kernel
theorem dX11_allTold_15 : decode cX11_allTold 15 = .ok (.invokevirtual 153, 3) := by decide +kernel
theorem dX11_allTold_18 : decode cX11_allTold 18 = .ok (.ifCond .eq 19, 3) := by decide +kernel
theorem dX11_allTold_21 : decode cX11_allTold 21 = .ok (.aload_n 0, 1) := by decide +kernel
theorem dX11_allTold_22 : decode cX11_allTold 22 = .ok (.iload_n 3, 1) := by decide +kernel
theorem dX11_allTold_23 : decode cX11_allTold 23 = .ok (.iload 4, 2) := by decide +kernel
theorem dX11_allTold_25 : decode cX11_allTold 25 = .ok (.invokevirtual 149, 3) := by decide +kernel
theorem dX11_allTold_28 : decode cX11_allTold 28 = .ok (.lconst 0, 1) := by decide +kernel
theorem dX11_allTold_29 : decode cX11_allTold 29 = .ok (.lcmp, 1) := by decide +kernel
theorem dX11_allTold_30 : decode cX11_allTold 30 = .ok (.ifCond .le 7, 3) := by decide +kernel
theorem dX11_allTold_33 : decode cX11_allTold 33 = .ok (.iconst 1, 1) := by decide +kernel
theorem dX11_allTold_34 : decode cX11_allTold 34 = .ok (.goto 4, 3) := by decide +kernel
theorem dX11_allTold_37 : decode cX11_allTold 37 = .ok (.iconst 0, 1) := by decide +kernel
theorem dX11_allTold_38 : decode cX11_allTold 38 = .ok (.ireturn, 1) := by decide +kernel
theorem dX11_far_0 : decode cX11_far 0 = .ok (.aload_n 0, 1) := by decide +kernel
theorem dX11_far_1 : decode cX11_far 1 = .ok (.iload_n 1, 1) := by decide +kernel
theorem dX11_far_2 : decode cX11_far 2 = .ok (.iload_n 2, 1) := by decide +kernel
theorem dX11_far_3 : decode cX11_far 3 = .ok (.invokevirtual 142, 3) := by decide +kernel
theorem dX11_far_6 : decode cX11_far 6 = .ok (.ifCond .ne 5, 3) := by decide +kernel
theorem dX11_far_9 : decode cX11_far 9 = .ok (.iconst (-1), 1) := by decide +kernel
theorem dX11_far_10 : decode cX11_far 10 = .ok (.ireturn, 1) := by decide +kernel
theorem dX11_far_11 : decode cX11_far 11 = .ok (.aload_n 0, 1) := by decide +kernel
theorem dX11_far_12 : decode cX11_far 12 = .ok (.iload_n 1, 1) := by decide +kernel
theorem dX11_far_13 : decode cX11_far 13 = .ok (.iload_n 2, 1) := by decide +kernel
theorem dX11_far_14 : decode cX11_far 14 = .ok (.invokevirtual 149, 3) := by decide +kernel
theorem dX11_far_17 : decode cX11_far 17 = .ok (.lconst 0, 1) := by decide +kernel
theorem dX11_far_18 : decode cX11_far 18 = .ok (.lcmp, 1) := by decide +kernel
theorem dX11_far_19 : decode cX11_far 19 = .ok (.ifCond .ne 8, 3) := by decide +kernel
theorem dX11_far_22 : decode cX11_far 22 = .ok (.bipush (-4), 2) := by decide +kernel
theorem dX11_far_24 : decode cX11_far 24 = .ok (.goto 10, 3) := by decide +kernel
theorem dX11_far_27 : decode cX11_far 27 = .ok (.aload_n 0, 1) := by decide +kernel
theorem dX11_far_28 : decode cX11_far 28 = .ok (.iload_n 1, 1) := by decide +kernel
theorem dX11_far_29 : decode cX11_far 29 = .ok (.iload_n 2, 1) := by decide +kernel
theorem dX11_far_30 : decode cX11_far 30 = .ok (.invokevirtual 149, 3) := by decide +kernel
theorem dX11_far_33 : decode cX11_far 33 = .ok (.l2i, 1) := by decide +kernel
theorem dX11_far_34 : decode cX11_far 34 = .ok (.ireturn, 1) := by decide +kernel
theorem dX11_tells2_0 : decode cX11_tells2 0 = .ok (.aload_n 0, 1) := by decide +kernel
theorem dX11_tells2_1 : decode cX11_tells2 1 = .ok (.iload_n 1, 1) := by decide +kernel
theorem dX11_tells2_2 : decode cX11_tells2 2 = .ok (.iload_n 2, 1) := by decide +kernel
theorem dX11_tells2_3 : decode cX11_tells2 3 = .ok (.invokevirtual 142, 3) := by decide +kernel
theorem dX11_tells2_6 : decode cX11_tells2 6 = .ok (.ifCond .eq 21, 3) := by decide +kernel
theorem dX11_tells2_9 : decode cX11_tells2 9 = .ok (.iload_n 3, 1) := by decide +kernel
theorem dX11_tells2_10 : decode cX11_tells2 10 = .ok (.i2l, 1) := by decide +kernel
theorem dX11_tells2_11 : decode cX11_tells2 11 = .ok (.lconst 1, 1) := by decide +kernel
theorem dX11_tells2_12 : decode cX11_tells2 12 = .ok (.ldc2_w 156, 3) := by decide +kernel
theorem dX11_tells2_15 : decode cX11_tells2 15 = .ok (.invokestatic 64, 3) := by decide +kernel
theorem dX11_tells2_18 : decode cX11_tells2 18 = .ok (.ifCond .ne 11, 3) := by decide +kernel
theorem dX11_tells2_21 : decode cX11_tells2 21 = .ok (.iload_n 3, 1) := by decide +kernel
theorem dX11_tells2_22 : decode cX11_tells2 22 = .ok (.bipush (-4), 2) := by decide +kernel
theorem dX11_tells2_24 : decode cX11_tells2 24 = .ok (.if_icmp .eq 5, 3) := by decide +kernel
theorem dX11_tells2_27 : decode cX11_tells2 27 = .ok (.iconst (-1), 1) := by decide +kernel
theorem dX11_tells2_28 : decode cX11_tells2 28 = .ok (.ireturn, 1) := by decide +kernel
theorem dX11_tells2_29 : decode cX11_tells2 29 = .ok (.aload_n 0, 1) := by decide +kernel
theorem dX11_tells2_30 : decode cX11_tells2 30 = .ok (.iload_n 1, 1) := by decide +kernel
theorem dX11_tells2_31 : decode cX11_tells2 31 = .ok (.iload_n 2, 1) := by decide +kernel
theorem dX11_tells2_32 : decode cX11_tells2 32 = .ok (.invokevirtual 149, 3) := by decide +kernel
theorem dX11_tells2_35 : decode cX11_tells2 35 = .ok (.lconst 0, 1) := by decide +kernel
theorem dX11_tells2_36 : decode cX11_tells2 36 = .ok (.lcmp, 1) := by decide +kernel
theorem dX11_tells2_37 : decode cX11_tells2 37 = .ok (.ifCond .ne 8, 3) := by decide +kernel
theorem dX11_tells2_40 : decode cX11_tells2 40 = .ok (.bipush (-4), 2) := by decide +kernel
theorem dX11_tells2_42 : decode cX11_tells2 42 = .ok (.goto 10, 3) := by decide +kernel
theorem dX11_tells2_45 : decode cX11_tells2 45 = .ok (.aload_n 0, 1) := by decide +kernel
theorem dX11_tells2_46 : decode cX11_tells2 46 = .ok (.iload_n 1, 1) := by decide +kernel
theorem dX11_tells2_47 : decode cX11_tells2 47 = .ok (.iload_n 2, 1) := by decide +kernel
theorem dX11_tells2_48 : decode cX11_tells2 48 = .ok (.invokevirtual 149, 3) := by decide +kernel
theorem dX11_tells2_51 : decode cX11_tells2 51 = .ok (.l2i, 1) := by decide +kernel
theorem dX11_tells2_52 : decode cX11_tells2 52 = .ok (.istore 4, 2) := by decide +kernel
theorem dX11_tells2_54 : decode cX11_tells2 54 = .ok (.aload_n 0, 1) := by decide +kernel
theorem dX11_tells2_55 : decode cX11_tells2 55 = .ok (.getfield 7, 3) := by decide +kernel
theorem dX11_tells2_58 : decode cX11_tells2 58 = .ok (.iload_n 1, 1) := by decide +kernel
theorem dX11_tells2_59 : decode cX11_tells2 59 = .ok (.iload_n 2, 1) := by decide +kernel
theorem dX11_tells2_60 : decode cX11_tells2 60 = .ok (.invokestatic 113, 3) := by decide +kernel
theorem dX11_tells2_63 : decode cX11_tells2 63 = .ok (.iload_n 3, 1) := by decide +kernel
theorem dX11_tells2_64 : decode cX11_tells2 64 = .ok (.bipush (-4), 2) := by decide +kernel
theorem dX11_tells2_66 : decode cX11_tells2 66 = .ok (.if_icmp .ne 7, 3) := by decide +kernel
theorem dX11_tells2_69 : decode cX11_tells2 69 = .ok (.iconst 0, 1) := by decide +kernel
theorem dX11_tells2_70 : decode cX11_tells2 70 = .ok (.goto 4, 3) := by decide +kernel
theorem dX11_tells2_73 : decode cX11_tells2 73 = .ok (.iload_n 3, 1) := by decide +kernel
theorem dX11_tells2_74 : decode cX11_tells2 74 = .ok (.iastore, 1) := by decide +kernel
theorem dX11_tells2_75 : decode cX11_tells2 75 = .ok (.iload 4, 2) := by decide +kernel
theorem dX11_tells2_77 : decode cX11_tells2 77 = .ok (.ireturn, 1) := by decide +kernel
theorem dX11_tell_0 : decode cX11_tell 0 = .ok (.aload_n 0, 1) := by decide +kernel
theorem dX11_tell_1 : decode cX11_tell 1 = .ok (.iload_n 1, 1) := by decide +kernel
theorem dX11_tell_2 : decode cX11_tell 2 = .ok (.iload_n 2, 1) := by decide +kernel
theorem dX11_tell_3 : decode cX11_tell 3 = .ok (.iload_n 3, 1) := by decide +kernel
theorem dX11_tell_4 : decode cX11_tell 4 = .ok (.invokevirtual 158, 3) := by decide +kernel
theorem dX11_tell_7 : decode cX11_tell 7 = .ok (.ireturn, 1) := by decide +kernel
theorem dX11_pair_0 : decode cX11_pair 0 = .ok (.aload_n 0, 1) := by decide +kernel
theorem dX11_pair_1 : decode cX11_pair 1 = .ok (.iload_n 1, 1) := by decide +kernel
theorem dX11_pair_2 : decode cX11_pair 2 = .ok (.iload_n 2, 1) := by decide +kernel
theorem dX11_pair_3 : decode cX11_pair 3 = .ok (.invokevirtual 142, 3) := by decide +kernel
theorem dX11_pair_6 : decode cX11_pair 6 = .ok (.ifCond .eq 11, 3) := by decide +kernel
theorem dX11_pair_9 : decode cX11_pair 9 = .ok (.iload_n 1, 1) := by decide +kernel
theorem dX11_pair_10 : decode cX11_pair 10 = .ok (.iload_n 2, 1) := by decide +kernel
theorem dX11_pair_11 : decode cX11_pair 11 = .ok (.invokestatic 113, 3) := by decide +kernel
theorem dX11_pair_14 : decode cX11_pair 14 = .ok (.goto 4, 3) := by decide +kernel
theorem dX11_pair_17 : decode cX11_pair 17 = .ok (.iconst (-1), 1) := by decide +kernel
theorem dX11_pair_18 : decode cX11_pair 18 = .ok (.ireturn, 1) := by decide +kernel
theorem dX11_wideBy_0 : decode cX11_wideBy 0 = .ok (.lload_n 0, 1) := by decide +kernel
theorem dX11_wideBy_1 : decode cX11_wideBy 1 = .ok (.lload_n 2, 1) := by decide +kernel
theorem dX11_wideBy_2 : decode cX11_wideBy 2 = .ok (.ladd, 1) := by decide +kernel
theorem dX11_wideBy_3 : decode cX11_wideBy 3 = .ok (.lload 4, 2) := by decide +kernel
theorem dX11_wideBy_5 : decode cX11_wideBy 5 = .ok (.lsub, 1) := by decide +kernel
theorem dX11_wideBy_6 : decode cX11_wideBy 6 = .ok (.lstore 6, 2) := by decide +kernel
theorem dX11_wideBy_8 : decode cX11_wideBy 8 = .ok (.ldc2_w 162, 3) := by decide +kernel
theorem dX11_wideBy_11 : decode cX11_wideBy 11 = .ok (.lload_n 0, 1) := by decide +kernel
theorem dX11_wideBy_12 : decode cX11_wideBy 12 = .ok (.lmul, 1) := by decide +kernel
theorem dX11_wideBy_13 : decode cX11_wideBy 13 = .ok (.lload_n 2, 1) := by decide +kernel
theorem dX11_wideBy_14 : decode cX11_wideBy 14 = .ok (.lmul, 1) := by decide +kernel
theorem dX11_wideBy_15 : decode cX11_wideBy 15 = .ok (.lload 6, 2) := by decide +kernel
theorem dX11_wideBy_17 : decode cX11_wideBy 17 = .ok (.lload 6, 2) := by decide +kernel
theorem dX11_wideBy_19 : decode cX11_wideBy 19 = .ok (.lmul, 1) := by decide +kernel
theorem dX11_wideBy_20 : decode cX11_wideBy 20 = .ok (.lsub, 1) := by decide +kernel
theorem dX11_wideBy_21 : decode cX11_wideBy 21 = .ok (.lreturn, 1) := by decide +kernel
theorem dX11_wideOf_0 : decode cX11_wideOf 0 = .ok (.aload_n 0, 1) := by decide +kernel
theorem dX11_wideOf_1 : decode cX11_wideOf 1 = .ok (.iload_n 1, 1) := by decide +kernel
theorem dX11_wideOf_2 : decode cX11_wideOf 2 = .ok (.iload_n 2, 1) := by decide +kernel
theorem dX11_wideOf_3 : decode cX11_wideOf 3 = .ok (.invokevirtual 149, 3) := by decide +kernel
theorem dX11_wideOf_6 : decode cX11_wideOf 6 = .ok (.aload_n 0, 1) := by decide +kernel
theorem dX11_wideOf_7 : decode cX11_wideOf 7 = .ok (.iload_n 1, 1) := by decide +kernel
theorem dX11_wideOf_8 : decode cX11_wideOf 8 = .ok (.iload_n 3, 1) := by decide +kernel
theorem dX11_wideOf_9 : decode cX11_wideOf 9 = .ok (.invokevirtual 149, 3) := by decide +kernel
theorem dX11_wideOf_12 : decode cX11_wideOf 12 = .ok (.aload_n 0, 1) := by decide +kernel
theorem dX11_wideOf_13 : decode cX11_wideOf 13 = .ok (.iload_n 2, 1) := by decide +kernel
theorem dX11_wideOf_14 : decode cX11_wideOf 14 = .ok (.iload_n 3, 1) := by decide +kernel
theorem dX11_wideOf_15 : decode cX11_wideOf 15 = .ok (.invokevirtual 149, 3) := by decide +kernel
theorem dX11_wideOf_18 : decode cX11_wideOf 18 = .ok (.invokestatic 164, 3) := by decide +kernel
theorem dX11_wideOf_21 : decode cX11_wideOf 21 = .ok (.lreturn, 1) := by decide +kernel
theorem dX11_canBe_0 : decode cX11_canBe 0 = .ok (.aload_n 0, 1) := by decide +kernel
theorem dX11_canBe_1 : decode cX11_canBe 1 = .ok (.iload_n 1, 1) := by decide +kernel
theorem dX11_canBe_2 : decode cX11_canBe 2 = .ok (.iload_n 2, 1) := by decide +kernel
theorem dX11_canBe_3 : decode cX11_canBe 3 = .ok (.iload_n 3, 1) := by decide +kernel
theorem dX11_canBe_4 : decode cX11_canBe 4 = .ok (.invokevirtual 168, 3) := by decide +kernel
theorem dX11_canBe_7 : decode cX11_canBe 7 = .ok (.lconst 0, 1) := by decide +kernel
theorem dX11_canBe_8 : decode cX11_canBe 8 = .ok (.lcmp, 1) := by decide +kernel
theorem dX11_canBe_9 : decode cX11_canBe 9 = .ok (.ifCond .lt 7, 3) := by decide +kernel
theorem dX11_canBe_12 : decode cX11_canBe 12 = .ok (.iconst 1, 1) := by decide +kernel
theorem dX11_canBe_13 : decode cX11_canBe 13 = .ok (.goto 4, 3) := by decide +kernel
theorem dX11_canBe_16 : decode cX11_canBe 16 = .ok (.iconst 0, 1) := by decide +kernel
theorem dX11_canBe_17 : decode cX11_canBe 17 = .ok (.ireturn, 1) := by decide +kernel
theorem dX11_wide_0 : decode cX11_wide 0 = .ok (.aload_n 0, 1) := by decide +kernel
theorem dX11_wide_1 : decode cX11_wide 1 = .ok (.iload_n 1, 1) := by decide +kernel
theorem dX11_wide_2 : decode cX11_wide 2 = .ok (.iload_n 2, 1) := by decide +kernel
theorem dX11_wide_3 : decode cX11_wide 3 = .ok (.iload_n 3, 1) := by decide +kernel
theorem dX11_wide_4 : decode cX11_wide 4 = .ok (.invokevirtual 145, 3) := by decide +kernel
theorem dX11_wide_7 : decode cX11_wide 7 = .ok (.ifCond .ne 7, 3) := by decide +kernel
theorem dX11_wide_10 : decode cX11_wide 10 = .ok (.ldc2_w 172, 3) := by decide +kernel
theorem dX11_wide_13 : decode cX11_wide 13 = .ok (.lreturn, 1) := by decide +kernel
theorem dX11_wide_14 : decode cX11_wide 14 = .ok (.aload_n 0, 1) := by decide +kernel
theorem dX11_wide_15 : decode cX11_wide 15 = .ok (.iload_n 1, 1) := by decide +kernel
theorem dX11_wide_16 : decode cX11_wide 16 = .ok (.iload_n 2, 1) := by decide +kernel
theorem dX11_wide_17 : decode cX11_wide 17 = .ok (.iload_n 3, 1) := by decide +kernel
theorem dX11_wide_18 : decode cX11_wide 18 = .ok (.invokevirtual 153, 3) := by decide +kernel
theorem dX11_wide_21 : decode cX11_wide 21 = .ok (.ifCond .eq 13, 3) := by decide +kernel
theorem dX11_wide_24 : decode cX11_wide 24 = .ok (.aload_n 0, 1) := by decide +kernel
theorem dX11_wide_25 : decode cX11_wide 25 = .ok (.iload_n 1, 1) := by decide +kernel
theorem dX11_wide_26 : decode cX11_wide 26 = .ok (.iload_n 2, 1) := by decide +kernel
theorem dX11_wide_27 : decode cX11_wide 27 = .ok (.iload_n 3, 1) := by decide +kernel
theorem dX11_wide_28 : decode cX11_wide 28 = .ok (.invokevirtual 168, 3) := by decide +kernel
theorem dX11_wide_31 : decode cX11_wide 31 = .ok (.goto 6, 3) := by decide +kernel
theorem dX11_wide_34 : decode cX11_wide 34 = .ok (.ldc2_w 174, 3) := by decide +kernel
theorem dX11_wide_37 : decode cX11_wide 37 = .ok (.lreturn, 1) := by decide +kernel
theorem dX11_three_0 : decode cX11_three 0 = .ok (.aload_n 0, 1) := by decide +kernel
theorem dX11_three_1 : decode cX11_three 1 = .ok (.iload_n 1, 1) := by decide +kernel
theorem dX11_three_2 : decode cX11_three 2 = .ok (.iload_n 2, 1) := by decide +kernel
theorem dX11_three_3 : decode cX11_three 3 = .ok (.iload_n 3, 1) := by decide +kernel
theorem dX11_three_4 : decode cX11_three 4 = .ok (.invokevirtual 145, 3) := by decide +kernel
theorem dX11_three_7 : decode cX11_three 7 = .ok (.ifCond .ne 5, 3) := by decide +kernel
theorem dX11_three_10 : decode cX11_three 10 = .ok (.iconst (-1), 1) := by decide +kernel
theorem dX11_three_11 : decode cX11_three 11 = .ok (.ireturn, 1) := by decide +kernel
theorem dX11_three_12 : decode cX11_three 12 = .ok (.aload_n 0, 1) := by decide +kernel
theorem dX11_three_13 : decode cX11_three 13 = .ok (.iload_n 1, 1) := by decide +kernel
theorem dX11_three_14 : decode cX11_three 14 = .ok (.iload_n 2, 1) := by decide +kernel
theorem dX11_three_15 : decode cX11_three 15 = .ok (.iload_n 3, 1) := by decide +kernel
theorem dX11_three_16 : decode cX11_three 16 = .ok (.invokevirtual 153, 3) := by decide +kernel
theorem dX11_three_19 : decode cX11_three 19 = .ok (.ifCond .ne 8, 3) := by decide +kernel
theorem dX11_three_22 : decode cX11_three 22 = .ok (.bipush (-4), 2) := by decide +kernel
theorem dX11_three_24 : decode cX11_three 24 = .ok (.goto 18, 3) := by decide +kernel
theorem dX11_three_27 : decode cX11_three 27 = .ok (.aload_n 0, 1) := by decide +kernel
theorem dX11_three_28 : decode cX11_three 28 = .ok (.iload_n 1, 1) := by decide +kernel
theorem dX11_three_29 : decode cX11_three 29 = .ok (.iload_n 2, 1) := by decide +kernel
theorem dX11_three_30 : decode cX11_three 30 = .ok (.iload_n 3, 1) := by decide +kernel
theorem dX11_three_31 : decode cX11_three 31 = .ok (.invokevirtual 176, 3) := by decide +kernel
theorem dX11_three_34 : decode cX11_three 34 = .ok (.ifCond .eq 7, 3) := by decide +kernel
theorem dX11_three_37 : decode cX11_three 37 = .ok (.iconst 1, 1) := by decide +kernel
theorem dX11_three_38 : decode cX11_three 38 = .ok (.goto 4, 3) := by decide +kernel
theorem dX11_three_41 : decode cX11_three 41 = .ok (.iconst 0, 1) := by decide +kernel
theorem dX11_three_42 : decode cX11_three 42 = .ok (.ireturn, 1) := by decide +kernel
theorem dX11_dot_0 : decode cX11_dot 0 = .ok (.aload_n 0, 1) := by decide +kernel
theorem dX11_dot_1 : decode cX11_dot 1 = .ok (.iload_n 1, 1) := by decide +kernel
theorem dX11_dot_2 : decode cX11_dot 2 = .ok (.iload_n 2, 1) := by decide +kernel
theorem dX11_dot_3 : decode cX11_dot 3 = .ok (.invokevirtual 149, 3) := by decide +kernel
theorem dX11_dot_6 : decode cX11_dot 6 = .ok (.aload_n 0, 1) := by decide +kernel
theorem dX11_dot_7 : decode cX11_dot 7 = .ok (.iload_n 1, 1) := by decide +kernel
theorem dX11_dot_8 : decode cX11_dot 8 = .ok (.iload_n 3, 1) := by decide +kernel
theorem dX11_dot_9 : decode cX11_dot 9 = .ok (.invokevirtual 149, 3) := by decide +kernel
theorem dX11_dot_12 : decode cX11_dot 12 = .ok (.ladd, 1) := by decide +kernel
theorem dX11_dot_13 : decode cX11_dot 13 = .ok (.aload_n 0, 1) := by decide +kernel
theorem dX11_dot_14 : decode cX11_dot 14 = .ok (.iload_n 2, 1) := by decide +kernel
theorem dX11_dot_15 : decode cX11_dot 15 = .ok (.iload_n 3, 1) := by decide +kernel
theorem dX11_dot_16 : decode cX11_dot 16 = .ok (.invokevirtual 149, 3) := by decide +kernel
theorem dX11_dot_19 : decode cX11_dot 19 = .ok (.lsub, 1) := by decide +kernel
theorem dX11_dot_20 : decode cX11_dot 20 = .ok (.lreturn, 1) := by decide +kernel
theorem dX11_canFour_0 : decode cX11_canFour 0 = .ok (.aload_n 0, 1) := by decide +kernel
theorem dX11_canFour_1 : decode cX11_canFour 1 = .ok (.iload_n 1, 1) := by decide +kernel
theorem dX11_canFour_2 : decode cX11_canFour 2 = .ok (.iload_n 2, 1) := by decide +kernel
theorem dX11_canFour_3 : decode cX11_canFour 3 = .ok (.iload_n 3, 1) := by decide +kernel
theorem dX11_canFour_4 : decode cX11_canFour 4 = .ok (.invokevirtual 176, 3) := by decide +kernel
theorem dX11_canFour_7 : decode cX11_canFour 7 = .ok (.ifCond .eq 36, 3) := by decide +kernel
theorem dX11_canFour_10 : decode cX11_canFour 10 = .ok (.aload_n 0, 1) := by decide +kernel
theorem dX11_canFour_11 : decode cX11_canFour 11 = .ok (.iload_n 1, 1) := by decide +kernel
theorem dX11_canFour_12 : decode cX11_canFour 12 = .ok (.iload_n 2, 1) := by decide +kernel
theorem dX11_canFour_13 : decode cX11_canFour 13 = .ok (.iload 4, 2) := by decide +kernel
theorem dX11_canFour_15 : decode cX11_canFour 15 = .ok (.invokevirtual 176, 3) := by decide +kernel
theorem dX11_canFour_18 : decode cX11_canFour 18 = .ok (.ifCond .eq 25, 3) := by decide +kernel
theorem dX11_canFour_21 : decode cX11_canFour 21 = .ok (.aload_n 0, 1) := by decide +kernel
theorem dX11_canFour_22 : decode cX11_canFour 22 = .ok (.iload_n 1, 1) := by decide +kernel
theorem dX11_canFour_23 : decode cX11_canFour 23 = .ok (.iload_n 3, 1) := by decide +kernel
theorem dX11_canFour_24 : decode cX11_canFour 24 = .ok (.iload 4, 2) := by decide +kernel
theorem dX11_canFour_26 : decode cX11_canFour 26 = .ok (.invokevirtual 176, 3) := by decide +kernel
theorem dX11_canFour_29 : decode cX11_canFour 29 = .ok (.ifCond .eq 14, 3) := by decide +kernel
theorem dX11_canFour_32 : decode cX11_canFour 32 = .ok (.aload_n 0, 1) := by decide +kernel
theorem dX11_canFour_33 : decode cX11_canFour 33 = .ok (.iload_n 2, 1) := by decide +kernel
theorem dX11_canFour_34 : decode cX11_canFour 34 = .ok (.iload_n 3, 1) := by decide +kernel
theorem dX11_canFour_35 : decode cX11_canFour 35 = .ok (.iload 4, 2) := by decide +kernel
theorem dX11_canFour_37 : decode cX11_canFour 37 = .ok (.invokevirtual 176, 3) := by decide +kernel
theorem dX11_canFour_40 : decode cX11_canFour 40 = .ok (.ifCond .ne 5, 3) := by decide +kernel
theorem dX11_canFour_43 : decode cX11_canFour 43 = .ok (.iconst 0, 1) := by decide +kernel
theorem dX11_canFour_44 : decode cX11_canFour 44 = .ok (.ireturn, 1) := by decide +kernel
theorem dX11_canFour_45 : decode cX11_canFour 45 = .ok (.ldc2_w 179, 3) := by decide +kernel
theorem dX11_canFour_48 : decode cX11_canFour 48 = .ok (.aload_n 0, 1) := by decide +kernel
theorem dX11_canFour_49 : decode cX11_canFour 49 = .ok (.iload_n 1, 1) := by decide +kernel
theorem dX11_canFour_50 : decode cX11_canFour 50 = .ok (.iload_n 2, 1) := by decide +kernel
theorem dX11_canFour_51 : decode cX11_canFour 51 = .ok (.invokevirtual 149, 3) := by decide +kernel
theorem dX11_canFour_54 : decode cX11_canFour 54 = .ok (.lmul, 1) := by decide +kernel
theorem dX11_canFour_55 : decode cX11_canFour 55 = .ok (.lstore 5, 2) := by decide +kernel
theorem dX11_canFour_57 : decode cX11_canFour 57 = .ok (.aload_n 0, 1) := by decide +kernel
theorem dX11_canFour_58 : decode cX11_canFour 58 = .ok (.iload_n 1, 1) := by decide +kernel
theorem dX11_canFour_59 : decode cX11_canFour 59 = .ok (.iload_n 2, 1) := by decide +kernel
theorem dX11_canFour_60 : decode cX11_canFour 60 = .ok (.iload_n 3, 1) := by decide +kernel
theorem dX11_canFour_61 : decode cX11_canFour 61 = .ok (.invokevirtual 181, 3) := by decide +kernel
theorem dX11_canFour_64 : decode cX11_canFour 64 = .ok (.lstore 7, 2) := by decide +kernel
theorem dX11_canFour_66 : decode cX11_canFour 66 = .ok (.aload_n 0, 1) := by decide +kernel
theorem dX11_canFour_67 : decode cX11_canFour 67 = .ok (.iload_n 1, 1) := by decide +kernel
theorem dX11_canFour_68 : decode cX11_canFour 68 = .ok (.iload_n 2, 1) := by decide +kernel
theorem dX11_canFour_69 : decode cX11_canFour 69 = .ok (.iload 4, 2) := by decide +kernel
theorem dX11_canFour_71 : decode cX11_canFour 71 = .ok (.invokevirtual 181, 3) := by decide +kernel
theorem dX11_canFour_74 : decode cX11_canFour 74 = .ok (.lstore 9, 2) := by decide +kernel
theorem dX11_canFour_76 : decode cX11_canFour 76 = .ok (.ldc2_w 179, 3) := by decide +kernel
theorem dX11_canFour_79 : decode cX11_canFour 79 = .ok (.aload_n 0, 1) := by decide +kernel
theorem dX11_canFour_80 : decode cX11_canFour 80 = .ok (.iload_n 1, 1) := by decide +kernel
theorem dX11_canFour_81 : decode cX11_canFour 81 = .ok (.iload_n 3, 1) := by decide +kernel
theorem dX11_canFour_82 : decode cX11_canFour 82 = .ok (.invokevirtual 149, 3) := by decide +kernel
theorem dX11_canFour_85 : decode cX11_canFour 85 = .ok (.lmul, 1) := by decide +kernel
theorem dX11_canFour_86 : decode cX11_canFour 86 = .ok (.lstore 11, 2) := by decide +kernel
theorem dX11_canFour_88 : decode cX11_canFour 88 = .ok (.aload_n 0, 1) := by decide +kernel
theorem dX11_canFour_89 : decode cX11_canFour 89 = .ok (.iload_n 1, 1) := by decide +kernel
theorem dX11_canFour_90 : decode cX11_canFour 90 = .ok (.iload_n 3, 1) := by decide +kernel
theorem dX11_canFour_91 : decode cX11_canFour 91 = .ok (.iload 4, 2) := by decide +kernel
theorem dX11_canFour_93 : decode cX11_canFour 93 = .ok (.invokevirtual 181, 3) := by decide +kernel
theorem dX11_canFour_96 : decode cX11_canFour 96 = .ok (.lstore 13, 2) := by decide +kernel
theorem dX11_canFour_98 : decode cX11_canFour 98 = .ok (.ldc2_w 179, 3) := by decide +kernel
theorem dX11_canFour_101 : decode cX11_canFour 101 = .ok (.aload_n 0, 1) := by decide +kernel
theorem dX11_canFour_102 : decode cX11_canFour 102 = .ok (.iload_n 1, 1) := by decide +kernel
theorem dX11_canFour_103 : decode cX11_canFour 103 = .ok (.iload 4, 2) := by decide +kernel
theorem dX11_canFour_105 : decode cX11_canFour 105 = .ok (.invokevirtual 149, 3) := by decide +kernel
theorem dX11_canFour_108 : decode cX11_canFour 108 = .ok (.lmul, 1) := by decide +kernel
theorem dX11_canFour_109 : decode cX11_canFour 109 = .ok (.lstore 15, 2) := by decide +kernel
theorem dX11_canFour_111 : decode cX11_canFour 111 = .ok (.lload 5, 2) := by decide +kernel
theorem dX11_canFour_113 : decode cX11_canFour 113 = .ok (.lload 11, 2) := by decide +kernel
theorem dX11_canFour_115 : decode cX11_canFour 115 = .ok (.lload 15, 2) := by decide +kernel
theorem dX11_canFour_117 : decode cX11_canFour 117 = .ok (.lmul, 1) := by decide +kernel
theorem dX11_canFour_118 : decode cX11_canFour 118 = .ok (.lload 13, 2) := by decide +kernel
theorem dX11_canFour_120 : decode cX11_canFour 120 = .ok (.lload 13, 2) := by decide +kernel
theorem dX11_canFour_122 : decode cX11_canFour 122 = .ok (.lmul, 1) := by decide +kernel
theorem dX11_canFour_123 : decode cX11_canFour 123 = .ok (.lsub, 1) := by decide +kernel
theorem dX11_canFour_124 : decode cX11_canFour 124 = .ok (.lmul, 1) := by decide +kernel
theorem dX11_canFour_125 : decode cX11_canFour 125 = .ok (.lload 7, 2) := by decide +kernel
theorem dX11_canFour_127 : decode cX11_canFour 127 = .ok (.lload 7, 2) := by decide +kernel
theorem dX11_canFour_129 : decode cX11_canFour 129 = .ok (.lload 15, 2) := by decide +kernel
theorem dX11_canFour_131 : decode cX11_canFour 131 = .ok (.lmul, 1) := by decide +kernel
theorem dX11_canFour_132 : decode cX11_canFour 132 = .ok (.lload 13, 2) := by decide +kernel
theorem dX11_canFour_134 : decode cX11_canFour 134 = .ok (.lload 9, 2) := by decide +kernel
theorem dX11_canFour_136 : decode cX11_canFour 136 = .ok (.lmul, 1) := by decide +kernel
theorem dX11_canFour_137 : decode cX11_canFour 137 = .ok (.lsub, 1) := by decide +kernel
theorem dX11_canFour_138 : decode cX11_canFour 138 = .ok (.lmul, 1) := by decide +kernel
theorem dX11_canFour_139 : decode cX11_canFour 139 = .ok (.lsub, 1) := by decide +kernel
theorem dX11_canFour_140 : decode cX11_canFour 140 = .ok (.lload 9, 2) := by decide +kernel
theorem dX11_canFour_142 : decode cX11_canFour 142 = .ok (.lload 7, 2) := by decide +kernel
theorem dX11_canFour_144 : decode cX11_canFour 144 = .ok (.lload 13, 2) := by decide +kernel
theorem dX11_canFour_146 : decode cX11_canFour 146 = .ok (.lmul, 1) := by decide +kernel
theorem dX11_canFour_147 : decode cX11_canFour 147 = .ok (.lload 11, 2) := by decide +kernel
theorem dX11_canFour_149 : decode cX11_canFour 149 = .ok (.lload 9, 2) := by decide +kernel
theorem dX11_canFour_151 : decode cX11_canFour 151 = .ok (.lmul, 1) := by decide +kernel
theorem dX11_canFour_152 : decode cX11_canFour 152 = .ok (.lsub, 1) := by decide +kernel
theorem dX11_canFour_153 : decode cX11_canFour 153 = .ok (.lmul, 1) := by decide +kernel
theorem dX11_canFour_154 : decode cX11_canFour 154 = .ok (.ladd, 1) := by decide +kernel
theorem dX11_canFour_155 : decode cX11_canFour 155 = .ok (.lconst 0, 1) := by decide +kernel
theorem dX11_canFour_156 : decode cX11_canFour 156 = .ok (.lcmp, 1) := by decide +kernel
theorem dX11_canFour_157 : decode cX11_canFour 157 = .ok (.ifCond .ne 7, 3) := by decide +kernel
theorem dX11_canFour_160 : decode cX11_canFour 160 = .ok (.iconst 1, 1) := by decide +kernel
theorem dX11_canFour_161 : decode cX11_canFour 161 = .ok (.goto 4, 3) := by decide +kernel
theorem dX11_canFour_164 : decode cX11_canFour 164 = .ok (.iconst 0, 1) := by decide +kernel
theorem dX11_canFour_165 : decode cX11_canFour 165 = .ok (.ireturn, 1) := by decide +kernel
theorem dX11_four_0 : decode cX11_four 0 = .ok (.aload_n 0, 1) := by decide +kernel
theorem dX11_four_1 : decode cX11_four 1 = .ok (.iload_n 1, 1) := by decide +kernel
theorem dX11_four_2 : decode cX11_four 2 = .ok (.iload_n 2, 1) := by decide +kernel
theorem dX11_four_3 : decode cX11_four 3 = .ok (.iload_n 3, 1) := by decide +kernel
theorem dX11_four_4 : decode cX11_four 4 = .ok (.iload 4, 2) := by decide +kernel
theorem dX11_four_6 : decode cX11_four 6 = .ok (.invokevirtual 184, 3) := by decide +kernel
theorem dX11_four_9 : decode cX11_four 9 = .ok (.ifCond .ne 5, 3) := by decide +kernel
theorem dX11_four_12 : decode cX11_four 12 = .ok (.iconst (-1), 1) := by decide +kernel
theorem dX11_four_13 : decode cX11_four 13 = .ok (.ireturn, 1) := by decide +kernel
theorem dX11_four_14 : decode cX11_four 14 = .ok (.aload_n 0, 1) := by decide +kernel
theorem dX11_four_15 : decode cX11_four 15 = .ok (.iload_n 1, 1) := by decide +kernel
theorem dX11_four_16 : decode cX11_four 16 = .ok (.iload_n 2, 1) := by decide +kernel
theorem dX11_four_17 : decode cX11_four 17 = .ok (.iload_n 3, 1) := by decide +kernel
theorem dX11_four_18 : decode cX11_four 18 = .ok (.iload 4, 2) := by decide +kernel
theorem dX11_four_20 : decode cX11_four 20 = .ok (.invokevirtual 188, 3) := by decide +kernel
theorem dX11_four_23 : decode cX11_four 23 = .ok (.ifCond .ne 8, 3) := by decide +kernel
theorem dX11_four_26 : decode cX11_four 26 = .ok (.bipush (-4), 2) := by decide +kernel
theorem dX11_four_28 : decode cX11_four 28 = .ok (.goto 20, 3) := by decide +kernel
theorem dX11_four_31 : decode cX11_four 31 = .ok (.aload_n 0, 1) := by decide +kernel
theorem dX11_four_32 : decode cX11_four 32 = .ok (.iload_n 1, 1) := by decide +kernel
theorem dX11_four_33 : decode cX11_four 33 = .ok (.iload_n 2, 1) := by decide +kernel
theorem dX11_four_34 : decode cX11_four 34 = .ok (.iload_n 3, 1) := by decide +kernel
theorem dX11_four_35 : decode cX11_four 35 = .ok (.iload 4, 2) := by decide +kernel
theorem dX11_four_37 : decode cX11_four 37 = .ok (.invokevirtual 191, 3) := by decide +kernel
theorem dX11_four_40 : decode cX11_four 40 = .ok (.ifCond .eq 7, 3) := by decide +kernel
theorem dX11_four_43 : decode cX11_four 43 = .ok (.iconst 1, 1) := by decide +kernel
theorem dX11_four_44 : decode cX11_four 44 = .ok (.goto 4, 3) := by decide +kernel
theorem dX11_four_47 : decode cX11_four 47 = .ok (.iconst 0, 1) := by decide +kernel
theorem dX11_four_48 : decode cX11_four 48 = .ok (.ireturn, 1) := by decide +kernel
theorem dX11_layWrong_0 : decode cX11_layWrong 0 = .ok (.iconst 0, 1) := by decide +kernel
theorem dX11_layWrong_1 : decode cX11_layWrong 1 = .ok (.istore_n 1, 1) := by decide +kernel
theorem dX11_layWrong_2 : decode cX11_layWrong 2 = .ok (.iload_n 1, 1) := by decide +kernel
theorem dX11_layWrong_3 : decode cX11_layWrong 3 = .ok (.iconst 4, 1) := by decide +kernel
theorem dX11_layWrong_4 : decode cX11_layWrong 4 = .ok (.if_icmp .ge 16, 3) := by decide +kernel
theorem dX11_layWrong_7 : decode cX11_layWrong 7 = .ok (.aload_n 0, 1) := by decide +kernel
theorem dX11_layWrong_8 : decode cX11_layWrong 8 = .ok (.getfield 22, 3) := by decide +kernel
theorem dX11_layWrong_11 : decode cX11_layWrong 11 = .ok (.iload_n 1, 1) := by decide +kernel
theorem dX11_layWrong_12 : decode cX11_layWrong 12 = .ok (.iconst 0, 1) := by decide +kernel
theorem dX11_layWrong_13 : decode cX11_layWrong 13 = .ok (.iastore, 1) := by decide +kernel
theorem dX11_layWrong_14 : decode cX11_layWrong 14 = .ok (.iinc 1 1, 3) := by decide +kernel
theorem dX11_layWrong_17 : decode cX11_layWrong 17 = .ok (.goto (-15), 3) := by decide +kernel
theorem dX11_layWrong_20 : decode cX11_layWrong 20 = .ok (.aload_n 0, 1) := by decide +kernel
theorem dX11_layWrong_21 : decode cX11_layWrong 21 = .ok (.getfield 7, 3) := by decide +kernel
theorem dX11_layWrong_24 : decode cX11_layWrong 24 = .ok (.bipush 21, 2) := by decide +kernel
theorem dX11_layWrong_26 : decode cX11_layWrong 26 = .ok (.iaload, 1) := by decide +kernel
theorem dX11_layWrong_27 : decode cX11_layWrong 27 = .ok (.istore_n 1, 1) := by decide +kernel
theorem dX11_layWrong_28 : decode cX11_layWrong 28 = .ok (.iconst 0, 1) := by decide +kernel
theorem dX11_layWrong_29 : decode cX11_layWrong 29 = .ok (.istore_n 2, 1) := by decide +kernel
theorem dX11_layWrong_30 : decode cX11_layWrong 30 = .ok (.iload_n 2, 1) := by decide +kernel
theorem dX11_layWrong_31 : decode cX11_layWrong 31 = .ok (.iload_n 1, 1) := by decide +kernel
theorem dX11_layWrong_32 : decode cX11_layWrong 32 = .ok (.if_icmp .ge 172, 3) := by decide +kernel
theorem dX11_layWrong_35 : decode cX11_layWrong 35 = .ok (.iload_n 2, 1) := by decide +kernel
theorem dX11_layWrong_36 : decode cX11_layWrong 36 = .ok (.iconst 1, 1) := by decide +kernel
theorem dX11_layWrong_37 : decode cX11_layWrong 37 = .ok (.iadd, 1) := by decide +kernel
theorem dX11_layWrong_38 : decode cX11_layWrong 38 = .ok (.istore_n 3, 1) := by decide +kernel
theorem dX11_layWrong_39 : decode cX11_layWrong 39 = .ok (.iload_n 3, 1) := by decide +kernel
theorem dX11_layWrong_40 : decode cX11_layWrong 40 = .ok (.iload_n 1, 1) := by decide +kernel
theorem dX11_layWrong_41 : decode cX11_layWrong 41 = .ok (.if_icmp .ge 157, 3) := by decide +kernel
theorem dX11_layWrong_44 : decode cX11_layWrong 44 = .ok (.iload_n 3, 1) := by decide +kernel
theorem dX11_layWrong_45 : decode cX11_layWrong 45 = .ok (.iconst 1, 1) := by decide +kernel
theorem dX11_layWrong_46 : decode cX11_layWrong 46 = .ok (.iadd, 1) := by decide +kernel
theorem dX11_layWrong_47 : decode cX11_layWrong 47 = .ok (.istore 4, 2) := by decide +kernel
theorem dX11_layWrong_49 : decode cX11_layWrong 49 = .ok (.iload 4, 2) := by decide +kernel
theorem dX11_layWrong_51 : decode cX11_layWrong 51 = .ok (.iload_n 1, 1) := by decide +kernel
theorem dX11_layWrong_52 : decode cX11_layWrong 52 = .ok (.if_icmp .ge 140, 3) := by decide +kernel
theorem dX11_layWrong_55 : decode cX11_layWrong 55 = .ok (.aload_n 0, 1) := by decide +kernel
theorem dX11_layWrong_56 : decode cX11_layWrong 56 = .ok (.iload_n 2, 1) := by decide +kernel
theorem dX11_layWrong_57 : decode cX11_layWrong 57 = .ok (.iload_n 3, 1) := by decide +kernel
theorem dX11_layWrong_58 : decode cX11_layWrong 58 = .ok (.iload 4, 2) := by decide +kernel
theorem dX11_layWrong_60 : decode cX11_layWrong 60 = .ok (.invokevirtual 153, 3) := by decide +kernel
theorem dX11_layWrong_63 : decode cX11_layWrong 63 = .ok (.ifCond .eq 65, 3) := by decide +kernel
theorem dX11_layWrong_66 : decode cX11_layWrong 66 = .ok (.aload_n 0, 1) := by decide +kernel
theorem dX11_layWrong_67 : decode cX11_layWrong 67 = .ok (.getfield 22, 3) := by decide +kernel
theorem dX11_layWrong_70 : decode cX11_layWrong 70 = .ok (.iconst 3, 1) := by decide +kernel
theorem dX11_layWrong_71 : decode cX11_layWrong 71 = .ok (.dup2, 1) := by decide +kernel
theorem dX11_layWrong_72 : decode cX11_layWrong 72 = .ok (.iaload, 1) := by decide +kernel
theorem dX11_layWrong_73 : decode cX11_layWrong 73 = .ok (.iconst 1, 1) := by decide +kernel
theorem dX11_layWrong_74 : decode cX11_layWrong 74 = .ok (.iadd, 1) := by decide +kernel
theorem dX11_layWrong_75 : decode cX11_layWrong 75 = .ok (.iastore, 1) := by decide +kernel
theorem dX11_layWrong_76 : decode cX11_layWrong 76 = .ok (.aload_n 0, 1) := by decide +kernel
theorem dX11_layWrong_77 : decode cX11_layWrong 77 = .ok (.getfield 22, 3) := by decide +kernel
theorem dX11_layWrong_80 : decode cX11_layWrong 80 = .ok (.iconst 0, 1) := by decide +kernel
theorem dX11_layWrong_81 : decode cX11_layWrong 81 = .ok (.dup2, 1) := by decide +kernel
theorem dX11_layWrong_82 : decode cX11_layWrong 82 = .ok (.iaload, 1) := by decide +kernel
theorem dX11_layWrong_83 : decode cX11_layWrong 83 = .ok (.aload_n 0, 1) := by decide +kernel
theorem dX11_layWrong_84 : decode cX11_layWrong 84 = .ok (.iload_n 2, 1) := by decide +kernel
theorem dX11_layWrong_85 : decode cX11_layWrong 85 = .ok (.iload_n 3, 1) := by decide +kernel
theorem dX11_layWrong_86 : decode cX11_layWrong 86 = .ok (.iload 4, 2) := by decide +kernel
theorem dX11_layWrong_88 : decode cX11_layWrong 88 = .ok (.invokevirtual 176, 3) := by decide +kernel
theorem dX11_layWrong_91 : decode cX11_layWrong 91 = .ok (.ifCond .eq 7, 3) := by decide +kernel
theorem dX11_layWrong_94 : decode cX11_layWrong 94 = .ok (.iconst 0, 1) := by decide +kernel
theorem dX11_layWrong_95 : decode cX11_layWrong 95 = .ok (.goto 4, 3) := by decide +kernel
theorem dX11_layWrong_98 : decode cX11_layWrong 98 = .ok (.iconst 1, 1) := by decide +kernel
theorem dX11_layWrong_99 : decode cX11_layWrong 99 = .ok (.iadd, 1) := by decide +kernel
theorem dX11_layWrong_100 : decode cX11_layWrong 100 = .ok (.iastore, 1) := by decide +kernel
theorem dX11_layWrong_101 : decode cX11_layWrong 101 = .ok (.aload_n 0, 1) := by decide +kernel
theorem dX11_layWrong_102 : decode cX11_layWrong 102 = .ok (.getfield 22, 3) := by decide +kernel
theorem dX11_layWrong_105 : decode cX11_layWrong 105 = .ok (.iconst 2, 1) := by decide +kernel
theorem dX11_layWrong_106 : decode cX11_layWrong 106 = .ok (.dup2, 1) := by decide +kernel
theorem dX11_layWrong_107 : decode cX11_layWrong 107 = .ok (.iaload, 1) := by decide +kernel
theorem dX11_layWrong_108 : decode cX11_layWrong 108 = .ok (.aload_n 0, 1) := by decide +kernel
theorem dX11_layWrong_109 : decode cX11_layWrong 109 = .ok (.iload_n 2, 1) := by decide +kernel
theorem dX11_layWrong_110 : decode cX11_layWrong 110 = .ok (.iload_n 3, 1) := by decide +kernel
theorem dX11_layWrong_111 : decode cX11_layWrong 111 = .ok (.iload 4, 2) := by decide +kernel
theorem dX11_layWrong_113 : decode cX11_layWrong 113 = .ok (.invokevirtual 168, 3) := by decide +kernel
theorem dX11_layWrong_116 : decode cX11_layWrong 116 = .ok (.lconst 0, 1) := by decide +kernel
theorem dX11_layWrong_117 : decode cX11_layWrong 117 = .ok (.lcmp, 1) := by decide +kernel
theorem dX11_layWrong_118 : decode cX11_layWrong 118 = .ok (.ifCond .ne 7, 3) := by decide +kernel
theorem dX11_layWrong_121 : decode cX11_layWrong 121 = .ok (.iconst 1, 1) := by decide +kernel
theorem dX11_layWrong_122 : decode cX11_layWrong 122 = .ok (.goto 4, 3) := by decide +kernel
theorem dX11_layWrong_125 : decode cX11_layWrong 125 = .ok (.iconst 0, 1) := by decide +kernel
theorem dX11_layWrong_126 : decode cX11_layWrong 126 = .ok (.iadd, 1) := by decide +kernel
theorem dX11_layWrong_127 : decode cX11_layWrong 127 = .ok (.iastore, 1) := by decide +kernel
theorem dX11_layWrong_128 : decode cX11_layWrong 128 = .ok (.iload 4, 2) := by decide +kernel
theorem dX11_layWrong_130 : decode cX11_layWrong 130 = .ok (.iconst 1, 1) := by decide +kernel
theorem dX11_layWrong_131 : decode cX11_layWrong 131 = .ok (.iadd, 1) := by decide +kernel
theorem dX11_layWrong_132 : decode cX11_layWrong 132 = .ok (.istore 5, 2) := by decide +kernel
theorem dX11_layWrong_134 : decode cX11_layWrong 134 = .ok (.iload 5, 2) := by decide +kernel
theorem dX11_layWrong_136 : decode cX11_layWrong 136 = .ok (.iload_n 1, 1) := by decide +kernel
theorem dX11_layWrong_137 : decode cX11_layWrong 137 = .ok (.if_icmp .ge 49, 3) := by decide +kernel
theorem dX11_layWrong_140 : decode cX11_layWrong 140 = .ok (.aload_n 0, 1) := by decide +kernel
theorem dX11_layWrong_141 : decode cX11_layWrong 141 = .ok (.getfield 22, 3) := by decide +kernel
theorem dX11_layWrong_144 : decode cX11_layWrong 144 = .ok (.iconst 1, 1) := by decide +kernel
theorem dX11_layWrong_145 : decode cX11_layWrong 145 = .ok (.dup2, 1) := by decide +kernel
theorem dX11_layWrong_146 : decode cX11_layWrong 146 = .ok (.iaload, 1) := by decide +kernel
theorem dX11_layWrong_147 : decode cX11_layWrong 147 = .ok (.aload_n 0, 1) := by decide +kernel
theorem dX11_layWrong_148 : decode cX11_layWrong 148 = .ok (.iload_n 2, 1) := by decide +kernel
theorem dX11_layWrong_149 : decode cX11_layWrong 149 = .ok (.iload_n 3, 1) := by decide +kernel
theorem dX11_layWrong_150 : decode cX11_layWrong 150 = .ok (.iload 4, 2) := by decide +kernel
theorem dX11_layWrong_152 : decode cX11_layWrong 152 = .ok (.iload 5, 2) := by decide +kernel
theorem dX11_layWrong_154 : decode cX11_layWrong 154 = .ok (.invokevirtual 188, 3) := by decide +kernel
theorem dX11_layWrong_157 : decode cX11_layWrong 157 = .ok (.ifCond .eq 20, 3) := by decide +kernel
theorem dX11_layWrong_160 : decode cX11_layWrong 160 = .ok (.aload_n 0, 1) := by decide +kernel
theorem dX11_layWrong_161 : decode cX11_layWrong 161 = .ok (.iload_n 2, 1) := by decide +kernel
theorem dX11_layWrong_162 : decode cX11_layWrong 162 = .ok (.iload_n 3, 1) := by decide +kernel
theorem dX11_layWrong_163 : decode cX11_layWrong 163 = .ok (.iload 4, 2) := by decide +kernel
theorem dX11_layWrong_165 : decode cX11_layWrong 165 = .ok (.iload 5, 2) := by decide +kernel
theorem dX11_layWrong_167 : decode cX11_layWrong 167 = .ok (.invokevirtual 191, 3) := by decide +kernel
theorem dX11_layWrong_170 : decode cX11_layWrong 170 = .ok (.ifCond .ne 7, 3) := by decide +kernel
theorem dX11_layWrong_173 : decode cX11_layWrong 173 = .ok (.iconst 1, 1) := by decide +kernel
theorem dX11_layWrong_174 : decode cX11_layWrong 174 = .ok (.goto 4, 3) := by decide +kernel
theorem dX11_layWrong_177 : decode cX11_layWrong 177 = .ok (.iconst 0, 1) := by decide +kernel
theorem dX11_layWrong_178 : decode cX11_layWrong 178 = .ok (.iadd, 1) := by decide +kernel
theorem dX11_layWrong_179 : decode cX11_layWrong 179 = .ok (.iastore, 1) := by decide +kernel
theorem dX11_layWrong_180 : decode cX11_layWrong 180 = .ok (.iinc 5 1, 3) := by decide +kernel
theorem dX11_layWrong_183 : decode cX11_layWrong 183 = .ok (.goto (-49), 3) := by decide +kernel
theorem dX11_layWrong_186 : decode cX11_layWrong 186 = .ok (.iinc 4 1, 3) := by decide +kernel
theorem dX11_layWrong_189 : decode cX11_layWrong 189 = .ok (.goto (-140), 3) := by decide +kernel
theorem dX11_layWrong_192 : decode cX11_layWrong 192 = .ok (.iinc 3 1, 3) := by decide +kernel
theorem dX11_layWrong_195 : decode cX11_layWrong 195 = .ok (.goto (-156), 3) := by decide +kernel
theorem dX11_layWrong_198 : decode cX11_layWrong 198 = .ok (.iinc 2 1, 3) := by decide +kernel
theorem dX11_layWrong_201 : decode cX11_layWrong 201 = .ok (.goto (-171), 3) := by decide +kernel
theorem dX11_layWrong_204 : decode cX11_layWrong 204 = .ok (.return_, 1) := by decide +kernel
theorem dX11_wrong_0 : decode cX11_wrong 0 = .ok (.aload_n 0, 1) := by decide +kernel
theorem dX11_wrong_1 : decode cX11_wrong 1 = .ok (.invokevirtual 135, 3) := by decide +kernel
theorem dX11_wrong_4 : decode cX11_wrong 4 = .ok (.iload_n 1, 1) := by decide +kernel
theorem dX11_wrong_5 : decode cX11_wrong 5 = .ok (.i2l, 1) := by decide +kernel
theorem dX11_wrong_6 : decode cX11_wrong 6 = .ok (.lconst 0, 1) := by decide +kernel
theorem dX11_wrong_7 : decode cX11_wrong 7 = .ok (.ldc2_w 194, 3) := by decide +kernel
theorem dX11_wrong_10 : decode cX11_wrong 10 = .ok (.invokestatic 64, 3) := by decide +kernel
theorem dX11_wrong_13 : decode cX11_wrong 13 = .ok (.ifCond .ne 5, 3) := by decide +kernel
theorem dX11_wrong_16 : decode cX11_wrong 16 = .ok (.iconst (-1), 1) := by decide +kernel
theorem dX11_wrong_17 : decode cX11_wrong 17 = .ok (.ireturn, 1) := by decide +kernel
theorem dX11_wrong_18 : decode cX11_wrong 18 = .ok (.aload_n 0, 1) := by decide +kernel
theorem dX11_wrong_19 : decode cX11_wrong 19 = .ok (.invokevirtual 196, 3) := by decide +kernel
theorem dX11_wrong_22 : decode cX11_wrong 22 = .ok (.aload_n 0, 1) := by decide +kernel
theorem dX11_wrong_23 : decode cX11_wrong 23 = .ok (.getfield 22, 3) := by decide +kernel
theorem dX11_wrong_26 : decode cX11_wrong 26 = .ok (.iload_n 1, 1) := by decide +kernel
theorem dX11_wrong_27 : decode cX11_wrong 27 = .ok (.iaload, 1) := by decide +kernel
theorem dX11_wrong_28 : decode cX11_wrong 28 = .ok (.ireturn, 1) := by decide +kernel
theorem dX11_areRight_0 : decode cX11_areRight 0 = .ok (.aload_n 0, 1) := by decide +kernel
theorem dX11_areRight_1 : decode cX11_areRight 1 = .ok (.invokevirtual 196, 3) := by decide +kernel
theorem dX11_areRight_4 : decode cX11_areRight 4 = .ok (.aload_n 0, 1) := by decide +kernel
theorem dX11_areRight_5 : decode cX11_areRight 5 = .ok (.getfield 22, 3) := by decide +kernel
theorem dX11_areRight_8 : decode cX11_areRight 8 = .ok (.iconst 0, 1) := by decide +kernel
theorem dX11_areRight_9 : decode cX11_areRight 9 = .ok (.iaload, 1) := by decide +kernel
theorem dX11_areRight_10 : decode cX11_areRight 10 = .ok (.aload_n 0, 1) := by decide +kernel
theorem dX11_areRight_11 : decode cX11_areRight 11 = .ok (.getfield 22, 3) := by decide +kernel
theorem dX11_areRight_14 : decode cX11_areRight 14 = .ok (.iconst 1, 1) := by decide +kernel
theorem dX11_areRight_15 : decode cX11_areRight 15 = .ok (.iaload, 1) := by decide +kernel
theorem dX11_areRight_16 : decode cX11_areRight 16 = .ok (.iadd, 1) := by decide +kernel
theorem dX11_areRight_17 : decode cX11_areRight 17 = .ok (.ifCond .ne 7, 3) := by decide +kernel
theorem dX11_areRight_20 : decode cX11_areRight 20 = .ok (.iconst 1, 1) := by decide +kernel
theorem dX11_areRight_21 : decode cX11_areRight 21 = .ok (.goto 4, 3) := by decide +kernel
theorem dX11_areRight_24 : decode cX11_areRight 24 = .ok (.iconst 0, 1) := by decide +kernel
theorem dX11_areRight_25 : decode cX11_areRight 25 = .ok (.ireturn, 1) := by decide +kernel
theorem dX11_isRightWithout_0 : decode cX11_isRightWithout 0 = .ok (.iconst 0, 1) := by decide +kernel
theorem dX11_isRightWithout_1 : decode cX11_isRightWithout 1 = .ok (.istore 4, 2) := by decide +kernel
theorem dX11_isRightWithout_3 : decode cX11_isRightWithout 3 = .ok (.iload 4, 2) := by decide +kernel
theorem dX11_isRightWithout_5 : decode cX11_isRightWithout 5 = .ok (.bipush 21, 2) := by decide +kernel
theorem dX11_isRightWithout_7 : decode cX11_isRightWithout 7 = .ok (.if_icmp .ge 59, 3) := by decide +kernel
theorem dX11_isRightWithout_10 : decode cX11_isRightWithout 10 = .ok (.aload_n 0, 1) := by decide +kernel
theorem dX11_isRightWithout_11 : decode cX11_isRightWithout 11 = .ok (.getfield 25, 3) := by decide +kernel
theorem dX11_isRightWithout_14 : decode cX11_isRightWithout 14 = .ok (.iload 4, 2) := by decide +kernel
theorem dX11_isRightWithout_16 : decode cX11_isRightWithout 16 = .ok (.aload_n 0, 1) := by decide +kernel
theorem dX11_isRightWithout_17 : decode cX11_isRightWithout 17 = .ok (.getfield 7, 3) := by decide +kernel
theorem dX11_isRightWithout_20 : decode cX11_isRightWithout 20 = .ok (.iload 4, 2) := by decide +kernel
theorem dX11_isRightWithout_22 : decode cX11_isRightWithout 22 = .ok (.iaload, 1) := by decide +kernel
theorem dX11_isRightWithout_23 : decode cX11_isRightWithout 23 = .ok (.iastore, 1) := by decide +kernel
theorem dX11_isRightWithout_24 : decode cX11_isRightWithout 24 = .ok (.aload_n 0, 1) := by decide +kernel
theorem dX11_isRightWithout_25 : decode cX11_isRightWithout 25 = .ok (.getfield 7, 3) := by decide +kernel
theorem dX11_isRightWithout_28 : decode cX11_isRightWithout 28 = .ok (.iload 4, 2) := by decide +kernel
theorem dX11_isRightWithout_30 : decode cX11_isRightWithout 30 = .ok (.iload 4, 2) := by decide +kernel
theorem dX11_isRightWithout_32 : decode cX11_isRightWithout 32 = .ok (.iload_n 1, 1) := by decide +kernel
theorem dX11_isRightWithout_33 : decode cX11_isRightWithout 33 = .ok (.if_icmp .eq 15, 3) := by decide +kernel
theorem dX11_isRightWithout_36 : decode cX11_isRightWithout 36 = .ok (.iload 4, 2) := by decide +kernel
theorem dX11_isRightWithout_38 : decode cX11_isRightWithout 38 = .ok (.iload_n 2, 1) := by decide +kernel
theorem dX11_isRightWithout_39 : decode cX11_isRightWithout 39 = .ok (.if_icmp .eq 9, 3) := by decide +kernel
theorem dX11_isRightWithout_42 : decode cX11_isRightWithout 42 = .ok (.iload 4, 2) := by decide +kernel
theorem dX11_isRightWithout_44 : decode cX11_isRightWithout 44 = .ok (.iload_n 3, 1) := by decide +kernel
theorem dX11_isRightWithout_45 : decode cX11_isRightWithout 45 = .ok (.if_icmp .ne 7, 3) := by decide +kernel
theorem dX11_isRightWithout_48 : decode cX11_isRightWithout 48 = .ok (.iconst 0, 1) := by decide +kernel
theorem dX11_isRightWithout_49 : decode cX11_isRightWithout 49 = .ok (.goto 10, 3) := by decide +kernel
theorem dX11_isRightWithout_52 : decode cX11_isRightWithout 52 = .ok (.aload_n 0, 1) := by decide +kernel
theorem dX11_isRightWithout_53 : decode cX11_isRightWithout 53 = .ok (.getfield 7, 3) := by decide +kernel
theorem dX11_isRightWithout_56 : decode cX11_isRightWithout 56 = .ok (.iload 4, 2) := by decide +kernel
theorem dX11_isRightWithout_58 : decode cX11_isRightWithout 58 = .ok (.iaload, 1) := by decide +kernel
theorem dX11_isRightWithout_59 : decode cX11_isRightWithout 59 = .ok (.iastore, 1) := by decide +kernel
theorem dX11_isRightWithout_60 : decode cX11_isRightWithout 60 = .ok (.iinc 4 1, 3) := by decide +kernel
theorem dX11_isRightWithout_63 : decode cX11_isRightWithout 63 = .ok (.goto (-60), 3) := by decide +kernel
theorem dX11_isRightWithout_66 : decode cX11_isRightWithout 66 = .ok (.aload_n 0, 1) := by decide +kernel
theorem dX11_isRightWithout_67 : decode cX11_isRightWithout 67 = .ok (.invokevirtual 199, 3) := by decide +kernel
theorem dX11_isRightWithout_70 : decode cX11_isRightWithout 70 = .ok (.istore 4, 2) := by decide +kernel
theorem dX11_isRightWithout_72 : decode cX11_isRightWithout 72 = .ok (.iconst 0, 1) := by decide +kernel
theorem dX11_isRightWithout_73 : decode cX11_isRightWithout 73 = .ok (.istore 5, 2) := by decide +kernel
theorem dX11_isRightWithout_75 : decode cX11_isRightWithout 75 = .ok (.iload 5, 2) := by decide +kernel
theorem dX11_isRightWithout_77 : decode cX11_isRightWithout 77 = .ok (.bipush 21, 2) := by decide +kernel
theorem dX11_isRightWithout_79 : decode cX11_isRightWithout 79 = .ok (.if_icmp .ge 23, 3) := by decide +kernel
theorem dX11_isRightWithout_82 : decode cX11_isRightWithout 82 = .ok (.aload_n 0, 1) := by decide +kernel
theorem dX11_isRightWithout_83 : decode cX11_isRightWithout 83 = .ok (.getfield 7, 3) := by decide +kernel
theorem dX11_isRightWithout_86 : decode cX11_isRightWithout 86 = .ok (.iload 5, 2) := by decide +kernel
theorem dX11_isRightWithout_88 : decode cX11_isRightWithout 88 = .ok (.aload_n 0, 1) := by decide +kernel
theorem dX11_isRightWithout_89 : decode cX11_isRightWithout 89 = .ok (.getfield 25, 3) := by decide +kernel
theorem dX11_isRightWithout_92 : decode cX11_isRightWithout 92 = .ok (.iload 5, 2) := by decide +kernel
theorem dX11_isRightWithout_94 : decode cX11_isRightWithout 94 = .ok (.iaload, 1) := by decide +kernel
theorem dX11_isRightWithout_95 : decode cX11_isRightWithout 95 = .ok (.iastore, 1) := by decide +kernel
theorem dX11_isRightWithout_96 : decode cX11_isRightWithout 96 = .ok (.iinc 5 1, 3) := by decide +kernel
theorem dX11_isRightWithout_99 : decode cX11_isRightWithout 99 = .ok (.goto (-24), 3) := by decide +kernel
theorem dX11_isRightWithout_102 : decode cX11_isRightWithout 102 = .ok (.iload 4, 2) := by decide +kernel
theorem dX11_isRightWithout_104 : decode cX11_isRightWithout 104 = .ok (.ireturn, 1) := by decide +kernel
theorem dX11_isSet_0 : decode cX11_isSet 0 = .ok (.iload_n 1, 1) := by decide +kernel
theorem dX11_isSet_1 : decode cX11_isSet 1 = .ok (.ifCond .lt 12, 3) := by decide +kernel
theorem dX11_isSet_4 : decode cX11_isSet 4 = .ok (.aload_n 0, 1) := by decide +kernel
theorem dX11_isSet_5 : decode cX11_isSet 5 = .ok (.getfield 7, 3) := by decide +kernel
theorem dX11_isSet_8 : decode cX11_isSet 8 = .ok (.iload_n 1, 1) := by decide +kernel
theorem dX11_isSet_9 : decode cX11_isSet 9 = .ok (.iaload, 1) := by decide +kernel
theorem dX11_isSet_10 : decode cX11_isSet 10 = .ok (.ifCond .le 7, 3) := by decide +kernel
theorem dX11_isSet_13 : decode cX11_isSet 13 = .ok (.iconst 1, 1) := by decide +kernel
theorem dX11_isSet_14 : decode cX11_isSet 14 = .ok (.goto 4, 3) := by decide +kernel
theorem dX11_isSet_17 : decode cX11_isSet 17 = .ok (.iconst 0, 1) := by decide +kernel
theorem dX11_isSet_18 : decode cX11_isSet 18 = .ok (.ireturn, 1) := by decide +kernel
theorem dX11_falseBits_0 : decode cX11_falseBits 0 = .ok (.bipush (-4), 2) := by decide +kernel
theorem dX11_falseBits_2 : decode cX11_falseBits 2 = .ok (.istore_n 2, 1) := by decide +kernel
theorem dX11_falseBits_3 : decode cX11_falseBits 3 = .ok (.iload_n 1, 1) := by decide +kernel
theorem dX11_falseBits_4 : decode cX11_falseBits 4 = .ok (.iconst 3, 1) := by decide +kernel
theorem dX11_falseBits_5 : decode cX11_falseBits 5 = .ok (.if_icmp .ge 7, 3) := by decide +kernel
theorem dX11_falseBits_8 : decode cX11_falseBits 8 = .ok (.iconst (-1), 1) := by decide +kernel
theorem dX11_falseBits_9 : decode cX11_falseBits 9 = .ok (.goto 4, 3) := by decide +kernel
theorem dX11_falseBits_12 : decode cX11_falseBits 12 = .ok (.iconst 0, 1) := by decide +kernel
theorem dX11_falseBits_13 : decode cX11_falseBits 13 = .ok (.istore_n 3, 1) := by decide +kernel
theorem dX11_falseBits_14 : decode cX11_falseBits 14 = .ok (.iload_n 3, 1) := by decide +kernel
theorem dX11_falseBits_15 : decode cX11_falseBits 15 = .ok (.iload_n 1, 1) := by decide +kernel
theorem dX11_falseBits_16 : decode cX11_falseBits 16 = .ok (.iconst 3, 1) := by decide +kernel
theorem dX11_falseBits_17 : decode cX11_falseBits 17 = .ok (.if_icmp .ge 7, 3) := by decide +kernel
theorem dX11_falseBits_20 : decode cX11_falseBits 20 = .ok (.iconst 0, 1) := by decide +kernel
theorem dX11_falseBits_21 : decode cX11_falseBits 21 = .ok (.goto 5, 3) := by decide +kernel
theorem dX11_falseBits_24 : decode cX11_falseBits 24 = .ok (.bipush 21, 2) := by decide +kernel
theorem dX11_falseBits_26 : decode cX11_falseBits 26 = .ok (.if_icmp .ge 192, 3) := by decide +kernel
theorem dX11_falseBits_29 : decode cX11_falseBits 29 = .ok (.iload_n 1, 1) := by decide +kernel
theorem dX11_falseBits_30 : decode cX11_falseBits 30 = .ok (.iconst 2, 1) := by decide +kernel
theorem dX11_falseBits_31 : decode cX11_falseBits 31 = .ok (.if_icmp .ge 7, 3) := by decide +kernel
theorem dX11_falseBits_34 : decode cX11_falseBits 34 = .ok (.iconst (-1), 1) := by decide +kernel
theorem dX11_falseBits_35 : decode cX11_falseBits 35 = .ok (.goto 6, 3) := by decide +kernel
theorem dX11_falseBits_38 : decode cX11_falseBits 38 = .ok (.iload_n 3, 1) := by decide +kernel
theorem dX11_falseBits_39 : decode cX11_falseBits 39 = .ok (.iconst 1, 1) := by decide +kernel
theorem dX11_falseBits_40 : decode cX11_falseBits 40 = .ok (.iadd, 1) := by decide +kernel
theorem dX11_falseBits_41 : decode cX11_falseBits 41 = .ok (.istore 4, 2) := by decide +kernel
theorem dX11_falseBits_43 : decode cX11_falseBits 43 = .ok (.iload 4, 2) := by decide +kernel
theorem dX11_falseBits_45 : decode cX11_falseBits 45 = .ok (.iload_n 1, 1) := by decide +kernel
theorem dX11_falseBits_46 : decode cX11_falseBits 46 = .ok (.iconst 2, 1) := by decide +kernel
theorem dX11_falseBits_47 : decode cX11_falseBits 47 = .ok (.if_icmp .ge 7, 3) := by decide +kernel
theorem dX11_falseBits_50 : decode cX11_falseBits 50 = .ok (.iconst 0, 1) := by decide +kernel
theorem dX11_falseBits_51 : decode cX11_falseBits 51 = .ok (.goto 5, 3) := by decide +kernel
theorem dX11_falseBits_54 : decode cX11_falseBits 54 = .ok (.bipush 21, 2) := by decide +kernel
theorem dX11_falseBits_56 : decode cX11_falseBits 56 = .ok (.if_icmp .ge 156, 3) := by decide +kernel
theorem dX11_falseBits_59 : decode cX11_falseBits 59 = .ok (.iload_n 1, 1) := by decide +kernel
theorem dX11_falseBits_60 : decode cX11_falseBits 60 = .ok (.iconst 1, 1) := by decide +kernel
theorem dX11_falseBits_61 : decode cX11_falseBits 61 = .ok (.if_icmp .ge 7, 3) := by decide +kernel
theorem dX11_falseBits_64 : decode cX11_falseBits 64 = .ok (.iconst (-1), 1) := by decide +kernel
theorem dX11_falseBits_65 : decode cX11_falseBits 65 = .ok (.goto 7, 3) := by decide +kernel
theorem dX11_falseBits_68 : decode cX11_falseBits 68 = .ok (.iload 4, 2) := by decide +kernel
theorem dX11_falseBits_70 : decode cX11_falseBits 70 = .ok (.iconst 1, 1) := by decide +kernel
theorem dX11_falseBits_71 : decode cX11_falseBits 71 = .ok (.iadd, 1) := by decide +kernel
theorem dX11_falseBits_72 : decode cX11_falseBits 72 = .ok (.istore 5, 2) := by decide +kernel
theorem dX11_falseBits_74 : decode cX11_falseBits 74 = .ok (.iload 5, 2) := by decide +kernel
theorem dX11_falseBits_76 : decode cX11_falseBits 76 = .ok (.iload_n 1, 1) := by decide +kernel
theorem dX11_falseBits_77 : decode cX11_falseBits 77 = .ok (.iconst 1, 1) := by decide +kernel
theorem dX11_falseBits_78 : decode cX11_falseBits 78 = .ok (.if_icmp .ge 7, 3) := by decide +kernel
theorem dX11_falseBits_81 : decode cX11_falseBits 81 = .ok (.iconst 0, 1) := by decide +kernel
theorem dX11_falseBits_82 : decode cX11_falseBits 82 = .ok (.goto 5, 3) := by decide +kernel
theorem dX11_falseBits_85 : decode cX11_falseBits 85 = .ok (.bipush 21, 2) := by decide +kernel
theorem dX11_falseBits_87 : decode cX11_falseBits 87 = .ok (.if_icmp .ge 119, 3) := by decide +kernel
theorem dX11_falseBits_90 : decode cX11_falseBits 90 = .ok (.iload_n 3, 1) := by decide +kernel
theorem dX11_falseBits_91 : decode cX11_falseBits 91 = .ok (.ifCond .ge 7, 3) := by decide +kernel
theorem dX11_falseBits_94 : decode cX11_falseBits 94 = .ok (.iconst 0, 1) := by decide +kernel
theorem dX11_falseBits_95 : decode cX11_falseBits 95 = .ok (.goto 6, 3) := by decide +kernel
theorem dX11_falseBits_98 : decode cX11_falseBits 98 = .ok (.iconst 1, 1) := by decide +kernel
theorem dX11_falseBits_99 : decode cX11_falseBits 99 = .ok (.iload_n 3, 1) := by decide +kernel
theorem dX11_falseBits_100 : decode cX11_falseBits 100 = .ok (.ishl, 1) := by decide +kernel
theorem dX11_falseBits_101 : decode cX11_falseBits 101 = .ok (.iload 4, 2) := by decide +kernel
theorem dX11_falseBits_103 : decode cX11_falseBits 103 = .ok (.ifCond .ge 7, 3) := by decide +kernel
theorem dX11_falseBits_106 : decode cX11_falseBits 106 = .ok (.iconst 0, 1) := by decide +kernel
theorem dX11_falseBits_107 : decode cX11_falseBits 107 = .ok (.goto 7, 3) := by decide +kernel
theorem dX11_falseBits_110 : decode cX11_falseBits 110 = .ok (.iconst 1, 1) := by decide +kernel
theorem dX11_falseBits_111 : decode cX11_falseBits 111 = .ok (.iload 4, 2) := by decide +kernel
theorem dX11_falseBits_113 : decode cX11_falseBits 113 = .ok (.ishl, 1) := by decide +kernel
theorem dX11_falseBits_114 : decode cX11_falseBits 114 = .ok (.ior, 1) := by decide +kernel
theorem dX11_falseBits_115 : decode cX11_falseBits 115 = .ok (.iload 5, 2) := by decide +kernel
theorem dX11_falseBits_117 : decode cX11_falseBits 117 = .ok (.ifCond .ge 7, 3) := by decide +kernel
theorem dX11_falseBits_120 : decode cX11_falseBits 120 = .ok (.iconst 0, 1) := by decide +kernel
theorem dX11_falseBits_121 : decode cX11_falseBits 121 = .ok (.goto 7, 3) := by decide +kernel
theorem dX11_falseBits_124 : decode cX11_falseBits 124 = .ok (.iconst 1, 1) := by decide +kernel
theorem dX11_falseBits_125 : decode cX11_falseBits 125 = .ok (.iload 5, 2) := by decide +kernel
theorem dX11_falseBits_127 : decode cX11_falseBits 127 = .ok (.ishl, 1) := by decide +kernel
theorem dX11_falseBits_128 : decode cX11_falseBits 128 = .ok (.ior, 1) := by decide +kernel
theorem dX11_falseBits_129 : decode cX11_falseBits 129 = .ok (.istore 6, 2) := by decide +kernel
theorem dX11_falseBits_131 : decode cX11_falseBits 131 = .ok (.aload_n 0, 1) := by decide +kernel
theorem dX11_falseBits_132 : decode cX11_falseBits 132 = .ok (.iload_n 3, 1) := by decide +kernel
theorem dX11_falseBits_133 : decode cX11_falseBits 133 = .ok (.invokevirtual 203, 3) := by decide +kernel
theorem dX11_falseBits_136 : decode cX11_falseBits 136 = .ok (.ifCond .eq 37, 3) := by decide +kernel
theorem dX11_falseBits_139 : decode cX11_falseBits 139 = .ok (.aload_n 0, 1) := by decide +kernel
theorem dX11_falseBits_140 : decode cX11_falseBits 140 = .ok (.iload 4, 2) := by decide +kernel
theorem dX11_falseBits_142 : decode cX11_falseBits 142 = .ok (.invokevirtual 203, 3) := by decide +kernel
theorem dX11_falseBits_145 : decode cX11_falseBits 145 = .ok (.ifCond .eq 28, 3) := by decide +kernel
theorem dX11_falseBits_148 : decode cX11_falseBits 148 = .ok (.aload_n 0, 1) := by decide +kernel
theorem dX11_falseBits_149 : decode cX11_falseBits 149 = .ok (.iload 5, 2) := by decide +kernel
theorem dX11_falseBits_151 : decode cX11_falseBits 151 = .ok (.invokevirtual 203, 3) := by decide +kernel
theorem dX11_falseBits_154 : decode cX11_falseBits 154 = .ok (.ifCond .eq 19, 3) := by decide +kernel
theorem dX11_falseBits_157 : decode cX11_falseBits 157 = .ok (.iload_n 2, 1) := by decide +kernel
theorem dX11_falseBits_158 : decode cX11_falseBits 158 = .ok (.bipush (-4), 2) := by decide +kernel
theorem dX11_falseBits_160 : decode cX11_falseBits 160 = .ok (.if_icmp .eq 9, 3) := by decide +kernel
theorem dX11_falseBits_163 : decode cX11_falseBits 163 = .ok (.iload 6, 2) := by decide +kernel
theorem dX11_falseBits_165 : decode cX11_falseBits 165 = .ok (.iload_n 2, 1) := by decide +kernel
theorem dX11_falseBits_166 : decode cX11_falseBits 166 = .ok (.if_icmp .ge 7, 3) := by decide +kernel
theorem dX11_falseBits_169 : decode cX11_falseBits 169 = .ok (.iconst 1, 1) := by decide +kernel
theorem dX11_falseBits_170 : decode cX11_falseBits 170 = .ok (.goto 4, 3) := by decide +kernel
theorem dX11_falseBits_173 : decode cX11_falseBits 173 = .ok (.iconst 0, 1) := by decide +kernel
theorem dX11_falseBits_174 : decode cX11_falseBits 174 = .ok (.istore 7, 2) := by decide +kernel
theorem dX11_falseBits_176 : decode cX11_falseBits 176 = .ok (.iload 7, 2) := by decide +kernel
theorem dX11_falseBits_178 : decode cX11_falseBits 178 = .ok (.ifCond .eq 20, 3) := by decide +kernel
theorem dX11_falseBits_181 : decode cX11_falseBits 181 = .ok (.aload_n 0, 1) := by decide +kernel
theorem dX11_falseBits_182 : decode cX11_falseBits 182 = .ok (.iload_n 3, 1) := by decide +kernel
theorem dX11_falseBits_183 : decode cX11_falseBits 183 = .ok (.iload 4, 2) := by decide +kernel
theorem dX11_falseBits_185 : decode cX11_falseBits 185 = .ok (.iload 5, 2) := by decide +kernel
theorem dX11_falseBits_187 : decode cX11_falseBits 187 = .ok (.invokevirtual 206, 3) := by decide +kernel
theorem dX11_falseBits_190 : decode cX11_falseBits 190 = .ok (.ifCond .eq 8, 3) := by decide +kernel
theorem dX11_falseBits_193 : decode cX11_falseBits 193 = .ok (.iload 6, 2) := by decide +kernel
theorem dX11_falseBits_195 : decode cX11_falseBits 195 = .ok (.goto 4, 3) := by decide +kernel
theorem dX11_falseBits_198 : decode cX11_falseBits 198 = .ok (.iload_n 2, 1) := by decide +kernel
theorem dX11_falseBits_199 : decode cX11_falseBits 199 = .ok (.istore_n 2, 1) := by decide +kernel
theorem dX11_falseBits_200 : decode cX11_falseBits 200 = .ok (.iinc 5 1, 3) := by decide +kernel
theorem dX11_falseBits_203 : decode cX11_falseBits 203 = .ok (.goto (-129), 3) := by decide +kernel
theorem dX11_falseBits_206 : decode cX11_falseBits 206 = .ok (.iinc 4 1, 3) := by decide +kernel
theorem dX11_falseBits_209 : decode cX11_falseBits 209 = .ok (.goto (-166), 3) := by decide +kernel
theorem dX11_falseBits_212 : decode cX11_falseBits 212 = .ok (.iinc 3 1, 3) := by decide +kernel
theorem dX11_falseBits_215 : decode cX11_falseBits 215 = .ok (.goto (-201), 3) := by decide +kernel
theorem dX11_falseBits_218 : decode cX11_falseBits 218 = .ok (.iload_n 2, 1) := by decide +kernel
theorem dX11_falseBits_219 : decode cX11_falseBits 219 = .ok (.ireturn, 1) := by decide +kernel
theorem dX11_falses_0 : decode cX11_falses 0 = .ok (.aload_n 0, 1) := by decide +kernel
theorem dX11_falses_1 : decode cX11_falses 1 = .ok (.invokevirtual 135, 3) := by decide +kernel
theorem dX11_falses_4 : decode cX11_falses 4 = .ok (.iload_n 1, 1) := by decide +kernel
theorem dX11_falses_5 : decode cX11_falses 5 = .ok (.i2l, 1) := by decide +kernel
theorem dX11_falses_6 : decode cX11_falses 6 = .ok (.lconst 0, 1) := by decide +kernel
theorem dX11_falses_7 : decode cX11_falses 7 = .ok (.lconst 1, 1) := by decide +kernel
theorem dX11_falses_8 : decode cX11_falses 8 = .ok (.invokestatic 64, 3) := by decide +kernel
theorem dX11_falses_11 : decode cX11_falses 11 = .ok (.ifCond .ne 5, 3) := by decide +kernel
theorem dX11_falses_14 : decode cX11_falses 14 = .ok (.iconst (-1), 1) := by decide +kernel
theorem dX11_falses_15 : decode cX11_falses 15 = .ok (.ireturn, 1) := by decide +kernel
theorem dX11_falses_16 : decode cX11_falses 16 = .ok (.iconst 0, 1) := by decide +kernel
theorem dX11_falses_17 : decode cX11_falses 17 = .ok (.istore_n 2, 1) := by decide +kernel
theorem dX11_falses_18 : decode cX11_falses 18 = .ok (.iload_n 2, 1) := by decide +kernel
theorem dX11_falses_19 : decode cX11_falses 19 = .ok (.iconst 3, 1) := by decide +kernel
theorem dX11_falses_20 : decode cX11_falses 20 = .ok (.if_icmp .gt 31, 3) := by decide +kernel
theorem dX11_falses_23 : decode cX11_falses 23 = .ok (.aload_n 0, 1) := by decide +kernel
theorem dX11_falses_24 : decode cX11_falses 24 = .ok (.iload_n 2, 1) := by decide +kernel
theorem dX11_falses_25 : decode cX11_falses 25 = .ok (.invokevirtual 209, 3) := by decide +kernel
theorem dX11_falses_28 : decode cX11_falses 28 = .ok (.istore_n 3, 1) := by decide +kernel
theorem dX11_falses_29 : decode cX11_falses 29 = .ok (.iload_n 3, 1) := by decide +kernel
theorem dX11_falses_30 : decode cX11_falses 30 = .ok (.bipush (-4), 2) := by decide +kernel
theorem dX11_falses_32 : decode cX11_falses 32 = .ok (.if_icmp .eq 13, 3) := by decide +kernel
theorem dX11_falses_35 : decode cX11_falses 35 = .ok (.iload_n 1, 1) := by decide +kernel
theorem dX11_falses_36 : decode cX11_falses 36 = .ok (.ifCond .ne 7, 3) := by decide +kernel
theorem dX11_falses_39 : decode cX11_falses 39 = .ok (.iload_n 2, 1) := by decide +kernel
theorem dX11_falses_40 : decode cX11_falses 40 = .ok (.goto 4, 3) := by decide +kernel
theorem dX11_falses_43 : decode cX11_falses 43 = .ok (.iload_n 3, 1) := by decide +kernel
theorem dX11_falses_44 : decode cX11_falses 44 = .ok (.ireturn, 1) := by decide +kernel
theorem dX11_falses_45 : decode cX11_falses 45 = .ok (.iinc 2 1, 3) := by decide +kernel
theorem dX11_falses_48 : decode cX11_falses 48 = .ok (.goto (-30), 3) := by decide +kernel
theorem dX11_falses_51 : decode cX11_falses 51 = .ok (.bipush (-4), 2) := by decide +kernel
theorem dX11_falses_53 : decode cX11_falses 53 = .ok (.ireturn, 1) := by decide +kernel
theorem dX11_doubt_0 : decode cX11_doubt 0 = .ok (.aload_n 0, 1) := by decide +kernel
theorem dX11_doubt_1 : decode cX11_doubt 1 = .ok (.invokevirtual 135, 3) := by decide +kernel
theorem dX11_doubt_4 : decode cX11_doubt 4 = .ok (.iload_n 1, 1) := by decide +kernel
theorem dX11_doubt_5 : decode cX11_doubt 5 = .ok (.i2l, 1) := by decide +kernel
theorem dX11_doubt_6 : decode cX11_doubt 6 = .ok (.lconst 0, 1) := by decide +kernel
theorem dX11_doubt_7 : decode cX11_doubt 7 = .ok (.lconst 1, 1) := by decide +kernel
theorem dX11_doubt_8 : decode cX11_doubt 8 = .ok (.invokestatic 64, 3) := by decide +kernel
theorem dX11_doubt_11 : decode cX11_doubt 11 = .ok (.ifCond .ne 5, 3) := by decide +kernel
theorem dX11_doubt_14 : decode cX11_doubt 14 = .ok (.iconst (-1), 1) := by decide +kernel
theorem dX11_doubt_15 : decode cX11_doubt 15 = .ok (.ireturn, 1) := by decide +kernel
theorem dX11_doubt_16 : decode cX11_doubt 16 = .ok (.aload_n 0, 1) := by decide +kernel
theorem dX11_doubt_17 : decode cX11_doubt 17 = .ok (.invokevirtual 196, 3) := by decide +kernel
theorem dX11_doubt_20 : decode cX11_doubt 20 = .ok (.aload_n 0, 1) := by decide +kernel
theorem dX11_doubt_21 : decode cX11_doubt 21 = .ok (.getfield 22, 3) := by decide +kernel
theorem dX11_doubt_24 : decode cX11_doubt 24 = .ok (.iconst 0, 1) := by decide +kernel
theorem dX11_doubt_25 : decode cX11_doubt 25 = .ok (.iaload, 1) := by decide +kernel
theorem dX11_doubt_26 : decode cX11_doubt 26 = .ok (.aload_n 0, 1) := by decide +kernel
theorem dX11_doubt_27 : decode cX11_doubt 27 = .ok (.getfield 22, 3) := by decide +kernel
theorem dX11_doubt_30 : decode cX11_doubt 30 = .ok (.iconst 1, 1) := by decide +kernel
theorem dX11_doubt_31 : decode cX11_doubt 31 = .ok (.iaload, 1) := by decide +kernel
theorem dX11_doubt_32 : decode cX11_doubt 32 = .ok (.iadd, 1) := by decide +kernel
theorem dX11_doubt_33 : decode cX11_doubt 33 = .ok (.istore_n 2, 1) := by decide +kernel
theorem dX11_doubt_34 : decode cX11_doubt 34 = .ok (.iload_n 2, 1) := by decide +kernel
theorem dX11_doubt_35 : decode cX11_doubt 35 = .ok (.istore_n 3, 1) := by decide +kernel
theorem dX11_doubt_36 : decode cX11_doubt 36 = .ok (.bipush (-4), 2) := by decide +kernel
theorem dX11_doubt_38 : decode cX11_doubt 38 = .ok (.istore 4, 2) := by decide +kernel
theorem dX11_doubt_40 : decode cX11_doubt 40 = .ok (.iconst 0, 1) := by decide +kernel
theorem dX11_doubt_41 : decode cX11_doubt 41 = .ok (.istore 5, 2) := by decide +kernel
theorem dX11_doubt_43 : decode cX11_doubt 43 = .ok (.iload 5, 2) := by decide +kernel
theorem dX11_doubt_45 : decode cX11_doubt 45 = .ok (.bipush 21, 2) := by decide +kernel
theorem dX11_doubt_47 : decode cX11_doubt 47 = .ok (.if_icmp .ge 105, 3) := by decide +kernel
theorem dX11_doubt_50 : decode cX11_doubt 50 = .ok (.aload_n 0, 1) := by decide +kernel
theorem dX11_doubt_51 : decode cX11_doubt 51 = .ok (.getfield 7, 3) := by decide +kernel
theorem dX11_doubt_54 : decode cX11_doubt 54 = .ok (.iload 5, 2) := by decide +kernel
theorem dX11_doubt_56 : decode cX11_doubt 56 = .ok (.iaload, 1) := by decide +kernel
theorem dX11_doubt_57 : decode cX11_doubt 57 = .ok (.istore 6, 2) := by decide +kernel
theorem dX11_doubt_59 : decode cX11_doubt 59 = .ok (.iload 6, 2) := by decide +kernel
theorem dX11_doubt_61 : decode cX11_doubt 61 = .ok (.ifCond .le 85, 3) := by decide +kernel
theorem dX11_doubt_64 : decode cX11_doubt 64 = .ok (.aload_n 0, 1) := by decide +kernel
theorem dX11_doubt_65 : decode cX11_doubt 65 = .ok (.getfield 7, 3) := by decide +kernel
theorem dX11_doubt_68 : decode cX11_doubt 68 = .ok (.iload 5, 2) := by decide +kernel
theorem dX11_doubt_70 : decode cX11_doubt 70 = .ok (.iconst 0, 1) := by decide +kernel
theorem dX11_doubt_71 : decode cX11_doubt 71 = .ok (.iastore, 1) := by decide +kernel
theorem dX11_doubt_72 : decode cX11_doubt 72 = .ok (.aload_n 0, 1) := by decide +kernel
theorem dX11_doubt_73 : decode cX11_doubt 73 = .ok (.invokevirtual 196, 3) := by decide +kernel
theorem dX11_doubt_76 : decode cX11_doubt 76 = .ok (.aload_n 0, 1) := by decide +kernel
theorem dX11_doubt_77 : decode cX11_doubt 77 = .ok (.getfield 7, 3) := by decide +kernel
theorem dX11_doubt_80 : decode cX11_doubt 80 = .ok (.iload 5, 2) := by decide +kernel
theorem dX11_doubt_82 : decode cX11_doubt 82 = .ok (.iload 6, 2) := by decide +kernel
theorem dX11_doubt_84 : decode cX11_doubt 84 = .ok (.iastore, 1) := by decide +kernel
theorem dX11_doubt_85 : decode cX11_doubt 85 = .ok (.aload_n 0, 1) := by decide +kernel
theorem dX11_doubt_86 : decode cX11_doubt 86 = .ok (.getfield 22, 3) := by decide +kernel
theorem dX11_doubt_89 : decode cX11_doubt 89 = .ok (.iconst 0, 1) := by decide +kernel
theorem dX11_doubt_90 : decode cX11_doubt 90 = .ok (.iaload, 1) := by decide +kernel
theorem dX11_doubt_91 : decode cX11_doubt 91 = .ok (.aload_n 0, 1) := by decide +kernel
theorem dX11_doubt_92 : decode cX11_doubt 92 = .ok (.getfield 22, 3) := by decide +kernel
theorem dX11_doubt_95 : decode cX11_doubt 95 = .ok (.iconst 1, 1) := by decide +kernel
theorem dX11_doubt_96 : decode cX11_doubt 96 = .ok (.iaload, 1) := by decide +kernel
theorem dX11_doubt_97 : decode cX11_doubt 97 = .ok (.iadd, 1) := by decide +kernel
theorem dX11_doubt_98 : decode cX11_doubt 98 = .ok (.iload_n 3, 1) := by decide +kernel
theorem dX11_doubt_99 : decode cX11_doubt 99 = .ok (.if_icmp .ge 8, 3) := by decide +kernel
theorem dX11_doubt_102 : decode cX11_doubt 102 = .ok (.iload 5, 2) := by decide +kernel
theorem dX11_doubt_104 : decode cX11_doubt 104 = .ok (.goto 5, 3) := by decide +kernel
theorem dX11_doubt_107 : decode cX11_doubt 107 = .ok (.iload 4, 2) := by decide +kernel
theorem dX11_doubt_109 : decode cX11_doubt 109 = .ok (.istore 4, 2) := by decide +kernel
theorem dX11_doubt_111 : decode cX11_doubt 111 = .ok (.aload_n 0, 1) := by decide +kernel
theorem dX11_doubt_112 : decode cX11_doubt 112 = .ok (.getfield 22, 3) := by decide +kernel
theorem dX11_doubt_115 : decode cX11_doubt 115 = .ok (.iconst 0, 1) := by decide +kernel
theorem dX11_doubt_116 : decode cX11_doubt 116 = .ok (.iaload, 1) := by decide +kernel
theorem dX11_doubt_117 : decode cX11_doubt 117 = .ok (.aload_n 0, 1) := by decide +kernel
theorem dX11_doubt_118 : decode cX11_doubt 118 = .ok (.getfield 22, 3) := by decide +kernel
theorem dX11_doubt_121 : decode cX11_doubt 121 = .ok (.iconst 1, 1) := by decide +kernel
theorem dX11_doubt_122 : decode cX11_doubt 122 = .ok (.iaload, 1) := by decide +kernel
theorem dX11_doubt_123 : decode cX11_doubt 123 = .ok (.iadd, 1) := by decide +kernel
theorem dX11_doubt_124 : decode cX11_doubt 124 = .ok (.iload_n 3, 1) := by decide +kernel
theorem dX11_doubt_125 : decode cX11_doubt 125 = .ok (.if_icmp .ge 19, 3) := by decide +kernel
theorem dX11_doubt_128 : decode cX11_doubt 128 = .ok (.aload_n 0, 1) := by decide +kernel
theorem dX11_doubt_129 : decode cX11_doubt 129 = .ok (.getfield 22, 3) := by decide +kernel
theorem dX11_doubt_132 : decode cX11_doubt 132 = .ok (.iconst 0, 1) := by decide +kernel
theorem dX11_doubt_133 : decode cX11_doubt 133 = .ok (.iaload, 1) := by decide +kernel
theorem dX11_doubt_134 : decode cX11_doubt 134 = .ok (.aload_n 0, 1) := by decide +kernel
theorem dX11_doubt_135 : decode cX11_doubt 135 = .ok (.getfield 22, 3) := by decide +kernel
theorem dX11_doubt_138 : decode cX11_doubt 138 = .ok (.iconst 1, 1) := by decide +kernel
theorem dX11_doubt_139 : decode cX11_doubt 139 = .ok (.iaload, 1) := by decide +kernel
theorem dX11_doubt_140 : decode cX11_doubt 140 = .ok (.iadd, 1) := by decide +kernel
theorem dX11_doubt_141 : decode cX11_doubt 141 = .ok (.goto 4, 3) := by decide +kernel
theorem dX11_doubt_144 : decode cX11_doubt 144 = .ok (.iload_n 3, 1) := by decide +kernel
theorem dX11_doubt_145 : decode cX11_doubt 145 = .ok (.istore_n 3, 1) := by decide +kernel
theorem dX11_doubt_146 : decode cX11_doubt 146 = .ok (.iinc 5 1, 3) := by decide +kernel
theorem dX11_doubt_149 : decode cX11_doubt 149 = .ok (.goto (-106), 3) := by decide +kernel
theorem dX11_doubt_152 : decode cX11_doubt 152 = .ok (.iload 4, 2) := by decide +kernel
theorem dX11_doubt_154 : decode cX11_doubt 154 = .ok (.bipush (-4), 2) := by decide +kernel
theorem dX11_doubt_156 : decode cX11_doubt 156 = .ok (.if_icmp .eq 7, 3) := by decide +kernel
theorem dX11_doubt_159 : decode cX11_doubt 159 = .ok (.iload_n 1, 1) := by decide +kernel
theorem dX11_doubt_160 : decode cX11_doubt 160 = .ok (.ifCond .ne 8, 3) := by decide +kernel
theorem dX11_doubt_163 : decode cX11_doubt 163 = .ok (.iload 4, 2) := by decide +kernel
theorem dX11_doubt_165 : decode cX11_doubt 165 = .ok (.goto 6, 3) := by decide +kernel
theorem dX11_doubt_168 : decode cX11_doubt 168 = .ok (.iload_n 2, 1) := by decide +kernel
theorem dX11_doubt_169 : decode cX11_doubt 169 = .ok (.iload_n 3, 1) := by decide +kernel
theorem dX11_doubt_170 : decode cX11_doubt 170 = .ok (.isub, 1) := by decide +kernel
theorem dX11_doubt_171 : decode cX11_doubt 171 = .ok (.ireturn, 1) := by decide +kernel
theorem dX11_signOf_0 : decode cX11_signOf 0 = .ok (.lload_n 0, 1) := by decide +kernel
theorem dX11_signOf_1 : decode cX11_signOf 1 = .ok (.lconst 0, 1) := by decide +kernel
theorem dX11_signOf_2 : decode cX11_signOf 2 = .ok (.lcmp, 1) := by decide +kernel
theorem dX11_signOf_3 : decode cX11_signOf 3 = .ok (.ifCond .le 7, 3) := by decide +kernel
theorem dX11_signOf_6 : decode cX11_signOf 6 = .ok (.iconst 1, 1) := by decide +kernel
theorem dX11_signOf_7 : decode cX11_signOf 7 = .ok (.goto 14, 3) := by decide +kernel
theorem dX11_signOf_10 : decode cX11_signOf 10 = .ok (.lload_n 0, 1) := by decide +kernel
theorem dX11_signOf_11 : decode cX11_signOf 11 = .ok (.lconst 0, 1) := by decide +kernel
theorem dX11_signOf_12 : decode cX11_signOf 12 = .ok (.lcmp, 1) := by decide +kernel
theorem dX11_signOf_13 : decode cX11_signOf 13 = .ok (.ifCond .ge 7, 3) := by decide +kernel
theorem dX11_signOf_16 : decode cX11_signOf 16 = .ok (.iconst (-1), 1) := by decide +kernel
theorem dX11_signOf_17 : decode cX11_signOf 17 = .ok (.goto 4, 3) := by decide +kernel
theorem dX11_signOf_20 : decode cX11_signOf 20 = .ok (.iconst 0, 1) := by decide +kernel
theorem dX11_signOf_21 : decode cX11_signOf 21 = .ok (.ireturn, 1) := by decide +kernel
theorem dX11_bend_0 : decode cX11_bend 0 = .ok (.aload_n 0, 1) := by decide +kernel
theorem dX11_bend_1 : decode cX11_bend 1 = .ok (.iload_n 1, 1) := by decide +kernel
theorem dX11_bend_2 : decode cX11_bend 2 = .ok (.iload_n 2, 1) := by decide +kernel
theorem dX11_bend_3 : decode cX11_bend 3 = .ok (.iload_n 3, 1) := by decide +kernel
theorem dX11_bend_4 : decode cX11_bend 4 = .ok (.invokevirtual 145, 3) := by decide +kernel
theorem dX11_bend_7 : decode cX11_bend 7 = .ok (.ifCond .ne 5, 3) := by decide +kernel
theorem dX11_bend_10 : decode cX11_bend 10 = .ok (.iconst (-1), 1) := by decide +kernel
theorem dX11_bend_11 : decode cX11_bend 11 = .ok (.ireturn, 1) := by decide +kernel
theorem dX11_bend_12 : decode cX11_bend 12 = .ok (.aload_n 0, 1) := by decide +kernel
theorem dX11_bend_13 : decode cX11_bend 13 = .ok (.iload_n 1, 1) := by decide +kernel
theorem dX11_bend_14 : decode cX11_bend 14 = .ok (.iload_n 2, 1) := by decide +kernel
theorem dX11_bend_15 : decode cX11_bend 15 = .ok (.iload_n 3, 1) := by decide +kernel
theorem dX11_bend_16 : decode cX11_bend 16 = .ok (.invokevirtual 153, 3) := by decide +kernel
theorem dX11_bend_19 : decode cX11_bend 19 = .ok (.ifCond .ne 6, 3) := by decide +kernel
theorem dX11_bend_22 : decode cX11_bend 22 = .ok (.bipush (-4), 2) := by decide +kernel
theorem dX11_bend_24 : decode cX11_bend 24 = .ok (.ireturn, 1) := by decide +kernel
theorem dX11_bend_25 : decode cX11_bend 25 = .ok (.aload_n 0, 1) := by decide +kernel
theorem dX11_bend_26 : decode cX11_bend 26 = .ok (.iload_n 2, 1) := by decide +kernel
theorem dX11_bend_27 : decode cX11_bend 27 = .ok (.iload_n 1, 1) := by decide +kernel
theorem dX11_bend_28 : decode cX11_bend 28 = .ok (.iload_n 3, 1) := by decide +kernel
theorem dX11_bend_29 : decode cX11_bend 29 = .ok (.invokevirtual 181, 3) := by decide +kernel
theorem dX11_bend_32 : decode cX11_bend 32 = .ok (.lconst 0, 1) := by decide +kernel
theorem dX11_bend_33 : decode cX11_bend 33 = .ok (.lcmp, 1) := by decide +kernel
theorem dX11_bend_34 : decode cX11_bend 34 = .ok (.ifCond .ge 7, 3) := by decide +kernel
theorem dX11_bend_37 : decode cX11_bend 37 = .ok (.iconst 2, 1) := by decide +kernel
theorem dX11_bend_38 : decode cX11_bend 38 = .ok (.goto 13, 3) := by decide +kernel
theorem dX11_bend_41 : decode cX11_bend 41 = .ok (.aload_n 0, 1) := by decide +kernel
theorem dX11_bend_42 : decode cX11_bend 42 = .ok (.iload_n 2, 1) := by decide +kernel
theorem dX11_bend_43 : decode cX11_bend 43 = .ok (.iload_n 1, 1) := by decide +kernel
theorem dX11_bend_44 : decode cX11_bend 44 = .ok (.iload_n 3, 1) := by decide +kernel
theorem dX11_bend_45 : decode cX11_bend 45 = .ok (.invokevirtual 181, 3) := by decide +kernel
theorem dX11_bend_48 : decode cX11_bend 48 = .ok (.invokestatic 212, 3) := by decide +kernel
theorem dX11_bend_51 : decode cX11_bend 51 = .ok (.ireturn, 1) := by decide +kernel
theorem dX11_lowest_0 : decode cX11_lowest 0 = .ok (.lload_n 0, 1) := by decide +kernel
theorem dX11_lowest_1 : decode cX11_lowest 1 = .ok (.lconst 0, 1) := by decide +kernel
theorem dX11_lowest_2 : decode cX11_lowest 2 = .ok (.lcmp, 1) := by decide +kernel
theorem dX11_lowest_3 : decode cX11_lowest 3 = .ok (.ifCond .ge 8, 3) := by decide +kernel
theorem dX11_lowest_6 : decode cX11_lowest 6 = .ok (.lload_n 0, 1) := by decide +kernel
theorem dX11_lowest_7 : decode cX11_lowest 7 = .ok (.lneg, 1) := by decide +kernel
theorem dX11_lowest_8 : decode cX11_lowest 8 = .ok (.goto 4, 3) := by decide +kernel
theorem dX11_lowest_11 : decode cX11_lowest 11 = .ok (.lload_n 0, 1) := by decide +kernel
theorem dX11_lowest_12 : decode cX11_lowest 12 = .ok (.lstore 5, 2) := by decide +kernel
theorem dX11_lowest_14 : decode cX11_lowest 14 = .ok (.lload_n 2, 1) := by decide +kernel
theorem dX11_lowest_15 : decode cX11_lowest 15 = .ok (.lstore 7, 2) := by decide +kernel
theorem dX11_lowest_17 : decode cX11_lowest 17 = .ok (.lload 7, 2) := by decide +kernel
theorem dX11_lowest_19 : decode cX11_lowest 19 = .ok (.lconst 0, 1) := by decide +kernel
theorem dX11_lowest_20 : decode cX11_lowest 20 = .ok (.lcmp, 1) := by decide +kernel
theorem dX11_lowest_21 : decode cX11_lowest 21 = .ok (.ifCond .eq 21, 3) := by decide +kernel
theorem dX11_lowest_24 : decode cX11_lowest 24 = .ok (.lload 5, 2) := by decide +kernel
theorem dX11_lowest_26 : decode cX11_lowest 26 = .ok (.lload 7, 2) := by decide +kernel
theorem dX11_lowest_28 : decode cX11_lowest 28 = .ok (.lrem, 1) := by decide +kernel
theorem dX11_lowest_29 : decode cX11_lowest 29 = .ok (.lstore 9, 2) := by decide +kernel
theorem dX11_lowest_31 : decode cX11_lowest 31 = .ok (.lload 7, 2) := by decide +kernel
theorem dX11_lowest_33 : decode cX11_lowest 33 = .ok (.lstore 5, 2) := by decide +kernel
theorem dX11_lowest_35 : decode cX11_lowest 35 = .ok (.lload 9, 2) := by decide +kernel
theorem dX11_lowest_37 : decode cX11_lowest 37 = .ok (.lstore 7, 2) := by decide +kernel
theorem dX11_lowest_39 : decode cX11_lowest 39 = .ok (.goto (-22), 3) := by decide +kernel
theorem dX11_lowest_42 : decode cX11_lowest 42 = .ok (.iload 4, 2) := by decide +kernel
theorem dX11_lowest_44 : decode cX11_lowest 44 = .ok (.ifCond .ne 7, 3) := by decide +kernel
theorem dX11_lowest_47 : decode cX11_lowest 47 = .ok (.lload_n 0, 1) := by decide +kernel
theorem dX11_lowest_48 : decode cX11_lowest 48 = .ok (.goto 4, 3) := by decide +kernel
theorem dX11_lowest_51 : decode cX11_lowest 51 = .ok (.lload_n 2, 1) := by decide +kernel
theorem dX11_lowest_52 : decode cX11_lowest 52 = .ok (.lload 5, 2) := by decide +kernel
theorem dX11_lowest_54 : decode cX11_lowest 54 = .ok (.ldiv, 1) := by decide +kernel
theorem dX11_lowest_55 : decode cX11_lowest 55 = .ok (.lreturn, 1) := by decide +kernel
theorem dX11_hinders_0 : decode cX11_hinders 0 = .ok (.aload_n 0, 1) := by decide +kernel
theorem dX11_hinders_1 : decode cX11_hinders 1 = .ok (.iload_n 1, 1) := by decide +kernel
theorem dX11_hinders_2 : decode cX11_hinders 2 = .ok (.iload_n 2, 1) := by decide +kernel
theorem dX11_hinders_3 : decode cX11_hinders 3 = .ok (.iload_n 3, 1) := by decide +kernel
theorem dX11_hinders_4 : decode cX11_hinders 4 = .ok (.invokevirtual 145, 3) := by decide +kernel
theorem dX11_hinders_7 : decode cX11_hinders 7 = .ok (.ifCond .eq 14, 3) := by decide +kernel
theorem dX11_hinders_10 : decode cX11_hinders 10 = .ok (.iload 4, 2) := by decide +kernel
theorem dX11_hinders_12 : decode cX11_hinders 12 = .ok (.i2l, 1) := by decide +kernel
theorem dX11_hinders_13 : decode cX11_hinders 13 = .ok (.lconst 0, 1) := by decide +kernel
theorem dX11_hinders_14 : decode cX11_hinders 14 = .ok (.lconst 1, 1) := by decide +kernel
theorem dX11_hinders_15 : decode cX11_hinders 15 = .ok (.invokestatic 64, 3) := by decide +kernel
theorem dX11_hinders_18 : decode cX11_hinders 18 = .ok (.ifCond .ne 7, 3) := by decide +kernel
theorem dX11_hinders_21 : decode cX11_hinders 21 = .ok (.ldc2_w 172, 3) := by decide +kernel
theorem dX11_hinders_24 : decode cX11_hinders 24 = .ok (.lreturn, 1) := by decide +kernel
theorem dX11_hinders_25 : decode cX11_hinders 25 = .ok (.aload_n 0, 1) := by decide +kernel
theorem dX11_hinders_26 : decode cX11_hinders 26 = .ok (.iload_n 1, 1) := by decide +kernel
theorem dX11_hinders_27 : decode cX11_hinders 27 = .ok (.iload_n 2, 1) := by decide +kernel
theorem dX11_hinders_28 : decode cX11_hinders 28 = .ok (.iload_n 3, 1) := by decide +kernel
theorem dX11_hinders_29 : decode cX11_hinders 29 = .ok (.invokevirtual 153, 3) := by decide +kernel
theorem dX11_hinders_32 : decode cX11_hinders 32 = .ok (.ifCond .eq 17, 3) := by decide +kernel
theorem dX11_hinders_35 : decode cX11_hinders 35 = .ok (.aload_n 0, 1) := by decide +kernel
theorem dX11_hinders_36 : decode cX11_hinders 36 = .ok (.iload_n 1, 1) := by decide +kernel
theorem dX11_hinders_37 : decode cX11_hinders 37 = .ok (.iload_n 2, 1) := by decide +kernel
theorem dX11_hinders_38 : decode cX11_hinders 38 = .ok (.iload_n 3, 1) := by decide +kernel
theorem dX11_hinders_39 : decode cX11_hinders 39 = .ok (.invokevirtual 176, 3) := by decide +kernel
theorem dX11_hinders_42 : decode cX11_hinders 42 = .ok (.ifCond .eq 7, 3) := by decide +kernel
theorem dX11_hinders_45 : decode cX11_hinders 45 = .ok (.lconst 0, 1) := by decide +kernel
theorem dX11_hinders_46 : decode cX11_hinders 46 = .ok (.goto 6, 3) := by decide +kernel
theorem dX11_hinders_49 : decode cX11_hinders 49 = .ok (.ldc2_w 174, 3) := by decide +kernel
theorem dX11_hinders_52 : decode cX11_hinders 52 = .ok (.lreturn, 1) := by decide +kernel
theorem dX11_foot_0 : decode cX11_foot 0 = .ok (.aload_n 0, 1) := by decide +kernel
theorem dX11_foot_1 : decode cX11_foot 1 = .ok (.iload_n 1, 1) := by decide +kernel
theorem dX11_foot_2 : decode cX11_foot 2 = .ok (.iload_n 2, 1) := by decide +kernel
theorem dX11_foot_3 : decode cX11_foot 3 = .ok (.iload_n 3, 1) := by decide +kernel
theorem dX11_foot_4 : decode cX11_foot 4 = .ok (.iload 4, 2) := by decide +kernel
theorem dX11_foot_6 : decode cX11_foot 6 = .ok (.invokevirtual 216, 3) := by decide +kernel
theorem dX11_foot_9 : decode cX11_foot 9 = .ok (.lstore 5, 2) := by decide +kernel
theorem dX11_foot_11 : decode cX11_foot 11 = .ok (.lload 5, 2) := by decide +kernel
theorem dX11_foot_13 : decode cX11_foot 13 = .ok (.lconst 0, 1) := by decide +kernel
theorem dX11_foot_14 : decode cX11_foot 14 = .ok (.lcmp, 1) := by decide +kernel
theorem dX11_foot_15 : decode cX11_foot 15 = .ok (.ifCond .eq 8, 3) := by decide +kernel
theorem dX11_foot_18 : decode cX11_foot 18 = .ok (.lload 5, 2) := by decide +kernel
theorem dX11_foot_20 : decode cX11_foot 20 = .ok (.goto 25, 3) := by decide +kernel
theorem dX11_foot_23 : decode cX11_foot 23 = .ok (.aload_n 0, 1) := by decide +kernel
theorem dX11_foot_24 : decode cX11_foot 24 = .ok (.iload_n 1, 1) := by decide +kernel
theorem dX11_foot_25 : decode cX11_foot 25 = .ok (.iload_n 2, 1) := by decide +kernel
theorem dX11_foot_26 : decode cX11_foot 26 = .ok (.iload_n 3, 1) := by decide +kernel
theorem dX11_foot_27 : decode cX11_foot 27 = .ok (.invokevirtual 181, 3) := by decide +kernel
theorem dX11_foot_30 : decode cX11_foot 30 = .ok (.ldc2_w 179, 3) := by decide +kernel
theorem dX11_foot_33 : decode cX11_foot 33 = .ok (.aload_n 0, 1) := by decide +kernel
theorem dX11_foot_34 : decode cX11_foot 34 = .ok (.iload_n 1, 1) := by decide +kernel
theorem dX11_foot_35 : decode cX11_foot 35 = .ok (.iload_n 2, 1) := by decide +kernel
theorem dX11_foot_36 : decode cX11_foot 36 = .ok (.invokevirtual 149, 3) := by decide +kernel
theorem dX11_foot_39 : decode cX11_foot 39 = .ok (.lmul, 1) := by decide +kernel
theorem dX11_foot_40 : decode cX11_foot 40 = .ok (.iload 4, 2) := by decide +kernel
theorem dX11_foot_42 : decode cX11_foot 42 = .ok (.invokestatic 220, 3) := by decide +kernel
theorem dX11_foot_45 : decode cX11_foot 45 = .ok (.lreturn, 1) := by decide +kernel
theorem dX11_height_0 : decode cX11_height 0 = .ok (.aload_n 0, 1) := by decide +kernel
theorem dX11_height_1 : decode cX11_height 1 = .ok (.iload_n 1, 1) := by decide +kernel
theorem dX11_height_2 : decode cX11_height 2 = .ok (.iload_n 2, 1) := by decide +kernel
theorem dX11_height_3 : decode cX11_height 3 = .ok (.iload_n 3, 1) := by decide +kernel
theorem dX11_height_4 : decode cX11_height 4 = .ok (.iload 4, 2) := by decide +kernel
theorem dX11_height_6 : decode cX11_height 6 = .ok (.invokevirtual 216, 3) := by decide +kernel
theorem dX11_height_9 : decode cX11_height 9 = .ok (.lstore 5, 2) := by decide +kernel
theorem dX11_height_11 : decode cX11_height 11 = .ok (.lload 5, 2) := by decide +kernel
theorem dX11_height_13 : decode cX11_height 13 = .ok (.lconst 0, 1) := by decide +kernel
theorem dX11_height_14 : decode cX11_height 14 = .ok (.lcmp, 1) := by decide +kernel
theorem dX11_height_15 : decode cX11_height 15 = .ok (.ifCond .eq 8, 3) := by decide +kernel
theorem dX11_height_18 : decode cX11_height 18 = .ok (.lload 5, 2) := by decide +kernel
theorem dX11_height_20 : decode cX11_height 20 = .ok (.goto 25, 3) := by decide +kernel
theorem dX11_height_23 : decode cX11_height 23 = .ok (.aload_n 0, 1) := by decide +kernel
theorem dX11_height_24 : decode cX11_height 24 = .ok (.iload_n 1, 1) := by decide +kernel
theorem dX11_height_25 : decode cX11_height 25 = .ok (.iload_n 2, 1) := by decide +kernel
theorem dX11_height_26 : decode cX11_height 26 = .ok (.iload_n 3, 1) := by decide +kernel
theorem dX11_height_27 : decode cX11_height 27 = .ok (.invokevirtual 168, 3) := by decide +kernel
theorem dX11_height_30 : decode cX11_height 30 = .ok (.ldc2_w 162, 3) := by decide +kernel
theorem dX11_height_33 : decode cX11_height 33 = .ok (.aload_n 0, 1) := by decide +kernel
theorem dX11_height_34 : decode cX11_height 34 = .ok (.iload_n 1, 1) := by decide +kernel
theorem dX11_height_35 : decode cX11_height 35 = .ok (.iload_n 2, 1) := by decide +kernel
theorem dX11_height_36 : decode cX11_height 36 = .ok (.invokevirtual 149, 3) := by decide +kernel
theorem dX11_height_39 : decode cX11_height 39 = .ok (.lmul, 1) := by decide +kernel
theorem dX11_height_40 : decode cX11_height 40 = .ok (.iload 4, 2) := by decide +kernel
theorem dX11_height_42 : decode cX11_height 42 = .ok (.invokestatic 220, 3) := by decide +kernel
theorem dX11_height_45 : decode cX11_height 45 = .ok (.lreturn, 1) := by decide +kernel
theorem dX11_round_0 : decode cX11_round 0 = .ok (.aload_n 0, 1) := by decide +kernel
theorem dX11_round_1 : decode cX11_round 1 = .ok (.iload_n 1, 1) := by decide +kernel
theorem dX11_round_2 : decode cX11_round 2 = .ok (.iload_n 2, 1) := by decide +kernel
theorem dX11_round_3 : decode cX11_round 3 = .ok (.iload_n 3, 1) := by decide +kernel
theorem dX11_round_4 : decode cX11_round 4 = .ok (.iload 4, 2) := by decide +kernel
theorem dX11_round_6 : decode cX11_round 6 = .ok (.invokevirtual 216, 3) := by decide +kernel
theorem dX11_round_9 : decode cX11_round 9 = .ok (.lstore 5, 2) := by decide +kernel
theorem dX11_round_11 : decode cX11_round 11 = .ok (.lload 5, 2) := by decide +kernel
theorem dX11_round_13 : decode cX11_round 13 = .ok (.lconst 0, 1) := by decide +kernel
theorem dX11_round_14 : decode cX11_round 14 = .ok (.lcmp, 1) := by decide +kernel
theorem dX11_round_15 : decode cX11_round 15 = .ok (.ifCond .eq 6, 3) := by decide +kernel
theorem dX11_round_18 : decode cX11_round 18 = .ok (.lload 5, 2) := by decide +kernel
theorem dX11_round_20 : decode cX11_round 20 = .ok (.lreturn, 1) := by decide +kernel
theorem dX11_round_21 : decode cX11_round 21 = .ok (.aload_n 0, 1) := by decide +kernel
theorem dX11_round_22 : decode cX11_round 22 = .ok (.iload_n 1, 1) := by decide +kernel
theorem dX11_round_23 : decode cX11_round 23 = .ok (.iload_n 2, 1) := by decide +kernel
theorem dX11_round_24 : decode cX11_round 24 = .ok (.iload_n 3, 1) := by decide +kernel
theorem dX11_round_25 : decode cX11_round 25 = .ok (.invokevirtual 168, 3) := by decide +kernel
theorem dX11_round_28 : decode cX11_round 28 = .ok (.lconst 0, 1) := by decide +kernel
theorem dX11_round_29 : decode cX11_round 29 = .ok (.lcmp, 1) := by decide +kernel
theorem dX11_round_30 : decode cX11_round 30 = .ok (.ifCond .ne 9, 3) := by decide +kernel
theorem dX11_round_33 : decode cX11_round 33 = .ok (.ldc2_w 174, 3) := by decide +kernel
theorem dX11_round_36 : decode cX11_round 36 = .ok (.goto 35, 3) := by decide +kernel
theorem dX11_round_39 : decode cX11_round 39 = .ok (.aload_n 0, 1) := by decide +kernel
theorem dX11_round_40 : decode cX11_round 40 = .ok (.iload_n 1, 1) := by decide +kernel
theorem dX11_round_41 : decode cX11_round 41 = .ok (.iload_n 2, 1) := by decide +kernel
theorem dX11_round_42 : decode cX11_round 42 = .ok (.invokevirtual 149, 3) := by decide +kernel
theorem dX11_round_45 : decode cX11_round 45 = .ok (.aload_n 0, 1) := by decide +kernel
theorem dX11_round_46 : decode cX11_round 46 = .ok (.iload_n 1, 1) := by decide +kernel
theorem dX11_round_47 : decode cX11_round 47 = .ok (.iload_n 3, 1) := by decide +kernel
theorem dX11_round_48 : decode cX11_round 48 = .ok (.invokevirtual 149, 3) := by decide +kernel
theorem dX11_round_51 : decode cX11_round 51 = .ok (.lmul, 1) := by decide +kernel
theorem dX11_round_52 : decode cX11_round 52 = .ok (.aload_n 0, 1) := by decide +kernel
theorem dX11_round_53 : decode cX11_round 53 = .ok (.iload_n 2, 1) := by decide +kernel
theorem dX11_round_54 : decode cX11_round 54 = .ok (.iload_n 3, 1) := by decide +kernel
theorem dX11_round_55 : decode cX11_round 55 = .ok (.invokevirtual 149, 3) := by decide +kernel
theorem dX11_round_58 : decode cX11_round 58 = .ok (.lmul, 1) := by decide +kernel
theorem dX11_round_59 : decode cX11_round 59 = .ok (.aload_n 0, 1) := by decide +kernel
theorem dX11_round_60 : decode cX11_round 60 = .ok (.iload_n 1, 1) := by decide +kernel
theorem dX11_round_61 : decode cX11_round 61 = .ok (.iload_n 2, 1) := by decide +kernel
theorem dX11_round_62 : decode cX11_round 62 = .ok (.iload_n 3, 1) := by decide +kernel
theorem dX11_round_63 : decode cX11_round 63 = .ok (.invokevirtual 168, 3) := by decide +kernel
theorem dX11_round_66 : decode cX11_round 66 = .ok (.iload 4, 2) := by decide +kernel
theorem dX11_round_68 : decode cX11_round 68 = .ok (.invokestatic 220, 3) := by decide +kernel
theorem dX11_round_71 : decode cX11_round 71 = .ok (.lreturn, 1) := by decide +kernel
theorem dX11_sideOf_0 : decode cX11_sideOf 0 = .ok (.ldc2_w 179, 3) := by decide +kernel
theorem dX11_sideOf_3 : decode cX11_sideOf 3 = .ok (.aload_n 0, 1) := by decide +kernel
theorem dX11_sideOf_4 : decode cX11_sideOf 4 = .ok (.iload_n 1, 1) := by decide +kernel
theorem dX11_sideOf_5 : decode cX11_sideOf 5 = .ok (.iload_n 2, 1) := by decide +kernel
theorem dX11_sideOf_6 : decode cX11_sideOf 6 = .ok (.invokevirtual 149, 3) := by decide +kernel
theorem dX11_sideOf_9 : decode cX11_sideOf 9 = .ok (.lmul, 1) := by decide +kernel
theorem dX11_sideOf_10 : decode cX11_sideOf 10 = .ok (.aload_n 0, 1) := by decide +kernel
theorem dX11_sideOf_11 : decode cX11_sideOf 11 = .ok (.iload_n 1, 1) := by decide +kernel
theorem dX11_sideOf_12 : decode cX11_sideOf 12 = .ok (.iload_n 3, 1) := by decide +kernel
theorem dX11_sideOf_13 : decode cX11_sideOf 13 = .ok (.iload 4, 2) := by decide +kernel
theorem dX11_sideOf_15 : decode cX11_sideOf 15 = .ok (.invokevirtual 181, 3) := by decide +kernel
theorem dX11_sideOf_18 : decode cX11_sideOf 18 = .ok (.lmul, 1) := by decide +kernel
theorem dX11_sideOf_19 : decode cX11_sideOf 19 = .ok (.aload_n 0, 1) := by decide +kernel
theorem dX11_sideOf_20 : decode cX11_sideOf 20 = .ok (.iload_n 1, 1) := by decide +kernel
theorem dX11_sideOf_21 : decode cX11_sideOf 21 = .ok (.iload_n 2, 1) := by decide +kernel
theorem dX11_sideOf_22 : decode cX11_sideOf 22 = .ok (.iload_n 3, 1) := by decide +kernel
theorem dX11_sideOf_23 : decode cX11_sideOf 23 = .ok (.invokevirtual 181, 3) := by decide +kernel
theorem dX11_sideOf_26 : decode cX11_sideOf 26 = .ok (.aload_n 0, 1) := by decide +kernel
theorem dX11_sideOf_27 : decode cX11_sideOf 27 = .ok (.iload_n 1, 1) := by decide +kernel
theorem dX11_sideOf_28 : decode cX11_sideOf 28 = .ok (.iload_n 2, 1) := by decide +kernel
theorem dX11_sideOf_29 : decode cX11_sideOf 29 = .ok (.iload 4, 2) := by decide +kernel
theorem dX11_sideOf_31 : decode cX11_sideOf 31 = .ok (.invokevirtual 181, 3) := by decide +kernel
theorem dX11_sideOf_34 : decode cX11_sideOf 34 = .ok (.lmul, 1) := by decide +kernel
theorem dX11_sideOf_35 : decode cX11_sideOf 35 = .ok (.lsub, 1) := by decide +kernel
theorem dX11_sideOf_36 : decode cX11_sideOf 36 = .ok (.invokestatic 212, 3) := by decide +kernel
theorem dX11_sideOf_39 : decode cX11_sideOf 39 = .ok (.ireturn, 1) := by decide +kernel
theorem dX11_isWhole_0 : decode cX11_isWhole 0 = .ok (.aload_n 0, 1) := by decide +kernel
theorem dX11_isWhole_1 : decode cX11_isWhole 1 = .ok (.iload_n 1, 1) := by decide +kernel
theorem dX11_isWhole_2 : decode cX11_isWhole 2 = .ok (.iload_n 2, 1) := by decide +kernel
theorem dX11_isWhole_3 : decode cX11_isWhole 3 = .ok (.iload_n 3, 1) := by decide +kernel
theorem dX11_isWhole_4 : decode cX11_isWhole 4 = .ok (.iload 4, 2) := by decide +kernel
theorem dX11_isWhole_6 : decode cX11_isWhole 6 = .ok (.invokevirtual 188, 3) := by decide +kernel
theorem dX11_isWhole_9 : decode cX11_isWhole 9 = .ok (.ifCond .ne 5, 3) := by decide +kernel
theorem dX11_isWhole_12 : decode cX11_isWhole 12 = .ok (.iconst 0, 1) := by decide +kernel
theorem dX11_isWhole_13 : decode cX11_isWhole 13 = .ok (.ireturn, 1) := by decide +kernel
theorem dX11_isWhole_14 : decode cX11_isWhole 14 = .ok (.iload_n 1, 1) := by decide +kernel
theorem dX11_isWhole_15 : decode cX11_isWhole 15 = .ok (.iload_n 2, 1) := by decide +kernel
theorem dX11_isWhole_16 : decode cX11_isWhole 16 = .ok (.if_icmp .ge 7, 3) := by decide +kernel
theorem dX11_isWhole_19 : decode cX11_isWhole 19 = .ok (.iload_n 1, 1) := by decide +kernel
theorem dX11_isWhole_20 : decode cX11_isWhole 20 = .ok (.goto 4, 3) := by decide +kernel
theorem dX11_isWhole_23 : decode cX11_isWhole 23 = .ok (.iload_n 2, 1) := by decide +kernel
theorem dX11_isWhole_24 : decode cX11_isWhole 24 = .ok (.istore 5, 2) := by decide +kernel
theorem dX11_isWhole_26 : decode cX11_isWhole 26 = .ok (.iload_n 3, 1) := by decide +kernel
theorem dX11_isWhole_27 : decode cX11_isWhole 27 = .ok (.iload 5, 2) := by decide +kernel
theorem dX11_isWhole_29 : decode cX11_isWhole 29 = .ok (.if_icmp .ge 7, 3) := by decide +kernel
theorem dX11_isWhole_32 : decode cX11_isWhole 32 = .ok (.iload_n 3, 1) := by decide +kernel
theorem dX11_isWhole_33 : decode cX11_isWhole 33 = .ok (.goto 5, 3) := by decide +kernel
theorem dX11_isWhole_36 : decode cX11_isWhole 36 = .ok (.iload 5, 2) := by decide +kernel
theorem dX11_isWhole_38 : decode cX11_isWhole 38 = .ok (.istore 5, 2) := by decide +kernel
theorem dX11_isWhole_40 : decode cX11_isWhole 40 = .ok (.iload 4, 2) := by decide +kernel
theorem dX11_isWhole_42 : decode cX11_isWhole 42 = .ok (.iload 5, 2) := by decide +kernel
theorem dX11_isWhole_44 : decode cX11_isWhole 44 = .ok (.if_icmp .ge 8, 3) := by decide +kernel
theorem dX11_isWhole_47 : decode cX11_isWhole 47 = .ok (.iload 4, 2) := by decide +kernel
theorem dX11_isWhole_49 : decode cX11_isWhole 49 = .ok (.goto 5, 3) := by decide +kernel
theorem dX11_isWhole_52 : decode cX11_isWhole 52 = .ok (.iload 5, 2) := by decide +kernel
theorem dX11_isWhole_54 : decode cX11_isWhole 54 = .ok (.istore 5, 2) := by decide +kernel
theorem dX11_isWhole_56 : decode cX11_isWhole 56 = .ok (.iload 5, 2) := by decide +kernel
theorem dX11_isWhole_58 : decode cX11_isWhole 58 = .ok (.iload_n 1, 1) := by decide +kernel
theorem dX11_isWhole_59 : decode cX11_isWhole 59 = .ok (.if_icmp .ne 15, 3) := by decide +kernel
theorem dX11_isWhole_62 : decode cX11_isWhole 62 = .ok (.aload_n 0, 1) := by decide +kernel
theorem dX11_isWhole_63 : decode cX11_isWhole 63 = .ok (.iload_n 1, 1) := by decide +kernel
theorem dX11_isWhole_64 : decode cX11_isWhole 64 = .ok (.iload_n 2, 1) := by decide +kernel
theorem dX11_isWhole_65 : decode cX11_isWhole 65 = .ok (.iload_n 3, 1) := by decide +kernel
theorem dX11_isWhole_66 : decode cX11_isWhole 66 = .ok (.iload 4, 2) := by decide +kernel
theorem dX11_isWhole_68 : decode cX11_isWhole 68 = .ok (.invokevirtual 191, 3) := by decide +kernel
theorem dX11_isWhole_71 : decode cX11_isWhole 71 = .ok (.goto 48, 3) := by decide +kernel
theorem dX11_isWhole_74 : decode cX11_isWhole 74 = .ok (.iload 5, 2) := by decide +kernel
theorem dX11_isWhole_76 : decode cX11_isWhole 76 = .ok (.iload_n 2, 1) := by decide +kernel
theorem dX11_isWhole_77 : decode cX11_isWhole 77 = .ok (.if_icmp .ne 15, 3) := by decide +kernel
theorem dX11_isWhole_80 : decode cX11_isWhole 80 = .ok (.aload_n 0, 1) := by decide +kernel
theorem dX11_isWhole_81 : decode cX11_isWhole 81 = .ok (.iload_n 2, 1) := by decide +kernel
theorem dX11_isWhole_82 : decode cX11_isWhole 82 = .ok (.iload_n 1, 1) := by decide +kernel
theorem dX11_isWhole_83 : decode cX11_isWhole 83 = .ok (.iload_n 3, 1) := by decide +kernel
theorem dX11_isWhole_84 : decode cX11_isWhole 84 = .ok (.iload 4, 2) := by decide +kernel
theorem dX11_isWhole_86 : decode cX11_isWhole 86 = .ok (.invokevirtual 191, 3) := by decide +kernel
theorem dX11_isWhole_89 : decode cX11_isWhole 89 = .ok (.goto 30, 3) := by decide +kernel
theorem dX11_isWhole_92 : decode cX11_isWhole 92 = .ok (.iload 5, 2) := by decide +kernel
theorem dX11_isWhole_94 : decode cX11_isWhole 94 = .ok (.iload_n 3, 1) := by decide +kernel
theorem dX11_isWhole_95 : decode cX11_isWhole 95 = .ok (.if_icmp .ne 15, 3) := by decide +kernel
theorem dX11_isWhole_98 : decode cX11_isWhole 98 = .ok (.aload_n 0, 1) := by decide +kernel
theorem dX11_isWhole_99 : decode cX11_isWhole 99 = .ok (.iload_n 3, 1) := by decide +kernel
theorem dX11_isWhole_100 : decode cX11_isWhole 100 = .ok (.iload_n 1, 1) := by decide +kernel
theorem dX11_isWhole_101 : decode cX11_isWhole 101 = .ok (.iload_n 2, 1) := by decide +kernel
theorem dX11_isWhole_102 : decode cX11_isWhole 102 = .ok (.iload 4, 2) := by decide +kernel
theorem dX11_isWhole_104 : decode cX11_isWhole 104 = .ok (.invokevirtual 191, 3) := by decide +kernel
theorem dX11_isWhole_107 : decode cX11_isWhole 107 = .ok (.goto 12, 3) := by decide +kernel
theorem dX11_isWhole_110 : decode cX11_isWhole 110 = .ok (.aload_n 0, 1) := by decide +kernel
theorem dX11_isWhole_111 : decode cX11_isWhole 111 = .ok (.iload 4, 2) := by decide +kernel
theorem dX11_isWhole_113 : decode cX11_isWhole 113 = .ok (.iload_n 1, 1) := by decide +kernel
theorem dX11_isWhole_114 : decode cX11_isWhole 114 = .ok (.iload_n 2, 1) := by decide +kernel
theorem dX11_isWhole_115 : decode cX11_isWhole 115 = .ok (.iload_n 3, 1) := by decide +kernel
theorem dX11_isWhole_116 : decode cX11_isWhole 116 = .ok (.invokevirtual 191, 3) := by decide +kernel
theorem dX11_isWhole_119 : decode cX11_isWhole 119 = .ok (.ireturn, 1) := by decide +kernel
theorem dX11_side_0 : decode cX11_side 0 = .ok (.aload_n 0, 1) := by decide +kernel
theorem dX11_side_1 : decode cX11_side 1 = .ok (.iload_n 1, 1) := by decide +kernel
theorem dX11_side_2 : decode cX11_side 2 = .ok (.iload_n 2, 1) := by decide +kernel
theorem dX11_side_3 : decode cX11_side 3 = .ok (.iload_n 3, 1) := by decide +kernel
theorem dX11_side_4 : decode cX11_side 4 = .ok (.iload 4, 2) := by decide +kernel
theorem dX11_side_6 : decode cX11_side 6 = .ok (.invokevirtual 184, 3) := by decide +kernel
theorem dX11_side_9 : decode cX11_side 9 = .ok (.ifCond .ne 5, 3) := by decide +kernel
theorem dX11_side_12 : decode cX11_side 12 = .ok (.iconst (-1), 1) := by decide +kernel
theorem dX11_side_13 : decode cX11_side 13 = .ok (.ireturn, 1) := by decide +kernel
theorem dX11_side_14 : decode cX11_side 14 = .ok (.aload_n 0, 1) := by decide +kernel
theorem dX11_side_15 : decode cX11_side 15 = .ok (.iload_n 1, 1) := by decide +kernel
theorem dX11_side_16 : decode cX11_side 16 = .ok (.iload_n 2, 1) := by decide +kernel
theorem dX11_side_17 : decode cX11_side 17 = .ok (.iload_n 3, 1) := by decide +kernel
theorem dX11_side_18 : decode cX11_side 18 = .ok (.iload 4, 2) := by decide +kernel
theorem dX11_side_20 : decode cX11_side 20 = .ok (.invokevirtual 224, 3) := by decide +kernel
theorem dX11_side_23 : decode cX11_side 23 = .ok (.ifCond .ne 6, 3) := by decide +kernel
theorem dX11_side_26 : decode cX11_side 26 = .ok (.bipush (-2), 2) := by decide +kernel
theorem dX11_side_28 : decode cX11_side 28 = .ok (.ireturn, 1) := by decide +kernel
theorem dX11_side_29 : decode cX11_side 29 = .ok (.aload_n 0, 1) := by decide +kernel
theorem dX11_side_30 : decode cX11_side 30 = .ok (.iload_n 1, 1) := by decide +kernel
theorem dX11_side_31 : decode cX11_side 31 = .ok (.iload_n 2, 1) := by decide +kernel
theorem dX11_side_32 : decode cX11_side 32 = .ok (.iload_n 3, 1) := by decide +kernel
theorem dX11_side_33 : decode cX11_side 33 = .ok (.iload 4, 2) := by decide +kernel
theorem dX11_side_35 : decode cX11_side 35 = .ok (.invokevirtual 227, 3) := by decide +kernel
theorem dX11_side_38 : decode cX11_side 38 = .ok (.istore 5, 2) := by decide +kernel
theorem dX11_side_40 : decode cX11_side 40 = .ok (.iload 5, 2) := by decide +kernel
theorem dX11_side_42 : decode cX11_side 42 = .ok (.ifCond .ge 8, 3) := by decide +kernel
theorem dX11_side_45 : decode cX11_side 45 = .ok (.bipush (-5), 2) := by decide +kernel
theorem dX11_side_47 : decode cX11_side 47 = .ok (.goto 5, 3) := by decide +kernel
theorem dX11_side_50 : decode cX11_side 50 = .ok (.iload 5, 2) := by decide +kernel
theorem dX11_side_52 : decode cX11_side 52 = .ok (.ireturn, 1) := by decide +kernel
theorem dX11_within_0 : decode cX11_within 0 = .ok (.aload_n 0, 1) := by decide +kernel
theorem dX11_within_1 : decode cX11_within 1 = .ok (.iload_n 1, 1) := by decide +kernel
theorem dX11_within_2 : decode cX11_within 2 = .ok (.iload_n 2, 1) := by decide +kernel
theorem dX11_within_3 : decode cX11_within 3 = .ok (.iload_n 3, 1) := by decide +kernel
theorem dX11_within_4 : decode cX11_within 4 = .ok (.iload 4, 2) := by decide +kernel
theorem dX11_within_6 : decode cX11_within 6 = .ok (.invokevirtual 184, 3) := by decide +kernel
theorem dX11_within_9 : decode cX11_within 9 = .ok (.ifCond .ne 5, 3) := by decide +kernel
theorem dX11_within_12 : decode cX11_within 12 = .ok (.iconst (-1), 1) := by decide +kernel
theorem dX11_within_13 : decode cX11_within 13 = .ok (.ireturn, 1) := by decide +kernel
theorem dX11_within_14 : decode cX11_within 14 = .ok (.aload_n 0, 1) := by decide +kernel
theorem dX11_within_15 : decode cX11_within 15 = .ok (.iload_n 1, 1) := by decide +kernel
theorem dX11_within_16 : decode cX11_within 16 = .ok (.iload_n 2, 1) := by decide +kernel
theorem dX11_within_17 : decode cX11_within 17 = .ok (.iload_n 3, 1) := by decide +kernel
theorem dX11_within_18 : decode cX11_within 18 = .ok (.iload 4, 2) := by decide +kernel
theorem dX11_within_20 : decode cX11_within 20 = .ok (.invokevirtual 224, 3) := by decide +kernel
theorem dX11_within_23 : decode cX11_within 23 = .ok (.ifCond .eq 15, 3) := by decide +kernel
theorem dX11_within_26 : decode cX11_within 26 = .ok (.aload_n 0, 1) := by decide +kernel
theorem dX11_within_27 : decode cX11_within 27 = .ok (.iload_n 1, 1) := by decide +kernel
theorem dX11_within_28 : decode cX11_within 28 = .ok (.iload_n 2, 1) := by decide +kernel
theorem dX11_within_29 : decode cX11_within 29 = .ok (.iload_n 3, 1) := by decide +kernel
theorem dX11_within_30 : decode cX11_within 30 = .ok (.invokevirtual 168, 3) := by decide +kernel
theorem dX11_within_33 : decode cX11_within 33 = .ok (.lconst 0, 1) := by decide +kernel
theorem dX11_within_34 : decode cX11_within 34 = .ok (.lcmp, 1) := by decide +kernel
theorem dX11_within_35 : decode cX11_within 35 = .ok (.ifCond .ne 6, 3) := by decide +kernel
theorem dX11_within_38 : decode cX11_within 38 = .ok (.bipush (-2), 2) := by decide +kernel
theorem dX11_within_40 : decode cX11_within 40 = .ok (.ireturn, 1) := by decide +kernel
theorem dX11_within_41 : decode cX11_within 41 = .ok (.aload_n 0, 1) := by decide +kernel
theorem dX11_within_42 : decode cX11_within 42 = .ok (.iload_n 1, 1) := by decide +kernel
theorem dX11_within_43 : decode cX11_within 43 = .ok (.iload_n 2, 1) := by decide +kernel
theorem dX11_within_44 : decode cX11_within 44 = .ok (.iload_n 3, 1) := by decide +kernel
theorem dX11_within_45 : decode cX11_within 45 = .ok (.iload 4, 2) := by decide +kernel
theorem dX11_within_47 : decode cX11_within 47 = .ok (.invokevirtual 227, 3) := by decide +kernel
theorem dX11_within_50 : decode cX11_within 50 = .ok (.ifCond .lt 31, 3) := by decide +kernel
theorem dX11_within_53 : decode cX11_within 53 = .ok (.aload_n 0, 1) := by decide +kernel
theorem dX11_within_54 : decode cX11_within 54 = .ok (.iload_n 1, 1) := by decide +kernel
theorem dX11_within_55 : decode cX11_within 55 = .ok (.iload_n 3, 1) := by decide +kernel
theorem dX11_within_56 : decode cX11_within 56 = .ok (.iload_n 2, 1) := by decide +kernel
theorem dX11_within_57 : decode cX11_within 57 = .ok (.iload 4, 2) := by decide +kernel
theorem dX11_within_59 : decode cX11_within 59 = .ok (.invokevirtual 227, 3) := by decide +kernel
theorem dX11_within_62 : decode cX11_within 62 = .ok (.ifCond .lt 19, 3) := by decide +kernel
theorem dX11_within_65 : decode cX11_within 65 = .ok (.aload_n 0, 1) := by decide +kernel
theorem dX11_within_66 : decode cX11_within 66 = .ok (.iload_n 2, 1) := by decide +kernel
theorem dX11_within_67 : decode cX11_within 67 = .ok (.iload_n 3, 1) := by decide +kernel
theorem dX11_within_68 : decode cX11_within 68 = .ok (.iload_n 1, 1) := by decide +kernel
theorem dX11_within_69 : decode cX11_within 69 = .ok (.iload 4, 2) := by decide +kernel
theorem dX11_within_71 : decode cX11_within 71 = .ok (.invokevirtual 227, 3) := by decide +kernel
theorem dX11_within_74 : decode cX11_within 74 = .ok (.ifCond .lt 7, 3) := by decide +kernel
theorem dX11_within_77 : decode cX11_within 77 = .ok (.iconst 1, 1) := by decide +kernel
theorem dX11_within_78 : decode cX11_within 78 = .ok (.goto 4, 3) := by decide +kernel
theorem dX11_within_81 : decode cX11_within 81 = .ok (.iconst 0, 1) := by decide +kernel
theorem dX11_within_82 : decode cX11_within 82 = .ok (.ireturn, 1) := by decide +kernel
theorem dX11_root_0 : decode cX11_root 0 = .ok (.lconst 0, 1) := by decide +kernel
theorem dX11_root_1 : decode cX11_root 1 = .ok (.lstore_n 2, 1) := by decide +kernel
theorem dX11_root_2 : decode cX11_root 2 = .ok (.ldc2_w 231, 3) := by decide +kernel
theorem dX11_root_5 : decode cX11_root 5 = .ok (.lstore 4, 2) := by decide +kernel
theorem dX11_root_7 : decode cX11_root 7 = .ok (.lload_n 2, 1) := by decide +kernel
theorem dX11_root_8 : decode cX11_root 8 = .ok (.lload 4, 2) := by decide +kernel
theorem dX11_root_10 : decode cX11_root 10 = .ok (.lcmp, 1) := by decide +kernel
theorem dX11_root_11 : decode cX11_root 11 = .ok (.ifCond .ge 63, 3) := by decide +kernel
theorem dX11_root_14 : decode cX11_root 14 = .ok (.lload_n 2, 1) := by decide +kernel
theorem dX11_root_15 : decode cX11_root 15 = .ok (.lload 4, 2) := by decide +kernel
theorem dX11_root_17 : decode cX11_root 17 = .ok (.ladd, 1) := by decide +kernel
theorem dX11_root_18 : decode cX11_root 18 = .ok (.lconst 1, 1) := by decide +kernel
theorem dX11_root_19 : decode cX11_root 19 = .ok (.ladd, 1) := by decide +kernel
theorem dX11_root_20 : decode cX11_root 20 = .ok (.ldc2_w 179, 3) := by decide +kernel
theorem dX11_root_23 : decode cX11_root 23 = .ok (.ldiv, 1) := by decide +kernel
theorem dX11_root_24 : decode cX11_root 24 = .ok (.lstore 6, 2) := by decide +kernel
theorem dX11_root_26 : decode cX11_root 26 = .ok (.lload 6, 2) := by decide +kernel
theorem dX11_root_28 : decode cX11_root 28 = .ok (.lload 6, 2) := by decide +kernel
theorem dX11_root_30 : decode cX11_root 30 = .ok (.lmul, 1) := by decide +kernel
theorem dX11_root_31 : decode cX11_root 31 = .ok (.lload_n 0, 1) := by decide +kernel
theorem dX11_root_32 : decode cX11_root 32 = .ok (.lcmp, 1) := by decide +kernel
theorem dX11_root_33 : decode cX11_root 33 = .ok (.ifCond .gt 7, 3) := by decide +kernel
theorem dX11_root_36 : decode cX11_root 36 = .ok (.iconst 1, 1) := by decide +kernel
theorem dX11_root_37 : decode cX11_root 37 = .ok (.goto 4, 3) := by decide +kernel
theorem dX11_root_40 : decode cX11_root 40 = .ok (.iconst 0, 1) := by decide +kernel
theorem dX11_root_41 : decode cX11_root 41 = .ok (.istore 8, 2) := by decide +kernel
theorem dX11_root_43 : decode cX11_root 43 = .ok (.iload 8, 2) := by decide +kernel
theorem dX11_root_45 : decode cX11_root 45 = .ok (.ifCond .eq 8, 3) := by decide +kernel
theorem dX11_root_48 : decode cX11_root 48 = .ok (.lload 6, 2) := by decide +kernel
theorem dX11_root_50 : decode cX11_root 50 = .ok (.goto 4, 3) := by decide +kernel
theorem dX11_root_53 : decode cX11_root 53 = .ok (.lload_n 2, 1) := by decide +kernel
theorem dX11_root_54 : decode cX11_root 54 = .ok (.lstore_n 2, 1) := by decide +kernel
theorem dX11_root_55 : decode cX11_root 55 = .ok (.iload 8, 2) := by decide +kernel
theorem dX11_root_57 : decode cX11_root 57 = .ok (.ifCond .eq 8, 3) := by decide +kernel
theorem dX11_root_60 : decode cX11_root 60 = .ok (.lload 4, 2) := by decide +kernel
theorem dX11_root_62 : decode cX11_root 62 = .ok (.goto 7, 3) := by decide +kernel
theorem dX11_root_65 : decode cX11_root 65 = .ok (.lload 6, 2) := by decide +kernel
theorem dX11_root_67 : decode cX11_root 67 = .ok (.lconst 1, 1) := by decide +kernel
theorem dX11_root_68 : decode cX11_root 68 = .ok (.lsub, 1) := by decide +kernel
theorem dX11_root_69 : decode cX11_root 69 = .ok (.lstore 4, 2) := by decide +kernel
theorem dX11_root_71 : decode cX11_root 71 = .ok (.goto (-64), 3) := by decide +kernel
theorem dX11_root_74 : decode cX11_root 74 = .ok (.lload_n 2, 1) := by decide +kernel
theorem dX11_root_75 : decode cX11_root 75 = .ok (.lreturn, 1) := by decide +kernel
theorem dX11_across_0 : decode cX11_across 0 = .ok (.aload_n 0, 1) := by decide +kernel
theorem dX11_across_1 : decode cX11_across 1 = .ok (.iload_n 3, 1) := by decide +kernel
theorem dX11_across_2 : decode cX11_across 2 = .ok (.iload 4, 2) := by decide +kernel
theorem dX11_across_4 : decode cX11_across 4 = .ok (.invokevirtual 149, 3) := by decide +kernel
theorem dX11_across_7 : decode cX11_across 7 = .ok (.aload_n 0, 1) := by decide +kernel
theorem dX11_across_8 : decode cX11_across 8 = .ok (.iload_n 3, 1) := by decide +kernel
theorem dX11_across_9 : decode cX11_across 9 = .ok (.iload_n 1, 1) := by decide +kernel
theorem dX11_across_10 : decode cX11_across 10 = .ok (.invokevirtual 149, 3) := by decide +kernel
theorem dX11_across_13 : decode cX11_across 13 = .ok (.ladd, 1) := by decide +kernel
theorem dX11_across_14 : decode cX11_across 14 = .ok (.aload_n 0, 1) := by decide +kernel
theorem dX11_across_15 : decode cX11_across 15 = .ok (.iload 4, 2) := by decide +kernel
theorem dX11_across_17 : decode cX11_across 17 = .ok (.iload_n 1, 1) := by decide +kernel
theorem dX11_across_18 : decode cX11_across 18 = .ok (.invokevirtual 149, 3) := by decide +kernel
theorem dX11_across_21 : decode cX11_across 21 = .ok (.lsub, 1) := by decide +kernel
theorem dX11_across_22 : decode cX11_across 22 = .ok (.lstore 5, 2) := by decide +kernel
theorem dX11_across_24 : decode cX11_across 24 = .ok (.aload_n 0, 1) := by decide +kernel
theorem dX11_across_25 : decode cX11_across 25 = .ok (.iload_n 3, 1) := by decide +kernel
theorem dX11_across_26 : decode cX11_across 26 = .ok (.iload 4, 2) := by decide +kernel
theorem dX11_across_28 : decode cX11_across 28 = .ok (.invokevirtual 149, 3) := by decide +kernel
theorem dX11_across_31 : decode cX11_across 31 = .ok (.aload_n 0, 1) := by decide +kernel
theorem dX11_across_32 : decode cX11_across 32 = .ok (.iload_n 3, 1) := by decide +kernel
theorem dX11_across_33 : decode cX11_across 33 = .ok (.iload_n 2, 1) := by decide +kernel
theorem dX11_across_34 : decode cX11_across 34 = .ok (.invokevirtual 149, 3) := by decide +kernel
theorem dX11_across_37 : decode cX11_across 37 = .ok (.ladd, 1) := by decide +kernel
theorem dX11_across_38 : decode cX11_across 38 = .ok (.aload_n 0, 1) := by decide +kernel
theorem dX11_across_39 : decode cX11_across 39 = .ok (.iload 4, 2) := by decide +kernel
theorem dX11_across_41 : decode cX11_across 41 = .ok (.iload_n 2, 1) := by decide +kernel
theorem dX11_across_42 : decode cX11_across 42 = .ok (.invokevirtual 149, 3) := by decide +kernel
theorem dX11_across_45 : decode cX11_across 45 = .ok (.lsub, 1) := by decide +kernel
theorem dX11_across_46 : decode cX11_across 46 = .ok (.lstore 7, 2) := by decide +kernel
theorem dX11_across_48 : decode cX11_across 48 = .ok (.ldc2_w 179, 3) := by decide +kernel
theorem dX11_across_51 : decode cX11_across 51 = .ok (.aload_n 0, 1) := by decide +kernel
theorem dX11_across_52 : decode cX11_across 52 = .ok (.iload_n 3, 1) := by decide +kernel
theorem dX11_across_53 : decode cX11_across 53 = .ok (.iload 4, 2) := by decide +kernel
theorem dX11_across_55 : decode cX11_across 55 = .ok (.invokevirtual 149, 3) := by decide +kernel
theorem dX11_across_58 : decode cX11_across 58 = .ok (.lmul, 1) := by decide +kernel
theorem dX11_across_59 : decode cX11_across 59 = .ok (.aload_n 0, 1) := by decide +kernel
theorem dX11_across_60 : decode cX11_across 60 = .ok (.iload_n 3, 1) := by decide +kernel
theorem dX11_across_61 : decode cX11_across 61 = .ok (.iload_n 1, 1) := by decide +kernel
theorem dX11_across_62 : decode cX11_across 62 = .ok (.invokevirtual 149, 3) := by decide +kernel
theorem dX11_across_65 : decode cX11_across 65 = .ok (.aload_n 0, 1) := by decide +kernel
theorem dX11_across_66 : decode cX11_across 66 = .ok (.iload_n 3, 1) := by decide +kernel
theorem dX11_across_67 : decode cX11_across 67 = .ok (.iload_n 2, 1) := by decide +kernel
theorem dX11_across_68 : decode cX11_across 68 = .ok (.invokevirtual 149, 3) := by decide +kernel
theorem dX11_across_71 : decode cX11_across 71 = .ok (.ladd, 1) := by decide +kernel
theorem dX11_across_72 : decode cX11_across 72 = .ok (.lmul, 1) := by decide +kernel
theorem dX11_across_73 : decode cX11_across 73 = .ok (.lload 5, 2) := by decide +kernel
theorem dX11_across_75 : decode cX11_across 75 = .ok (.lload 7, 2) := by decide +kernel
theorem dX11_across_77 : decode cX11_across 77 = .ok (.lmul, 1) := by decide +kernel
theorem dX11_across_78 : decode cX11_across 78 = .ok (.lsub, 1) := by decide +kernel
theorem dX11_across_79 : decode cX11_across 79 = .ok (.lreturn, 1) := by decide +kernel
theorem dX11_under_0 : decode cX11_under 0 = .ok (.aload_n 0, 1) := by decide +kernel
theorem dX11_under_1 : decode cX11_under 1 = .ok (.iload_n 3, 1) := by decide +kernel
theorem dX11_under_2 : decode cX11_under 2 = .ok (.iload 4, 2) := by decide +kernel
theorem dX11_under_4 : decode cX11_under 4 = .ok (.iload_n 1, 1) := by decide +kernel
theorem dX11_under_5 : decode cX11_under 5 = .ok (.invokevirtual 168, 3) := by decide +kernel
theorem dX11_under_8 : decode cX11_under 8 = .ok (.aload_n 0, 1) := by decide +kernel
theorem dX11_under_9 : decode cX11_under 9 = .ok (.iload_n 3, 1) := by decide +kernel
theorem dX11_under_10 : decode cX11_under 10 = .ok (.iload 4, 2) := by decide +kernel
theorem dX11_under_12 : decode cX11_under 12 = .ok (.iload_n 2, 1) := by decide +kernel
theorem dX11_under_13 : decode cX11_under 13 = .ok (.invokevirtual 168, 3) := by decide +kernel
theorem dX11_under_16 : decode cX11_under 16 = .ok (.lmul, 1) := by decide +kernel
theorem dX11_under_17 : decode cX11_under 17 = .ok (.lreturn, 1) := by decide +kernel
theorem dX11_sixth_0 : decode cX11_sixth 0 = .ok (.aload_n 0, 1) := by decide +kernel
theorem dX11_sixth_1 : decode cX11_sixth 1 = .ok (.iload_n 1, 1) := by decide +kernel
theorem dX11_sixth_2 : decode cX11_sixth 2 = .ok (.iload_n 2, 1) := by decide +kernel
theorem dX11_sixth_3 : decode cX11_sixth 3 = .ok (.iload_n 3, 1) := by decide +kernel
theorem dX11_sixth_4 : decode cX11_sixth 4 = .ok (.iload 4, 2) := by decide +kernel
theorem dX11_sixth_6 : decode cX11_sixth 6 = .ok (.invokevirtual 184, 3) := by decide +kernel
theorem dX11_sixth_9 : decode cX11_sixth 9 = .ok (.ifCond .eq 16, 3) := by decide +kernel
theorem dX11_sixth_12 : decode cX11_sixth 12 = .ok (.iload 5, 2) := by decide +kernel
theorem dX11_sixth_14 : decode cX11_sixth 14 = .ok (.i2l, 1) := by decide +kernel
theorem dX11_sixth_15 : decode cX11_sixth 15 = .ok (.lconst 0, 1) := by decide +kernel
theorem dX11_sixth_16 : decode cX11_sixth 16 = .ok (.ldc2_w 162, 3) := by decide +kernel
theorem dX11_sixth_19 : decode cX11_sixth 19 = .ok (.invokestatic 64, 3) := by decide +kernel
theorem dX11_sixth_22 : decode cX11_sixth 22 = .ok (.ifCond .ne 7, 3) := by decide +kernel
theorem dX11_sixth_25 : decode cX11_sixth 25 = .ok (.ldc2_w 172, 3) := by decide +kernel
theorem dX11_sixth_28 : decode cX11_sixth 28 = .ok (.lreturn, 1) := by decide +kernel
theorem dX11_sixth_29 : decode cX11_sixth 29 = .ok (.aload_n 0, 1) := by decide +kernel
theorem dX11_sixth_30 : decode cX11_sixth 30 = .ok (.iload_n 3, 1) := by decide +kernel
theorem dX11_sixth_31 : decode cX11_sixth 31 = .ok (.iload 4, 2) := by decide +kernel
theorem dX11_sixth_33 : decode cX11_sixth 33 = .ok (.iload_n 1, 1) := by decide +kernel
theorem dX11_sixth_34 : decode cX11_sixth 34 = .ok (.invokevirtual 153, 3) := by decide +kernel
theorem dX11_sixth_37 : decode cX11_sixth 37 = .ok (.ifCond .eq 36, 3) := by decide +kernel
theorem dX11_sixth_40 : decode cX11_sixth 40 = .ok (.aload_n 0, 1) := by decide +kernel
theorem dX11_sixth_41 : decode cX11_sixth 41 = .ok (.iload_n 3, 1) := by decide +kernel
theorem dX11_sixth_42 : decode cX11_sixth 42 = .ok (.iload 4, 2) := by decide +kernel
theorem dX11_sixth_44 : decode cX11_sixth 44 = .ok (.iload_n 2, 1) := by decide +kernel
theorem dX11_sixth_45 : decode cX11_sixth 45 = .ok (.invokevirtual 153, 3) := by decide +kernel
theorem dX11_sixth_48 : decode cX11_sixth 48 = .ok (.ifCond .eq 25, 3) := by decide +kernel
theorem dX11_sixth_51 : decode cX11_sixth 51 = .ok (.aload_n 0, 1) := by decide +kernel
theorem dX11_sixth_52 : decode cX11_sixth 52 = .ok (.iload_n 3, 1) := by decide +kernel
theorem dX11_sixth_53 : decode cX11_sixth 53 = .ok (.iload 4, 2) := by decide +kernel
theorem dX11_sixth_55 : decode cX11_sixth 55 = .ok (.iload_n 1, 1) := by decide +kernel
theorem dX11_sixth_56 : decode cX11_sixth 56 = .ok (.invokevirtual 176, 3) := by decide +kernel
theorem dX11_sixth_59 : decode cX11_sixth 59 = .ok (.ifCond .eq 14, 3) := by decide +kernel
theorem dX11_sixth_62 : decode cX11_sixth 62 = .ok (.aload_n 0, 1) := by decide +kernel
theorem dX11_sixth_63 : decode cX11_sixth 63 = .ok (.iload_n 3, 1) := by decide +kernel
theorem dX11_sixth_64 : decode cX11_sixth 64 = .ok (.iload 4, 2) := by decide +kernel
theorem dX11_sixth_66 : decode cX11_sixth 66 = .ok (.iload_n 2, 1) := by decide +kernel
theorem dX11_sixth_67 : decode cX11_sixth 67 = .ok (.invokevirtual 176, 3) := by decide +kernel
theorem dX11_sixth_70 : decode cX11_sixth 70 = .ok (.ifCond .ne 7, 3) := by decide +kernel
theorem dX11_sixth_73 : decode cX11_sixth 73 = .ok (.ldc2_w 174, 3) := by decide +kernel
theorem dX11_sixth_76 : decode cX11_sixth 76 = .ok (.lreturn, 1) := by decide +kernel
theorem dX11_sixth_77 : decode cX11_sixth 77 = .ok (.aload_n 0, 1) := by decide +kernel
theorem dX11_sixth_78 : decode cX11_sixth 78 = .ok (.iload_n 1, 1) := by decide +kernel
theorem dX11_sixth_79 : decode cX11_sixth 79 = .ok (.iload_n 2, 1) := by decide +kernel
theorem dX11_sixth_80 : decode cX11_sixth 80 = .ok (.iload_n 3, 1) := by decide +kernel
theorem dX11_sixth_81 : decode cX11_sixth 81 = .ok (.iload 4, 2) := by decide +kernel
theorem dX11_sixth_83 : decode cX11_sixth 83 = .ok (.invokevirtual 233, 3) := by decide +kernel
theorem dX11_sixth_86 : decode cX11_sixth 86 = .ok (.lstore 6, 2) := by decide +kernel
theorem dX11_sixth_88 : decode cX11_sixth 88 = .ok (.aload_n 0, 1) := by decide +kernel
theorem dX11_sixth_89 : decode cX11_sixth 89 = .ok (.iload_n 1, 1) := by decide +kernel
theorem dX11_sixth_90 : decode cX11_sixth 90 = .ok (.iload_n 2, 1) := by decide +kernel
theorem dX11_sixth_91 : decode cX11_sixth 91 = .ok (.iload_n 3, 1) := by decide +kernel
theorem dX11_sixth_92 : decode cX11_sixth 92 = .ok (.iload 4, 2) := by decide +kernel
theorem dX11_sixth_94 : decode cX11_sixth 94 = .ok (.invokevirtual 236, 3) := by decide +kernel
theorem dX11_sixth_97 : decode cX11_sixth 97 = .ok (.lstore 8, 2) := by decide +kernel
theorem dX11_sixth_99 : decode cX11_sixth 99 = .ok (.ldc2_w 179, 3) := by decide +kernel
theorem dX11_sixth_102 : decode cX11_sixth 102 = .ok (.aload_n 0, 1) := by decide +kernel
theorem dX11_sixth_103 : decode cX11_sixth 103 = .ok (.iload_n 3, 1) := by decide +kernel
theorem dX11_sixth_104 : decode cX11_sixth 104 = .ok (.iload 4, 2) := by decide +kernel
theorem dX11_sixth_106 : decode cX11_sixth 106 = .ok (.invokevirtual 149, 3) := by decide +kernel
theorem dX11_sixth_109 : decode cX11_sixth 109 = .ok (.lmul, 1) := by decide +kernel
theorem dX11_sixth_110 : decode cX11_sixth 110 = .ok (.lstore 10, 2) := by decide +kernel
theorem dX11_sixth_112 : decode cX11_sixth 112 = .ok (.iload 5, 2) := by decide +kernel
theorem dX11_sixth_114 : decode cX11_sixth 114 = .ok (.iconst 3, 1) := by decide +kernel
theorem dX11_sixth_115 : decode cX11_sixth 115 = .ok (.if_icmp .ge 27, 3) := by decide +kernel
theorem dX11_sixth_118 : decode cX11_sixth 118 = .ok (.iload 5, 2) := by decide +kernel
theorem dX11_sixth_120 : decode cX11_sixth 120 = .ok (.ifCond .ne 8, 3) := by decide +kernel
theorem dX11_sixth_123 : decode cX11_sixth 123 = .ok (.lload 6, 2) := by decide +kernel
theorem dX11_sixth_125 : decode cX11_sixth 125 = .ok (.goto 16, 3) := by decide +kernel
theorem dX11_sixth_128 : decode cX11_sixth 128 = .ok (.iload 5, 2) := by decide +kernel
theorem dX11_sixth_130 : decode cX11_sixth 130 = .ok (.iconst 1, 1) := by decide +kernel
theorem dX11_sixth_131 : decode cX11_sixth 131 = .ok (.if_icmp .ne 8, 3) := by decide +kernel
theorem dX11_sixth_134 : decode cX11_sixth 134 = .ok (.lload 8, 2) := by decide +kernel
theorem dX11_sixth_136 : decode cX11_sixth 136 = .ok (.goto 5, 3) := by decide +kernel
theorem dX11_sixth_139 : decode cX11_sixth 139 = .ok (.lload 10, 2) := by decide +kernel
theorem dX11_sixth_141 : decode cX11_sixth 141 = .ok (.lreturn, 1) := by decide +kernel
theorem dX11_sixth_142 : decode cX11_sixth 142 = .ok (.lload 8, 2) := by decide +kernel
theorem dX11_sixth_144 : decode cX11_sixth 144 = .ok (.invokestatic 239, 3) := by decide +kernel
theorem dX11_sixth_147 : decode cX11_sixth 147 = .ok (.lstore 12, 2) := by decide +kernel
theorem dX11_sixth_149 : decode cX11_sixth 149 = .ok (.iload 5, 2) := by decide +kernel
theorem dX11_sixth_151 : decode cX11_sixth 151 = .ok (.iconst 3, 1) := by decide +kernel
theorem dX11_sixth_152 : decode cX11_sixth 152 = .ok (.if_icmp .ne 11, 3) := by decide +kernel
theorem dX11_sixth_155 : decode cX11_sixth 155 = .ok (.lload 6, 2) := by decide +kernel
theorem dX11_sixth_157 : decode cX11_sixth 157 = .ok (.lload 12, 2) := by decide +kernel
theorem dX11_sixth_159 : decode cX11_sixth 159 = .ok (.lsub, 1) := by decide +kernel
theorem dX11_sixth_160 : decode cX11_sixth 160 = .ok (.goto 8, 3) := by decide +kernel
theorem dX11_sixth_163 : decode cX11_sixth 163 = .ok (.lload 6, 2) := by decide +kernel
theorem dX11_sixth_165 : decode cX11_sixth 165 = .ok (.lload 12, 2) := by decide +kernel
theorem dX11_sixth_167 : decode cX11_sixth 167 = .ok (.ladd, 1) := by decide +kernel
theorem dX11_sixth_168 : decode cX11_sixth 168 = .ok (.lstore 14, 2) := by decide +kernel
theorem dX11_sixth_170 : decode cX11_sixth 170 = .ok (.lload 12, 2) := by decide +kernel
theorem dX11_sixth_172 : decode cX11_sixth 172 = .ok (.lload 12, 2) := by decide +kernel
theorem dX11_sixth_174 : decode cX11_sixth 174 = .ok (.lmul, 1) := by decide +kernel
theorem dX11_sixth_175 : decode cX11_sixth 175 = .ok (.lload 8, 2) := by decide +kernel
theorem dX11_sixth_177 : decode cX11_sixth 177 = .ok (.lcmp, 1) := by decide +kernel
theorem dX11_sixth_178 : decode cX11_sixth 178 = .ok (.ifCond .ne 21, 3) := by decide +kernel
theorem dX11_sixth_181 : decode cX11_sixth 181 = .ok (.lload 14, 2) := by decide +kernel
theorem dX11_sixth_183 : decode cX11_sixth 183 = .ok (.lload 10, 2) := by decide +kernel
theorem dX11_sixth_185 : decode cX11_sixth 185 = .ok (.lrem, 1) := by decide +kernel
theorem dX11_sixth_186 : decode cX11_sixth 186 = .ok (.lconst 0, 1) := by decide +kernel
theorem dX11_sixth_187 : decode cX11_sixth 187 = .ok (.lcmp, 1) := by decide +kernel
theorem dX11_sixth_188 : decode cX11_sixth 188 = .ok (.ifCond .ne 11, 3) := by decide +kernel
theorem dX11_sixth_191 : decode cX11_sixth 191 = .ok (.lload 14, 2) := by decide +kernel
theorem dX11_sixth_193 : decode cX11_sixth 193 = .ok (.lload 10, 2) := by decide +kernel
theorem dX11_sixth_195 : decode cX11_sixth 195 = .ok (.ldiv, 1) := by decide +kernel
theorem dX11_sixth_196 : decode cX11_sixth 196 = .ok (.goto 6, 3) := by decide +kernel
theorem dX11_sixth_199 : decode cX11_sixth 199 = .ok (.ldc2_w 243, 3) := by decide +kernel
theorem dX11_sixth_202 : decode cX11_sixth 202 = .ok (.lreturn, 1) := by decide +kernel
theorem dX11_ends_0 : decode cX11_ends 0 = .ok (.aload_n 0, 1) := by decide +kernel
theorem dX11_ends_1 : decode cX11_ends 1 = .ok (.iload_n 1, 1) := by decide +kernel
theorem dX11_ends_2 : decode cX11_ends 2 = .ok (.iload_n 2, 1) := by decide +kernel
theorem dX11_ends_3 : decode cX11_ends 3 = .ok (.invokevirtual 142, 3) := by decide +kernel
theorem dX11_ends_6 : decode cX11_ends 6 = .ok (.ifCond .eq 13, 3) := by decide +kernel
theorem dX11_ends_9 : decode cX11_ends 9 = .ok (.iload_n 3, 1) := by decide +kernel
theorem dX11_ends_10 : decode cX11_ends 10 = .ok (.i2l, 1) := by decide +kernel
theorem dX11_ends_11 : decode cX11_ends 11 = .ok (.lconst 0, 1) := by decide +kernel
theorem dX11_ends_12 : decode cX11_ends 12 = .ok (.lconst 1, 1) := by decide +kernel
theorem dX11_ends_13 : decode cX11_ends 13 = .ok (.invokestatic 64, 3) := by decide +kernel
theorem dX11_ends_16 : decode cX11_ends 16 = .ok (.ifCond .ne 5, 3) := by decide +kernel
theorem dX11_ends_19 : decode cX11_ends 19 = .ok (.iconst (-1), 1) := by decide +kernel
theorem dX11_ends_20 : decode cX11_ends 20 = .ok (.ireturn, 1) := by decide +kernel
theorem dX11_ends_21 : decode cX11_ends 21 = .ok (.lconst 0, 1) := by decide +kernel
theorem dX11_ends_22 : decode cX11_ends 22 = .ok (.lstore 4, 2) := by decide +kernel
theorem dX11_ends_24 : decode cX11_ends 24 = .ok (.ldc2_w 245, 3) := by decide +kernel
theorem dX11_ends_27 : decode cX11_ends 27 = .ok (.lstore 6, 2) := by decide +kernel
theorem dX11_ends_29 : decode cX11_ends 29 = .ok (.iconst 0, 1) := by decide +kernel
theorem dX11_ends_30 : decode cX11_ends 30 = .ok (.istore 8, 2) := by decide +kernel
theorem dX11_ends_32 : decode cX11_ends 32 = .ok (.iload 8, 2) := by decide +kernel
theorem dX11_ends_34 : decode cX11_ends 34 = .ok (.aload_n 0, 1) := by decide +kernel
theorem dX11_ends_35 : decode cX11_ends 35 = .ok (.getfield 7, 3) := by decide +kernel
theorem dX11_ends_38 : decode cX11_ends 38 = .ok (.bipush 21, 2) := by decide +kernel
theorem dX11_ends_40 : decode cX11_ends 40 = .ok (.iaload, 1) := by decide +kernel
theorem dX11_ends_41 : decode cX11_ends 41 = .ok (.if_icmp .ge 125, 3) := by decide +kernel
theorem dX11_ends_44 : decode cX11_ends 44 = .ok (.aload_n 0, 1) := by decide +kernel
theorem dX11_ends_45 : decode cX11_ends 45 = .ok (.iload_n 1, 1) := by decide +kernel
theorem dX11_ends_46 : decode cX11_ends 46 = .ok (.iload 8, 2) := by decide +kernel
theorem dX11_ends_48 : decode cX11_ends 48 = .ok (.invokevirtual 149, 3) := by decide +kernel
theorem dX11_ends_51 : decode cX11_ends 51 = .ok (.lstore 9, 2) := by decide +kernel
theorem dX11_ends_53 : decode cX11_ends 53 = .ok (.aload_n 0, 1) := by decide +kernel
theorem dX11_ends_54 : decode cX11_ends 54 = .ok (.iload_n 2, 1) := by decide +kernel
theorem dX11_ends_55 : decode cX11_ends 55 = .ok (.iload 8, 2) := by decide +kernel
theorem dX11_ends_57 : decode cX11_ends 57 = .ok (.invokevirtual 149, 3) := by decide +kernel
theorem dX11_ends_60 : decode cX11_ends 60 = .ok (.lstore 11, 2) := by decide +kernel
theorem dX11_ends_62 : decode cX11_ends 62 = .ok (.iload 8, 2) := by decide +kernel
theorem dX11_ends_64 : decode cX11_ends 64 = .ok (.iload_n 1, 1) := by decide +kernel
theorem dX11_ends_65 : decode cX11_ends 65 = .ok (.if_icmp .eq 95, 3) := by decide +kernel
theorem dX11_ends_68 : decode cX11_ends 68 = .ok (.iload 8, 2) := by decide +kernel
theorem dX11_ends_70 : decode cX11_ends 70 = .ok (.iload_n 2, 1) := by decide +kernel
theorem dX11_ends_71 : decode cX11_ends 71 = .ok (.if_icmp .eq 89, 3) := by decide +kernel
theorem dX11_ends_74 : decode cX11_ends 74 = .ok (.lload 9, 2) := by decide +kernel
theorem dX11_ends_76 : decode cX11_ends 76 = .ok (.lconst 0, 1) := by decide +kernel
theorem dX11_ends_77 : decode cX11_ends 77 = .ok (.lcmp, 1) := by decide +kernel
theorem dX11_ends_78 : decode cX11_ends 78 = .ok (.ifCond .le 82, 3) := by decide +kernel
theorem dX11_ends_81 : decode cX11_ends 81 = .ok (.lload 11, 2) := by decide +kernel
theorem dX11_ends_83 : decode cX11_ends 83 = .ok (.lconst 0, 1) := by decide +kernel
theorem dX11_ends_84 : decode cX11_ends 84 = .ok (.lcmp, 1) := by decide +kernel
theorem dX11_ends_85 : decode cX11_ends 85 = .ok (.ifCond .le 75, 3) := by decide +kernel
theorem dX11_ends_88 : decode cX11_ends 88 = .ok (.ldc2_w 162, 3) := by decide +kernel
theorem dX11_ends_91 : decode cX11_ends 91 = .ok (.lload 9, 2) := by decide +kernel
theorem dX11_ends_93 : decode cX11_ends 93 = .ok (.lmul, 1) := by decide +kernel
theorem dX11_ends_94 : decode cX11_ends 94 = .ok (.lload 11, 2) := by decide +kernel
theorem dX11_ends_96 : decode cX11_ends 96 = .ok (.lmul, 1) := by decide +kernel
theorem dX11_ends_97 : decode cX11_ends 97 = .ok (.invokestatic 239, 3) := by decide +kernel
theorem dX11_ends_100 : decode cX11_ends 100 = .ok (.lstore 13, 2) := by decide +kernel
theorem dX11_ends_102 : decode cX11_ends 102 = .ok (.lload 9, 2) := by decide +kernel
theorem dX11_ends_104 : decode cX11_ends 104 = .ok (.lload 11, 2) := by decide +kernel
theorem dX11_ends_106 : decode cX11_ends 106 = .ok (.ladd, 1) := by decide +kernel
theorem dX11_ends_107 : decode cX11_ends 107 = .ok (.lload 13, 2) := by decide +kernel
theorem dX11_ends_109 : decode cX11_ends 109 = .ok (.lsub, 1) := by decide +kernel
theorem dX11_ends_110 : decode cX11_ends 110 = .ok (.lload 4, 2) := by decide +kernel
theorem dX11_ends_112 : decode cX11_ends 112 = .ok (.lcmp, 1) := by decide +kernel
theorem dX11_ends_113 : decode cX11_ends 113 = .ok (.ifCond .le 14, 3) := by decide +kernel
theorem dX11_ends_116 : decode cX11_ends 116 = .ok (.lload 9, 2) := by decide +kernel
theorem dX11_ends_118 : decode cX11_ends 118 = .ok (.lload 11, 2) := by decide +kernel
theorem dX11_ends_120 : decode cX11_ends 120 = .ok (.ladd, 1) := by decide +kernel
theorem dX11_ends_121 : decode cX11_ends 121 = .ok (.lload 13, 2) := by decide +kernel
theorem dX11_ends_123 : decode cX11_ends 123 = .ok (.lsub, 1) := by decide +kernel
theorem dX11_ends_124 : decode cX11_ends 124 = .ok (.goto 5, 3) := by decide +kernel
theorem dX11_ends_127 : decode cX11_ends 127 = .ok (.lload 4, 2) := by decide +kernel
theorem dX11_ends_129 : decode cX11_ends 129 = .ok (.lstore 4, 2) := by decide +kernel
theorem dX11_ends_131 : decode cX11_ends 131 = .ok (.lload 9, 2) := by decide +kernel
theorem dX11_ends_133 : decode cX11_ends 133 = .ok (.lload 11, 2) := by decide +kernel
theorem dX11_ends_135 : decode cX11_ends 135 = .ok (.ladd, 1) := by decide +kernel
theorem dX11_ends_136 : decode cX11_ends 136 = .ok (.lload 13, 2) := by decide +kernel
theorem dX11_ends_138 : decode cX11_ends 138 = .ok (.ladd, 1) := by decide +kernel
theorem dX11_ends_139 : decode cX11_ends 139 = .ok (.lload 6, 2) := by decide +kernel
theorem dX11_ends_141 : decode cX11_ends 141 = .ok (.lcmp, 1) := by decide +kernel
theorem dX11_ends_142 : decode cX11_ends 142 = .ok (.ifCond .ge 14, 3) := by decide +kernel
theorem dX11_ends_145 : decode cX11_ends 145 = .ok (.lload 9, 2) := by decide +kernel
theorem dX11_ends_147 : decode cX11_ends 147 = .ok (.lload 11, 2) := by decide +kernel
theorem dX11_ends_149 : decode cX11_ends 149 = .ok (.ladd, 1) := by decide +kernel
theorem dX11_ends_150 : decode cX11_ends 150 = .ok (.lload 13, 2) := by decide +kernel
theorem dX11_ends_152 : decode cX11_ends 152 = .ok (.ladd, 1) := by decide +kernel
theorem dX11_ends_153 : decode cX11_ends 153 = .ok (.goto 5, 3) := by decide +kernel
theorem dX11_ends_156 : decode cX11_ends 156 = .ok (.lload 6, 2) := by decide +kernel
theorem dX11_ends_158 : decode cX11_ends 158 = .ok (.lstore 6, 2) := by decide +kernel
theorem dX11_ends_160 : decode cX11_ends 160 = .ok (.iinc 8 1, 3) := by decide +kernel
theorem dX11_ends_163 : decode cX11_ends 163 = .ok (.goto (-131), 3) := by decide +kernel
theorem dX11_ends_166 : decode cX11_ends 166 = .ok (.iload_n 3, 1) := by decide +kernel
theorem dX11_ends_167 : decode cX11_ends 167 = .ok (.ifCond .ne 8, 3) := by decide +kernel
theorem dX11_ends_170 : decode cX11_ends 170 = .ok (.lload 4, 2) := by decide +kernel
theorem dX11_ends_172 : decode cX11_ends 172 = .ok (.goto 5, 3) := by decide +kernel
theorem dX11_ends_175 : decode cX11_ends 175 = .ok (.lload 6, 2) := by decide +kernel
theorem dX11_ends_177 : decode cX11_ends 177 = .ok (.l2i, 1) := by decide +kernel
theorem dX11_ends_178 : decode cX11_ends 178 = .ok (.ireturn, 1) := by decide +kernel
theorem dX11_isLaid_0 : decode cX11_isLaid 0 = .ok (.aload_n 0, 1) := by decide +kernel
theorem dX11_isLaid_1 : decode cX11_isLaid 1 = .ok (.getfield 247, 3) := by decide +kernel
theorem dX11_isLaid_4 : decode cX11_isLaid 4 = .ok (.iload_n 1, 1) := by decide +kernel
theorem dX11_isLaid_5 : decode cX11_isLaid 5 = .ok (.ishr, 1) := by decide +kernel
theorem dX11_isLaid_6 : decode cX11_isLaid 6 = .ok (.iconst 1, 1) := by decide +kernel
theorem dX11_isLaid_7 : decode cX11_isLaid 7 = .ok (.iand, 1) := by decide +kernel
theorem dX11_isLaid_8 : decode cX11_isLaid 8 = .ok (.iconst 1, 1) := by decide +kernel
theorem dX11_isLaid_9 : decode cX11_isLaid 9 = .ok (.if_icmp .ne 7, 3) := by decide +kernel
theorem dX11_isLaid_12 : decode cX11_isLaid 12 = .ok (.iconst 1, 1) := by decide +kernel
theorem dX11_isLaid_13 : decode cX11_isLaid 13 = .ok (.goto 4, 3) := by decide +kernel
theorem dX11_isLaid_16 : decode cX11_isLaid 16 = .ok (.iconst 0, 1) := by decide +kernel
theorem dX11_isLaid_17 : decode cX11_isLaid 17 = .ok (.ireturn, 1) := by decide +kernel
theorem dX11_relation_0 : decode cX11_relation 0 = .ok (.ldc2_w 179, 3) := by decide +kernel
theorem dX11_relation_3 : decode cX11_relation 3 = .ok (.aload_n 0, 1) := by decide +kernel
theorem dX11_relation_4 : decode cX11_relation 4 = .ok (.iload_n 1, 1) := by decide +kernel
theorem dX11_relation_5 : decode cX11_relation 5 = .ok (.iload_n 2, 1) := by decide +kernel
theorem dX11_relation_6 : decode cX11_relation 6 = .ok (.invokevirtual 149, 3) := by decide +kernel
theorem dX11_relation_9 : decode cX11_relation 9 = .ok (.lmul, 1) := by decide +kernel
theorem dX11_relation_10 : decode cX11_relation 10 = .ok (.aload_n 0, 1) := by decide +kernel
theorem dX11_relation_11 : decode cX11_relation 11 = .ok (.iload_n 3, 1) := by decide +kernel
theorem dX11_relation_12 : decode cX11_relation 12 = .ok (.iload 4, 2) := by decide +kernel
theorem dX11_relation_14 : decode cX11_relation 14 = .ok (.invokevirtual 149, 3) := by decide +kernel
theorem dX11_relation_17 : decode cX11_relation 17 = .ok (.lmul, 1) := by decide +kernel
theorem dX11_relation_18 : decode cX11_relation 18 = .ok (.aload_n 0, 1) := by decide +kernel
theorem dX11_relation_19 : decode cX11_relation 19 = .ok (.iload_n 3, 1) := by decide +kernel
theorem dX11_relation_20 : decode cX11_relation 20 = .ok (.iload 4, 2) := by decide +kernel
theorem dX11_relation_22 : decode cX11_relation 22 = .ok (.iload_n 1, 1) := by decide +kernel
theorem dX11_relation_23 : decode cX11_relation 23 = .ok (.iload_n 2, 1) := by decide +kernel
theorem dX11_relation_24 : decode cX11_relation 24 = .ok (.invokevirtual 233, 3) := by decide +kernel
theorem dX11_relation_27 : decode cX11_relation 27 = .ok (.lsub, 1) := by decide +kernel
theorem dX11_relation_28 : decode cX11_relation 28 = .ok (.lstore 5, 2) := by decide +kernel
theorem dX11_relation_30 : decode cX11_relation 30 = .ok (.lload 5, 2) := by decide +kernel
theorem dX11_relation_32 : decode cX11_relation 32 = .ok (.lload 5, 2) := by decide +kernel
theorem dX11_relation_34 : decode cX11_relation 34 = .ok (.lmul, 1) := by decide +kernel
theorem dX11_relation_35 : decode cX11_relation 35 = .ok (.aload_n 0, 1) := by decide +kernel
theorem dX11_relation_36 : decode cX11_relation 36 = .ok (.iload_n 3, 1) := by decide +kernel
theorem dX11_relation_37 : decode cX11_relation 37 = .ok (.iload 4, 2) := by decide +kernel
theorem dX11_relation_39 : decode cX11_relation 39 = .ok (.iload_n 1, 1) := by decide +kernel
theorem dX11_relation_40 : decode cX11_relation 40 = .ok (.iload_n 2, 1) := by decide +kernel
theorem dX11_relation_41 : decode cX11_relation 41 = .ok (.invokevirtual 236, 3) := by decide +kernel
theorem dX11_relation_44 : decode cX11_relation 44 = .ok (.lcmp, 1) := by decide +kernel
theorem dX11_relation_45 : decode cX11_relation 45 = .ok (.ifCond .eq 5, 3) := by decide +kernel
theorem dX11_relation_48 : decode cX11_relation 48 = .ok (.iconst 2, 1) := by decide +kernel
theorem dX11_relation_49 : decode cX11_relation 49 = .ok (.ireturn, 1) := by decide +kernel
theorem dX11_relation_50 : decode cX11_relation 50 = .ok (.lload 5, 2) := by decide +kernel
theorem dX11_relation_52 : decode cX11_relation 52 = .ok (.invokestatic 212, 3) := by decide +kernel
theorem dX11_relation_55 : decode cX11_relation 55 = .ok (.ineg, 1) := by decide +kernel
theorem dX11_relation_56 : decode cX11_relation 56 = .ok (.ireturn, 1) := by decide +kernel
theorem dX11_layGroups_0 : decode cX11_layGroups 0 = .ok (.iconst 1, 1) := by decide +kernel
theorem dX11_layGroups_1 : decode cX11_layGroups 1 = .ok (.istore_n 3, 1) := by decide +kernel
theorem dX11_layGroups_2 : decode cX11_layGroups 2 = .ok (.iload_n 3, 1) := by decide +kernel
theorem dX11_layGroups_3 : decode cX11_layGroups 3 = .ok (.ifCond .eq 183, 3) := by decide +kernel
theorem dX11_layGroups_6 : decode cX11_layGroups 6 = .ok (.iconst 0, 1) := by decide +kernel
theorem dX11_layGroups_7 : decode cX11_layGroups 7 = .ok (.istore_n 3, 1) := by decide +kernel
theorem dX11_layGroups_8 : decode cX11_layGroups 8 = .ok (.iconst 0, 1) := by decide +kernel
theorem dX11_layGroups_9 : decode cX11_layGroups 9 = .ok (.istore 4, 2) := by decide +kernel
theorem dX11_layGroups_11 : decode cX11_layGroups 11 = .ok (.iload 4, 2) := by decide +kernel
theorem dX11_layGroups_13 : decode cX11_layGroups 13 = .ok (.aload_n 0, 1) := by decide +kernel
theorem dX11_layGroups_14 : decode cX11_layGroups 14 = .ok (.getfield 7, 3) := by decide +kernel
theorem dX11_layGroups_17 : decode cX11_layGroups 17 = .ok (.bipush 21, 2) := by decide +kernel
theorem dX11_layGroups_19 : decode cX11_layGroups 19 = .ok (.iaload, 1) := by decide +kernel
theorem dX11_layGroups_20 : decode cX11_layGroups 20 = .ok (.if_icmp .ge 163, 3) := by decide +kernel
theorem dX11_layGroups_23 : decode cX11_layGroups 23 = .ok (.iconst 0, 1) := by decide +kernel
theorem dX11_layGroups_24 : decode cX11_layGroups 24 = .ok (.istore 5, 2) := by decide +kernel
theorem dX11_layGroups_26 : decode cX11_layGroups 26 = .ok (.iload 5, 2) := by decide +kernel
theorem dX11_layGroups_28 : decode cX11_layGroups 28 = .ok (.aload_n 0, 1) := by decide +kernel
