theorem dX7_take_72 : decode cX7_take 72 = .ok (.aload_n 1, 1) := by decide +kernel
theorem dX7_take_73 : decode cX7_take 73 = .ok (.iload_n 3, 1) := by decide +kernel
theorem dX7_take_74 : decode cX7_take 74 = .ok (.iload 4, 2) := by decide +kernel
theorem dX7_take_76 : decode cX7_take 76 = .ok (.iload 5, 2) := by decide +kernel
theorem dX7_take_78 : decode cX7_take 78 = .ok (.invokevirtual 30, 3) := by decide +kernel
theorem dX7_take_81 : decode cX7_take 81 = .ok (.lmul, 1) := by decide +kernel
theorem dX7_take_82 : decode cX7_take 82 = .ok (.putfield 33, 3) := by decide +kernel
theorem dX7_take_85 : decode cX7_take 85 = .ok (.return_, 1) := by decide +kernel
theorem dX7_wholeLength_0 : decode cX7_wholeLength 0 = .ok (.aload_n 0, 1) := by decide +kernel
theorem dX7_wholeLength_1 : decode cX7_wholeLength 1 = .ok (.getfield 33, 3) := by decide +kernel
theorem dX7_wholeLength_4 : decode cX7_wholeLength 4 = .ok (.invokestatic 36, 3) := by decide +kernel
theorem dX7_wholeLength_7 : decode cX7_wholeLength 7 = .ok (.lstore_n 2, 1) := by decide +kernel
theorem dX7_wholeLength_8 : decode cX7_wholeLength 8 = .ok (.lload_n 2, 1) := by decide +kernel
theorem dX7_wholeLength_9 : decode cX7_wholeLength 9 = .ok (.lload_n 2, 1) := by decide +kernel
theorem dX7_wholeLength_10 : decode cX7_wholeLength 10 = .ok (.lmul, 1) := by decide +kernel
theorem dX7_wholeLength_11 : decode cX7_wholeLength 11 = .ok (.aload_n 0, 1) := by decide +kernel
theorem dX7_wholeLength_12 : decode cX7_wholeLength 12 = .ok (.getfield 33, 3) := by decide +kernel
theorem dX7_wholeLength_15 : decode cX7_wholeLength 15 = .ok (.lcmp, 1) := by decide +kernel
theorem dX7_wholeLength_16 : decode cX7_wholeLength 16 = .ok (.ifCond .eq 7, 3) := by decide +kernel
theorem dX7_wholeLength_19 : decode cX7_wholeLength 19 = .ok (.ldc2_w 40, 3) := by decide +kernel
theorem dX7_wholeLength_22 : decode cX7_wholeLength 22 = .ok (.lreturn, 1) := by decide +kernel
theorem dX7_wholeLength_23 : decode cX7_wholeLength 23 = .ok (.iload_n 1, 1) := by decide +kernel
theorem dX7_wholeLength_24 : decode cX7_wholeLength 24 = .ok (.ifCond .eq 12, 3) := by decide +kernel
theorem dX7_wholeLength_27 : decode cX7_wholeLength 27 = .ok (.aload_n 0, 1) := by decide +kernel
theorem dX7_wholeLength_28 : decode cX7_wholeLength 28 = .ok (.getfield 27, 3) := by decide +kernel
theorem dX7_wholeLength_31 : decode cX7_wholeLength 31 = .ok (.lload_n 2, 1) := by decide +kernel
theorem dX7_wholeLength_32 : decode cX7_wholeLength 32 = .ok (.lsub, 1) := by decide +kernel
theorem dX7_wholeLength_33 : decode cX7_wholeLength 33 = .ok (.goto 9, 3) := by decide +kernel
theorem dX7_wholeLength_36 : decode cX7_wholeLength 36 = .ok (.aload_n 0, 1) := by decide +kernel
theorem dX7_wholeLength_37 : decode cX7_wholeLength 37 = .ok (.getfield 27, 3) := by decide +kernel
theorem dX7_wholeLength_40 : decode cX7_wholeLength 40 = .ok (.lload_n 2, 1) := by decide +kernel
theorem dX7_wholeLength_41 : decode cX7_wholeLength 41 = .ok (.ladd, 1) := by decide +kernel
theorem dX7_wholeLength_42 : decode cX7_wholeLength 42 = .ok (.lstore 4, 2) := by decide +kernel
theorem dX7_wholeLength_44 : decode cX7_wholeLength 44 = .ok (.aload_n 0, 1) := by decide +kernel
theorem dX7_wholeLength_45 : decode cX7_wholeLength 45 = .ok (.getfield 17, 3) := by decide +kernel
theorem dX7_wholeLength_48 : decode cX7_wholeLength 48 = .ok (.lconst 0, 1) := by decide +kernel
theorem dX7_wholeLength_49 : decode cX7_wholeLength 49 = .ok (.lcmp, 1) := by decide +kernel
theorem dX7_wholeLength_50 : decode cX7_wholeLength 50 = .ok (.ifCond .le 15, 3) := by decide +kernel
theorem dX7_wholeLength_53 : decode cX7_wholeLength 53 = .ok (.lload 4, 2) := by decide +kernel
theorem dX7_wholeLength_55 : decode cX7_wholeLength 55 = .ok (.aload_n 0, 1) := by decide +kernel
theorem dX7_wholeLength_56 : decode cX7_wholeLength 56 = .ok (.getfield 17, 3) := by decide +kernel
theorem dX7_wholeLength_59 : decode cX7_wholeLength 59 = .ok (.lrem, 1) := by decide +kernel
theorem dX7_wholeLength_60 : decode cX7_wholeLength 60 = .ok (.lconst 0, 1) := by decide +kernel
theorem dX7_wholeLength_61 : decode cX7_wholeLength 61 = .ok (.lcmp, 1) := by decide +kernel
theorem dX7_wholeLength_62 : decode cX7_wholeLength 62 = .ok (.ifCond .eq 7, 3) := by decide +kernel
theorem dX7_wholeLength_65 : decode cX7_wholeLength 65 = .ok (.ldc2_w 40, 3) := by decide +kernel
theorem dX7_wholeLength_68 : decode cX7_wholeLength 68 = .ok (.lreturn, 1) := by decide +kernel
theorem dX7_wholeLength_69 : decode cX7_wholeLength 69 = .ok (.lload 4, 2) := by decide +kernel
theorem dX7_wholeLength_71 : decode cX7_wholeLength 71 = .ok (.aload_n 0, 1) := by decide +kernel
theorem dX7_wholeLength_72 : decode cX7_wholeLength 72 = .ok (.getfield 17, 3) := by decide +kernel
theorem dX7_wholeLength_75 : decode cX7_wholeLength 75 = .ok (.ldiv, 1) := by decide +kernel
theorem dX7_wholeLength_76 : decode cX7_wholeLength 76 = .ok (.lreturn, 1) := by decide +kernel
theorem dX8_init_0 : decode cX8_init 0 = .ok (.aload_n 0, 1) := by decide +kernel
theorem dX8_init_1 : decode cX8_init 1 = .ok (.invokespecial 3, 3) := by decide +kernel
theorem dX8_init_4 : decode cX8_init 4 = .ok (.aload_n 0, 1) := by decide +kernel
theorem dX8_init_5 : decode cX8_init 5 = .ok (.iconst 3, 1) := by decide +kernel
theorem dX8_init_6 : decode cX8_init 6 = .ok (.putfield 9, 3) := by decide +kernel
theorem dX8_init_9 : decode cX8_init 9 = .ok (.aload_n 0, 1) := by decide +kernel
theorem dX8_init_10 : decode cX8_init 10 = .ok (.bipush 49, 2) := by decide +kernel
theorem dX8_init_12 : decode cX8_init 12 = .ok (.newarray .int, 2) := by decide +kernel
theorem dX8_init_14 : decode cX8_init 14 = .ok (.putfield 15, 3) := by decide +kernel
theorem dX8_init_17 : decode cX8_init 17 = .ok (.return_, 1) := by decide +kernel
theorem dX8_reset_0 : decode cX8_reset 0 = .ok (.aload_n 0, 1) := by decide +kernel
theorem dX8_reset_1 : decode cX8_reset 1 = .ok (.iconst 3, 1) := by decide +kernel
theorem dX8_reset_2 : decode cX8_reset 2 = .ok (.putfield 9, 3) := by decide +kernel
theorem dX8_reset_5 : decode cX8_reset 5 = .ok (.aload_n 0, 1) := by decide +kernel
theorem dX8_reset_6 : decode cX8_reset 6 = .ok (.getfield 15, 3) := by decide +kernel
theorem dX8_reset_9 : decode cX8_reset 9 = .ok (.iconst 0, 1) := by decide +kernel
theorem dX8_reset_10 : decode cX8_reset 10 = .ok (.invokestatic 19, 3) := by decide +kernel
theorem dX8_reset_13 : decode cX8_reset 13 = .ok (.return_, 1) := by decide +kernel
theorem dX8_copyFrom_0 : decode cX8_copyFrom 0 = .ok (.aload_n 0, 1) := by decide +kernel
theorem dX8_copyFrom_1 : decode cX8_copyFrom 1 = .ok (.aload_n 1, 1) := by decide +kernel
theorem dX8_copyFrom_2 : decode cX8_copyFrom 2 = .ok (.getfield 9, 3) := by decide +kernel
theorem dX8_copyFrom_5 : decode cX8_copyFrom 5 = .ok (.putfield 9, 3) := by decide +kernel
theorem dX8_copyFrom_8 : decode cX8_copyFrom 8 = .ok (.aload_n 1, 1) := by decide +kernel
theorem dX8_copyFrom_9 : decode cX8_copyFrom 9 = .ok (.getfield 15, 3) := by decide +kernel
theorem dX8_copyFrom_12 : decode cX8_copyFrom 12 = .ok (.iconst 0, 1) := by decide +kernel
theorem dX8_copyFrom_13 : decode cX8_copyFrom 13 = .ok (.aload_n 0, 1) := by decide +kernel
theorem dX8_copyFrom_14 : decode cX8_copyFrom 14 = .ok (.getfield 15, 3) := by decide +kernel
theorem dX8_copyFrom_17 : decode cX8_copyFrom 17 = .ok (.iconst 0, 1) := by decide +kernel
theorem dX8_copyFrom_18 : decode cX8_copyFrom 18 = .ok (.aload_n 0, 1) := by decide +kernel
theorem dX8_copyFrom_19 : decode cX8_copyFrom 19 = .ok (.getfield 15, 3) := by decide +kernel
theorem dX8_copyFrom_22 : decode cX8_copyFrom 22 = .ok (.arraylength, 1) := by decide +kernel
theorem dX8_copyFrom_23 : decode cX8_copyFrom 23 = .ok (.invokestatic 25, 3) := by decide +kernel
theorem dX8_copyFrom_26 : decode cX8_copyFrom 26 = .ok (.return_, 1) := by decide +kernel
theorem dX8_isPlace_0 : decode cX8_isPlace 0 = .ok (.iload_n 1, 1) := by decide +kernel
theorem dX8_isPlace_1 : decode cX8_isPlace 1 = .ok (.ifCond .lt 15, 3) := by decide +kernel
theorem dX8_isPlace_4 : decode cX8_isPlace 4 = .ok (.iload_n 1, 1) := by decide +kernel
theorem dX8_isPlace_5 : decode cX8_isPlace 5 = .ok (.aload_n 0, 1) := by decide +kernel
theorem dX8_isPlace_6 : decode cX8_isPlace 6 = .ok (.getfield 9, 3) := by decide +kernel
theorem dX8_isPlace_9 : decode cX8_isPlace 9 = .ok (.if_icmp .ge 7, 3) := by decide +kernel
theorem dX8_isPlace_12 : decode cX8_isPlace 12 = .ok (.iconst 1, 1) := by decide +kernel
theorem dX8_isPlace_13 : decode cX8_isPlace 13 = .ok (.goto 4, 3) := by decide +kernel
theorem dX8_isPlace_16 : decode cX8_isPlace 16 = .ok (.iconst 0, 1) := by decide +kernel
theorem dX8_isPlace_17 : decode cX8_isPlace 17 = .ok (.ireturn, 1) := by decide +kernel
theorem dX8_areTwo_0 : decode cX8_areTwo 0 = .ok (.aload_n 0, 1) := by decide +kernel
theorem dX8_areTwo_1 : decode cX8_areTwo 1 = .ok (.iload_n 1, 1) := by decide +kernel
theorem dX8_areTwo_2 : decode cX8_areTwo 2 = .ok (.invokevirtual 31, 3) := by decide +kernel
theorem dX8_areTwo_5 : decode cX8_areTwo 5 = .ok (.ifCond .eq 20, 3) := by decide +kernel
theorem dX8_areTwo_8 : decode cX8_areTwo 8 = .ok (.aload_n 0, 1) := by decide +kernel
theorem dX8_areTwo_9 : decode cX8_areTwo 9 = .ok (.iload_n 2, 1) := by decide +kernel
theorem dX8_areTwo_10 : decode cX8_areTwo 10 = .ok (.invokevirtual 31, 3) := by decide +kernel
theorem dX8_areTwo_13 : decode cX8_areTwo 13 = .ok (.ifCond .eq 12, 3) := by decide +kernel
theorem dX8_areTwo_16 : decode cX8_areTwo 16 = .ok (.iload_n 1, 1) := by decide +kernel
theorem dX8_areTwo_17 : decode cX8_areTwo 17 = .ok (.iload_n 2, 1) := by decide +kernel
theorem dX8_areTwo_18 : decode cX8_areTwo 18 = .ok (.if_icmp .eq 7, 3) := by decide +kernel
theorem dX8_areTwo_21 : decode cX8_areTwo 21 = .ok (.iconst 1, 1) := by decide +kernel
theorem dX8_areTwo_22 : decode cX8_areTwo 22 = .ok (.goto 4, 3) := by decide +kernel
theorem dX8_areTwo_25 : decode cX8_areTwo 25 = .ok (.iconst 0, 1) := by decide +kernel
theorem dX8_areTwo_26 : decode cX8_areTwo 26 = .ok (.ireturn, 1) := by decide +kernel
theorem dX8_areThree_0 : decode cX8_areThree 0 = .ok (.aload_n 0, 1) := by decide +kernel
theorem dX8_areThree_1 : decode cX8_areThree 1 = .ok (.iload_n 1, 1) := by decide +kernel
theorem dX8_areThree_2 : decode cX8_areThree 2 = .ok (.iload_n 2, 1) := by decide +kernel
theorem dX8_areThree_3 : decode cX8_areThree 3 = .ok (.invokevirtual 35, 3) := by decide +kernel
theorem dX8_areThree_6 : decode cX8_areThree 6 = .ok (.ifCond .eq 21, 3) := by decide +kernel
theorem dX8_areThree_9 : decode cX8_areThree 9 = .ok (.aload_n 0, 1) := by decide +kernel
theorem dX8_areThree_10 : decode cX8_areThree 10 = .ok (.iload_n 1, 1) := by decide +kernel
theorem dX8_areThree_11 : decode cX8_areThree 11 = .ok (.iload_n 3, 1) := by decide +kernel
theorem dX8_areThree_12 : decode cX8_areThree 12 = .ok (.invokevirtual 35, 3) := by decide +kernel
theorem dX8_areThree_15 : decode cX8_areThree 15 = .ok (.ifCond .eq 12, 3) := by decide +kernel
theorem dX8_areThree_18 : decode cX8_areThree 18 = .ok (.iload_n 2, 1) := by decide +kernel
theorem dX8_areThree_19 : decode cX8_areThree 19 = .ok (.iload_n 3, 1) := by decide +kernel
theorem dX8_areThree_20 : decode cX8_areThree 20 = .ok (.if_icmp .eq 7, 3) := by decide +kernel
theorem dX8_areThree_23 : decode cX8_areThree 23 = .ok (.iconst 1, 1) := by decide +kernel
theorem dX8_areThree_24 : decode cX8_areThree 24 = .ok (.goto 4, 3) := by decide +kernel
theorem dX8_areThree_27 : decode cX8_areThree 27 = .ok (.iconst 0, 1) := by decide +kernel
theorem dX8_areThree_28 : decode cX8_areThree 28 = .ok (.ireturn, 1) := by decide +kernel
theorem dX8_areFour_0 : decode cX8_areFour 0 = .ok (.aload_n 0, 1) := by decide +kernel
theorem dX8_areFour_1 : decode cX8_areFour 1 = .ok (.iload_n 1, 1) := by decide +kernel
theorem dX8_areFour_2 : decode cX8_areFour 2 = .ok (.iload_n 2, 1) := by decide +kernel
theorem dX8_areFour_3 : decode cX8_areFour 3 = .ok (.iload_n 3, 1) := by decide +kernel
theorem dX8_areFour_4 : decode cX8_areFour 4 = .ok (.invokevirtual 39, 3) := by decide +kernel
theorem dX8_areFour_7 : decode cX8_areFour 7 = .ok (.ifCond .eq 24, 3) := by decide +kernel
theorem dX8_areFour_10 : decode cX8_areFour 10 = .ok (.aload_n 0, 1) := by decide +kernel
theorem dX8_areFour_11 : decode cX8_areFour 11 = .ok (.iload_n 1, 1) := by decide +kernel
theorem dX8_areFour_12 : decode cX8_areFour 12 = .ok (.iload_n 2, 1) := by decide +kernel
theorem dX8_areFour_13 : decode cX8_areFour 13 = .ok (.iload 4, 2) := by decide +kernel
theorem dX8_areFour_15 : decode cX8_areFour 15 = .ok (.invokevirtual 39, 3) := by decide +kernel
theorem dX8_areFour_18 : decode cX8_areFour 18 = .ok (.ifCond .eq 13, 3) := by decide +kernel
theorem dX8_areFour_21 : decode cX8_areFour 21 = .ok (.iload_n 3, 1) := by decide +kernel
theorem dX8_areFour_22 : decode cX8_areFour 22 = .ok (.iload 4, 2) := by decide +kernel
theorem dX8_areFour_24 : decode cX8_areFour 24 = .ok (.if_icmp .eq 7, 3) := by decide +kernel
theorem dX8_areFour_27 : decode cX8_areFour 27 = .ok (.iconst 1, 1) := by decide +kernel
theorem dX8_areFour_28 : decode cX8_areFour 28 = .ok (.goto 4, 3) := by decide +kernel
theorem dX8_areFour_31 : decode cX8_areFour 31 = .ok (.iconst 0, 1) := by decide +kernel
theorem dX8_areFour_32 : decode cX8_areFour 32 = .ok (.ireturn, 1) := by decide +kernel
theorem dX8_square_0 : decode cX8_square 0 = .ok (.iload_n 1, 1) := by decide +kernel
theorem dX8_square_1 : decode cX8_square 1 = .ok (.ifCond .lt 19, 3) := by decide +kernel
theorem dX8_square_4 : decode cX8_square 4 = .ok (.iload_n 1, 1) := by decide +kernel
theorem dX8_square_5 : decode cX8_square 5 = .ok (.bipush 7, 2) := by decide +kernel
theorem dX8_square_7 : decode cX8_square 7 = .ok (.if_icmp .ge 13, 3) := by decide +kernel
theorem dX8_square_10 : decode cX8_square 10 = .ok (.iload_n 2, 1) := by decide +kernel
theorem dX8_square_11 : decode cX8_square 11 = .ok (.ifCond .lt 9, 3) := by decide +kernel
theorem dX8_square_14 : decode cX8_square 14 = .ok (.iload_n 2, 1) := by decide +kernel
theorem dX8_square_15 : decode cX8_square 15 = .ok (.bipush 7, 2) := by decide +kernel
theorem dX8_square_17 : decode cX8_square 17 = .ok (.if_icmp .lt 5, 3) := by decide +kernel
theorem dX8_square_20 : decode cX8_square 20 = .ok (.iconst 0, 1) := by decide +kernel
theorem dX8_square_21 : decode cX8_square 21 = .ok (.ireturn, 1) := by decide +kernel
theorem dX8_square_22 : decode cX8_square 22 = .ok (.aload_n 0, 1) := by decide +kernel
theorem dX8_square_23 : decode cX8_square 23 = .ok (.getfield 15, 3) := by decide +kernel
theorem dX8_square_26 : decode cX8_square 26 = .ok (.iload_n 1, 1) := by decide +kernel
theorem dX8_square_27 : decode cX8_square 27 = .ok (.bipush 7, 2) := by decide +kernel
theorem dX8_square_29 : decode cX8_square 29 = .ok (.imul, 1) := by decide +kernel
theorem dX8_square_30 : decode cX8_square 30 = .ok (.iload_n 2, 1) := by decide +kernel
theorem dX8_square_31 : decode cX8_square 31 = .ok (.iadd, 1) := by decide +kernel
theorem dX8_square_32 : decode cX8_square 32 = .ok (.iaload, 1) := by decide +kernel
theorem dX8_square_33 : decode cX8_square 33 = .ok (.ireturn, 1) := by decide +kernel
theorem dX8_toldOrNone_0 : decode cX8_toldOrNone 0 = .ok (.aload_n 0, 1) := by decide +kernel
theorem dX8_toldOrNone_1 : decode cX8_toldOrNone 1 = .ok (.iload_n 1, 1) := by decide +kernel
theorem dX8_toldOrNone_2 : decode cX8_toldOrNone 2 = .ok (.iload_n 2, 1) := by decide +kernel
theorem dX8_toldOrNone_3 : decode cX8_toldOrNone 3 = .ok (.invokevirtual 43, 3) := by decide +kernel
theorem dX8_toldOrNone_6 : decode cX8_toldOrNone 6 = .ok (.istore_n 3, 1) := by decide +kernel
theorem dX8_toldOrNone_7 : decode cX8_toldOrNone 7 = .ok (.iload_n 3, 1) := by decide +kernel
theorem dX8_toldOrNone_8 : decode cX8_toldOrNone 8 = .ok (.ifCond .ne 8, 3) := by decide +kernel
theorem dX8_toldOrNone_11 : decode cX8_toldOrNone 11 = .ok (.bipush (-4), 2) := by decide +kernel
theorem dX8_toldOrNone_13 : decode cX8_toldOrNone 13 = .ok (.goto 4, 3) := by decide +kernel
theorem dX8_toldOrNone_16 : decode cX8_toldOrNone 16 = .ok (.iload_n 3, 1) := by decide +kernel
theorem dX8_toldOrNone_17 : decode cX8_toldOrNone 17 = .ok (.ireturn, 1) := by decide +kernel
theorem dX8_put_0 : decode cX8_put 0 = .ok (.iload_n 1, 1) := by decide +kernel
theorem dX8_put_1 : decode cX8_put 1 = .ok (.ifCond .lt 24, 3) := by decide +kernel
theorem dX8_put_4 : decode cX8_put 4 = .ok (.iload_n 1, 1) := by decide +kernel
theorem dX8_put_5 : decode cX8_put 5 = .ok (.bipush 7, 2) := by decide +kernel
theorem dX8_put_7 : decode cX8_put 7 = .ok (.if_icmp .ge 18, 3) := by decide +kernel
theorem dX8_put_10 : decode cX8_put 10 = .ok (.iload_n 2, 1) := by decide +kernel
theorem dX8_put_11 : decode cX8_put 11 = .ok (.ifCond .lt 14, 3) := by decide +kernel
theorem dX8_put_14 : decode cX8_put 14 = .ok (.iload_n 2, 1) := by decide +kernel
theorem dX8_put_15 : decode cX8_put 15 = .ok (.bipush 7, 2) := by decide +kernel
theorem dX8_put_17 : decode cX8_put 17 = .ok (.if_icmp .ge 8, 3) := by decide +kernel
theorem dX8_put_20 : decode cX8_put 20 = .ok (.iload_n 1, 1) := by decide +kernel
theorem dX8_put_21 : decode cX8_put 21 = .ok (.iload_n 2, 1) := by decide +kernel
theorem dX8_put_22 : decode cX8_put 22 = .ok (.if_icmp .ne 4, 3) := by decide +kernel
theorem dX8_put_25 : decode cX8_put 25 = .ok (.return_, 1) := by decide +kernel
theorem dX8_put_26 : decode cX8_put 26 = .ok (.aload_n 0, 1) := by decide +kernel
theorem dX8_put_27 : decode cX8_put 27 = .ok (.getfield 15, 3) := by decide +kernel
theorem dX8_put_30 : decode cX8_put 30 = .ok (.iload_n 1, 1) := by decide +kernel
theorem dX8_put_31 : decode cX8_put 31 = .ok (.bipush 7, 2) := by decide +kernel
theorem dX8_put_33 : decode cX8_put 33 = .ok (.imul, 1) := by decide +kernel
theorem dX8_put_34 : decode cX8_put 34 = .ok (.iload_n 2, 1) := by decide +kernel
theorem dX8_put_35 : decode cX8_put 35 = .ok (.iadd, 1) := by decide +kernel
theorem dX8_put_36 : decode cX8_put 36 = .ok (.iload_n 3, 1) := by decide +kernel
theorem dX8_put_37 : decode cX8_put 37 = .ok (.iastore, 1) := by decide +kernel
theorem dX8_put_38 : decode cX8_put 38 = .ok (.aload_n 0, 1) := by decide +kernel
theorem dX8_put_39 : decode cX8_put 39 = .ok (.getfield 15, 3) := by decide +kernel
theorem dX8_put_42 : decode cX8_put 42 = .ok (.iload_n 2, 1) := by decide +kernel
theorem dX8_put_43 : decode cX8_put 43 = .ok (.bipush 7, 2) := by decide +kernel
theorem dX8_put_45 : decode cX8_put 45 = .ok (.imul, 1) := by decide +kernel
theorem dX8_put_46 : decode cX8_put 46 = .ok (.iload_n 1, 1) := by decide +kernel
theorem dX8_put_47 : decode cX8_put 47 = .ok (.iadd, 1) := by decide +kernel
theorem dX8_put_48 : decode cX8_put 48 = .ok (.iload_n 3, 1) := by decide +kernel
theorem dX8_put_49 : decode cX8_put 49 = .ok (.iastore, 1) := by decide +kernel
theorem dX8_put_50 : decode cX8_put 50 = .ok (.return_, 1) := by decide +kernel
theorem dX8_countTold_0 : decode cX8_countTold 0 = .ok (.iconst 0, 1) := by decide +kernel
theorem dX8_countTold_1 : decode cX8_countTold 1 = .ok (.istore_n 1, 1) := by decide +kernel
theorem dX8_countTold_2 : decode cX8_countTold 2 = .ok (.iconst 1, 1) := by decide +kernel
theorem dX8_countTold_3 : decode cX8_countTold 3 = .ok (.istore_n 2, 1) := by decide +kernel
theorem dX8_countTold_4 : decode cX8_countTold 4 = .ok (.iload_n 2, 1) := by decide +kernel
theorem dX8_countTold_5 : decode cX8_countTold 5 = .ok (.aload_n 0, 1) := by decide +kernel
theorem dX8_countTold_6 : decode cX8_countTold 6 = .ok (.getfield 9, 3) := by decide +kernel
theorem dX8_countTold_9 : decode cX8_countTold 9 = .ok (.if_icmp .ge 42, 3) := by decide +kernel
theorem dX8_countTold_12 : decode cX8_countTold 12 = .ok (.iconst 0, 1) := by decide +kernel
theorem dX8_countTold_13 : decode cX8_countTold 13 = .ok (.istore_n 3, 1) := by decide +kernel
theorem dX8_countTold_14 : decode cX8_countTold 14 = .ok (.iload_n 3, 1) := by decide +kernel
theorem dX8_countTold_15 : decode cX8_countTold 15 = .ok (.iload_n 2, 1) := by decide +kernel
theorem dX8_countTold_16 : decode cX8_countTold 16 = .ok (.if_icmp .ge 29, 3) := by decide +kernel
theorem dX8_countTold_19 : decode cX8_countTold 19 = .ok (.iload_n 1, 1) := by decide +kernel
theorem dX8_countTold_20 : decode cX8_countTold 20 = .ok (.aload_n 0, 1) := by decide +kernel
theorem dX8_countTold_21 : decode cX8_countTold 21 = .ok (.iload_n 3, 1) := by decide +kernel
theorem dX8_countTold_22 : decode cX8_countTold 22 = .ok (.iload_n 2, 1) := by decide +kernel
theorem dX8_countTold_23 : decode cX8_countTold 23 = .ok (.invokevirtual 43, 3) := by decide +kernel
theorem dX8_countTold_26 : decode cX8_countTold 26 = .ok (.ifCond .le 7, 3) := by decide +kernel
theorem dX8_countTold_29 : decode cX8_countTold 29 = .ok (.iconst 1, 1) := by decide +kernel
theorem dX8_countTold_30 : decode cX8_countTold 30 = .ok (.goto 4, 3) := by decide +kernel
theorem dX8_countTold_33 : decode cX8_countTold 33 = .ok (.iconst 0, 1) := by decide +kernel
theorem dX8_countTold_34 : decode cX8_countTold 34 = .ok (.invokestatic 47, 3) := by decide +kernel
theorem dX8_countTold_37 : decode cX8_countTold 37 = .ok (.iadd, 1) := by decide +kernel
theorem dX8_countTold_38 : decode cX8_countTold 38 = .ok (.istore_n 1, 1) := by decide +kernel
theorem dX8_countTold_39 : decode cX8_countTold 39 = .ok (.iinc 3 1, 3) := by decide +kernel
theorem dX8_countTold_42 : decode cX8_countTold 42 = .ok (.goto (-28), 3) := by decide +kernel
theorem dX8_countTold_45 : decode cX8_countTold 45 = .ok (.iinc 2 1, 3) := by decide +kernel
theorem dX8_countTold_48 : decode cX8_countTold 48 = .ok (.goto (-44), 3) := by decide +kernel
theorem dX8_countTold_51 : decode cX8_countTold 51 = .ok (.iload_n 1, 1) := by decide +kernel
theorem dX8_countTold_52 : decode cX8_countTold 52 = .ok (.ireturn, 1) := by decide +kernel
theorem dX8_isToldThree_0 : decode cX8_isToldThree 0 = .ok (.aload_n 0, 1) := by decide +kernel
theorem dX8_isToldThree_1 : decode cX8_isToldThree 1 = .ok (.iload_n 1, 1) := by decide +kernel
theorem dX8_isToldThree_2 : decode cX8_isToldThree 2 = .ok (.iload_n 2, 1) := by decide +kernel
theorem dX8_isToldThree_3 : decode cX8_isToldThree 3 = .ok (.invokevirtual 43, 3) := by decide +kernel
theorem dX8_isToldThree_6 : decode cX8_isToldThree 6 = .ok (.ifCond .le 25, 3) := by decide +kernel
theorem dX8_isToldThree_9 : decode cX8_isToldThree 9 = .ok (.aload_n 0, 1) := by decide +kernel
theorem dX8_isToldThree_10 : decode cX8_isToldThree 10 = .ok (.iload_n 1, 1) := by decide +kernel
theorem dX8_isToldThree_11 : decode cX8_isToldThree 11 = .ok (.iload_n 3, 1) := by decide +kernel
theorem dX8_isToldThree_12 : decode cX8_isToldThree 12 = .ok (.invokevirtual 43, 3) := by decide +kernel
theorem dX8_isToldThree_15 : decode cX8_isToldThree 15 = .ok (.ifCond .le 16, 3) := by decide +kernel
theorem dX8_isToldThree_18 : decode cX8_isToldThree 18 = .ok (.aload_n 0, 1) := by decide +kernel
theorem dX8_isToldThree_19 : decode cX8_isToldThree 19 = .ok (.iload_n 2, 1) := by decide +kernel
theorem dX8_isToldThree_20 : decode cX8_isToldThree 20 = .ok (.iload_n 3, 1) := by decide +kernel
theorem dX8_isToldThree_21 : decode cX8_isToldThree 21 = .ok (.invokevirtual 43, 3) := by decide +kernel
theorem dX8_isToldThree_24 : decode cX8_isToldThree 24 = .ok (.ifCond .le 7, 3) := by decide +kernel
theorem dX8_isToldThree_27 : decode cX8_isToldThree 27 = .ok (.iconst 1, 1) := by decide +kernel
theorem dX8_isToldThree_28 : decode cX8_isToldThree 28 = .ok (.goto 4, 3) := by decide +kernel
theorem dX8_isToldThree_31 : decode cX8_isToldThree 31 = .ok (.iconst 0, 1) := by decide +kernel
theorem dX8_isToldThree_32 : decode cX8_isToldThree 32 = .ok (.ireturn, 1) := by decide +kernel
theorem dX8_isToldFour_0 : decode cX8_isToldFour 0 = .ok (.aload_n 0, 1) := by decide +kernel
theorem dX8_isToldFour_1 : decode cX8_isToldFour 1 = .ok (.iload_n 1, 1) := by decide +kernel
theorem dX8_isToldFour_2 : decode cX8_isToldFour 2 = .ok (.iload_n 2, 1) := by decide +kernel
theorem dX8_isToldFour_3 : decode cX8_isToldFour 3 = .ok (.iload_n 3, 1) := by decide +kernel
theorem dX8_isToldFour_4 : decode cX8_isToldFour 4 = .ok (.invokevirtual 51, 3) := by decide +kernel
theorem dX8_isToldFour_7 : decode cX8_isToldFour 7 = .ok (.ifCond .eq 28, 3) := by decide +kernel
theorem dX8_isToldFour_10 : decode cX8_isToldFour 10 = .ok (.aload_n 0, 1) := by decide +kernel
theorem dX8_isToldFour_11 : decode cX8_isToldFour 11 = .ok (.iload_n 1, 1) := by decide +kernel
theorem dX8_isToldFour_12 : decode cX8_isToldFour 12 = .ok (.iload_n 2, 1) := by decide +kernel
theorem dX8_isToldFour_13 : decode cX8_isToldFour 13 = .ok (.iload 4, 2) := by decide +kernel
theorem dX8_isToldFour_15 : decode cX8_isToldFour 15 = .ok (.invokevirtual 51, 3) := by decide +kernel
theorem dX8_isToldFour_18 : decode cX8_isToldFour 18 = .ok (.ifCond .eq 17, 3) := by decide +kernel
theorem dX8_isToldFour_21 : decode cX8_isToldFour 21 = .ok (.aload_n 0, 1) := by decide +kernel
theorem dX8_isToldFour_22 : decode cX8_isToldFour 22 = .ok (.iload_n 3, 1) := by decide +kernel
theorem dX8_isToldFour_23 : decode cX8_isToldFour 23 = .ok (.iload 4, 2) := by decide +kernel
theorem dX8_isToldFour_25 : decode cX8_isToldFour 25 = .ok (.invokevirtual 43, 3) := by decide +kernel
theorem dX8_isToldFour_28 : decode cX8_isToldFour 28 = .ok (.ifCond .le 7, 3) := by decide +kernel
theorem dX8_isToldFour_31 : decode cX8_isToldFour 31 = .ok (.iconst 1, 1) := by decide +kernel
theorem dX8_isToldFour_32 : decode cX8_isToldFour 32 = .ok (.goto 4, 3) := by decide +kernel
theorem dX8_isToldFour_35 : decode cX8_isToldFour 35 = .ok (.iconst 0, 1) := by decide +kernel
theorem dX8_isToldFour_36 : decode cX8_isToldFour 36 = .ok (.ireturn, 1) := by decide +kernel
theorem dX8_leaning_0 : decode cX8_leaning 0 = .ok (.aload_n 0, 1) := by decide +kernel
theorem dX8_leaning_1 : decode cX8_leaning 1 = .ok (.iload_n 1, 1) := by decide +kernel
theorem dX8_leaning_2 : decode cX8_leaning 2 = .ok (.iload_n 2, 1) := by decide +kernel
theorem dX8_leaning_3 : decode cX8_leaning 3 = .ok (.invokevirtual 43, 3) := by decide +kernel
theorem dX8_leaning_6 : decode cX8_leaning 6 = .ok (.i2l, 1) := by decide +kernel
theorem dX8_leaning_7 : decode cX8_leaning 7 = .ok (.aload_n 0, 1) := by decide +kernel
theorem dX8_leaning_8 : decode cX8_leaning 8 = .ok (.iload_n 1, 1) := by decide +kernel
theorem dX8_leaning_9 : decode cX8_leaning 9 = .ok (.iload_n 3, 1) := by decide +kernel
theorem dX8_leaning_10 : decode cX8_leaning 10 = .ok (.invokevirtual 43, 3) := by decide +kernel
theorem dX8_leaning_13 : decode cX8_leaning 13 = .ok (.i2l, 1) := by decide +kernel
theorem dX8_leaning_14 : decode cX8_leaning 14 = .ok (.ladd, 1) := by decide +kernel
theorem dX8_leaning_15 : decode cX8_leaning 15 = .ok (.aload_n 0, 1) := by decide +kernel
theorem dX8_leaning_16 : decode cX8_leaning 16 = .ok (.iload_n 2, 1) := by decide +kernel
theorem dX8_leaning_17 : decode cX8_leaning 17 = .ok (.iload_n 3, 1) := by decide +kernel
theorem dX8_leaning_18 : decode cX8_leaning 18 = .ok (.invokevirtual 43, 3) := by decide +kernel
theorem dX8_leaning_21 : decode cX8_leaning 21 = .ok (.i2l, 1) := by decide +kernel
theorem dX8_leaning_22 : decode cX8_leaning 22 = .ok (.lsub, 1) := by decide +kernel
theorem dX8_leaning_23 : decode cX8_leaning 23 = .ok (.lreturn, 1) := by decide +kernel
theorem dX8_wideOf_0 : decode cX8_wideOf 0 = .ok (.aload_n 0, 1) := by decide +kernel
theorem dX8_wideOf_1 : decode cX8_wideOf 1 = .ok (.iload_n 1, 1) := by decide +kernel
theorem dX8_wideOf_2 : decode cX8_wideOf 2 = .ok (.iload_n 2, 1) := by decide +kernel
theorem dX8_wideOf_3 : decode cX8_wideOf 3 = .ok (.invokevirtual 43, 3) := by decide +kernel
theorem dX8_wideOf_6 : decode cX8_wideOf 6 = .ok (.i2l, 1) := by decide +kernel
theorem dX8_wideOf_7 : decode cX8_wideOf 7 = .ok (.aload_n 0, 1) := by decide +kernel
theorem dX8_wideOf_8 : decode cX8_wideOf 8 = .ok (.iload_n 1, 1) := by decide +kernel
theorem dX8_wideOf_9 : decode cX8_wideOf 9 = .ok (.iload_n 3, 1) := by decide +kernel
theorem dX8_wideOf_10 : decode cX8_wideOf 10 = .ok (.invokevirtual 43, 3) := by decide +kernel
theorem dX8_wideOf_13 : decode cX8_wideOf 13 = .ok (.i2l, 1) := by decide +kernel
theorem dX8_wideOf_14 : decode cX8_wideOf 14 = .ok (.aload_n 0, 1) := by decide +kernel
theorem dX8_wideOf_15 : decode cX8_wideOf 15 = .ok (.iload_n 2, 1) := by decide +kernel
theorem dX8_wideOf_16 : decode cX8_wideOf 16 = .ok (.iload_n 3, 1) := by decide +kernel
theorem dX8_wideOf_17 : decode cX8_wideOf 17 = .ok (.invokevirtual 43, 3) := by decide +kernel
theorem dX8_wideOf_20 : decode cX8_wideOf 20 = .ok (.i2l, 1) := by decide +kernel
theorem dX8_wideOf_21 : decode cX8_wideOf 21 = .ok (.invokestatic 54, 3) := by decide +kernel
theorem dX8_wideOf_24 : decode cX8_wideOf 24 = .ok (.lreturn, 1) := by decide +kernel
theorem dX8_canBeThree_0 : decode cX8_canBeThree 0 = .ok (.aload_n 0, 1) := by decide +kernel
theorem dX8_canBeThree_1 : decode cX8_canBeThree 1 = .ok (.iload_n 1, 1) := by decide +kernel
theorem dX8_canBeThree_2 : decode cX8_canBeThree 2 = .ok (.iload_n 2, 1) := by decide +kernel
theorem dX8_canBeThree_3 : decode cX8_canBeThree 3 = .ok (.iload_n 3, 1) := by decide +kernel
theorem dX8_canBeThree_4 : decode cX8_canBeThree 4 = .ok (.invokevirtual 58, 3) := by decide +kernel
theorem dX8_canBeThree_7 : decode cX8_canBeThree 7 = .ok (.lconst 0, 1) := by decide +kernel
theorem dX8_canBeThree_8 : decode cX8_canBeThree 8 = .ok (.lcmp, 1) := by decide +kernel
theorem dX8_canBeThree_9 : decode cX8_canBeThree 9 = .ok (.ifCond .lt 7, 3) := by decide +kernel
theorem dX8_canBeThree_12 : decode cX8_canBeThree 12 = .ok (.iconst 1, 1) := by decide +kernel
theorem dX8_canBeThree_13 : decode cX8_canBeThree 13 = .ok (.goto 4, 3) := by decide +kernel
theorem dX8_canBeThree_16 : decode cX8_canBeThree 16 = .ok (.iconst 0, 1) := by decide +kernel
theorem dX8_canBeThree_17 : decode cX8_canBeThree 17 = .ok (.ireturn, 1) := by decide +kernel
theorem dX8_canBeFour_0 : decode cX8_canBeFour 0 = .ok (.aload_n 0, 1) := by decide +kernel
theorem dX8_canBeFour_1 : decode cX8_canBeFour 1 = .ok (.iload_n 1, 1) := by decide +kernel
theorem dX8_canBeFour_2 : decode cX8_canBeFour 2 = .ok (.iload_n 2, 1) := by decide +kernel
theorem dX8_canBeFour_3 : decode cX8_canBeFour 3 = .ok (.iload_n 3, 1) := by decide +kernel
theorem dX8_canBeFour_4 : decode cX8_canBeFour 4 = .ok (.invokevirtual 62, 3) := by decide +kernel
theorem dX8_canBeFour_7 : decode cX8_canBeFour 7 = .ok (.ifCond .eq 52, 3) := by decide +kernel
theorem dX8_canBeFour_10 : decode cX8_canBeFour 10 = .ok (.aload_n 0, 1) := by decide +kernel
theorem dX8_canBeFour_11 : decode cX8_canBeFour 11 = .ok (.iload_n 1, 1) := by decide +kernel
theorem dX8_canBeFour_12 : decode cX8_canBeFour 12 = .ok (.iload_n 2, 1) := by decide +kernel
theorem dX8_canBeFour_13 : decode cX8_canBeFour 13 = .ok (.iload 4, 2) := by decide +kernel
theorem dX8_canBeFour_15 : decode cX8_canBeFour 15 = .ok (.invokevirtual 62, 3) := by decide +kernel
theorem dX8_canBeFour_18 : decode cX8_canBeFour 18 = .ok (.ifCond .eq 41, 3) := by decide +kernel
theorem dX8_canBeFour_21 : decode cX8_canBeFour 21 = .ok (.aload_n 0, 1) := by decide +kernel
theorem dX8_canBeFour_22 : decode cX8_canBeFour 22 = .ok (.iload_n 1, 1) := by decide +kernel
theorem dX8_canBeFour_23 : decode cX8_canBeFour 23 = .ok (.iload_n 3, 1) := by decide +kernel
theorem dX8_canBeFour_24 : decode cX8_canBeFour 24 = .ok (.iload 4, 2) := by decide +kernel
theorem dX8_canBeFour_26 : decode cX8_canBeFour 26 = .ok (.invokevirtual 62, 3) := by decide +kernel
theorem dX8_canBeFour_29 : decode cX8_canBeFour 29 = .ok (.ifCond .eq 30, 3) := by decide +kernel
theorem dX8_canBeFour_32 : decode cX8_canBeFour 32 = .ok (.aload_n 0, 1) := by decide +kernel
theorem dX8_canBeFour_33 : decode cX8_canBeFour 33 = .ok (.iload_n 2, 1) := by decide +kernel
theorem dX8_canBeFour_34 : decode cX8_canBeFour 34 = .ok (.iload_n 3, 1) := by decide +kernel
theorem dX8_canBeFour_35 : decode cX8_canBeFour 35 = .ok (.iload 4, 2) := by decide +kernel
theorem dX8_canBeFour_37 : decode cX8_canBeFour 37 = .ok (.invokevirtual 62, 3) := by decide +kernel
theorem dX8_canBeFour_40 : decode cX8_canBeFour 40 = .ok (.ifCond .eq 19, 3) := by decide +kernel
theorem dX8_canBeFour_43 : decode cX8_canBeFour 43 = .ok (.aload_n 0, 1) := by decide +kernel
theorem dX8_canBeFour_44 : decode cX8_canBeFour 44 = .ok (.iload_n 1, 1) := by decide +kernel
theorem dX8_canBeFour_45 : decode cX8_canBeFour 45 = .ok (.iload_n 2, 1) := by decide +kernel
theorem dX8_canBeFour_46 : decode cX8_canBeFour 46 = .ok (.iload_n 3, 1) := by decide +kernel
theorem dX8_canBeFour_47 : decode cX8_canBeFour 47 = .ok (.iload 4, 2) := by decide +kernel
theorem dX8_canBeFour_49 : decode cX8_canBeFour 49 = .ok (.invokevirtual 65, 3) := by decide +kernel
theorem dX8_canBeFour_52 : decode cX8_canBeFour 52 = .ok (.ifCond .eq 7, 3) := by decide +kernel
theorem dX8_canBeFour_55 : decode cX8_canBeFour 55 = .ok (.iconst 1, 1) := by decide +kernel
theorem dX8_canBeFour_56 : decode cX8_canBeFour 56 = .ok (.goto 4, 3) := by decide +kernel
theorem dX8_canBeFour_59 : decode cX8_canBeFour 59 = .ok (.iconst 0, 1) := by decide +kernel
theorem dX8_canBeFour_60 : decode cX8_canBeFour 60 = .ok (.ireturn, 1) := by decide +kernel
theorem dX8_isFlatFour_0 : decode cX8_isFlatFour 0 = .ok (.ldc2_w 69, 3) := by decide +kernel
theorem dX8_isFlatFour_3 : decode cX8_isFlatFour 3 = .ok (.aload_n 0, 1) := by decide +kernel
theorem dX8_isFlatFour_4 : decode cX8_isFlatFour 4 = .ok (.iload_n 1, 1) := by decide +kernel
theorem dX8_isFlatFour_5 : decode cX8_isFlatFour 5 = .ok (.iload_n 2, 1) := by decide +kernel
theorem dX8_isFlatFour_6 : decode cX8_isFlatFour 6 = .ok (.invokevirtual 43, 3) := by decide +kernel
theorem dX8_isFlatFour_9 : decode cX8_isFlatFour 9 = .ok (.i2l, 1) := by decide +kernel
theorem dX8_isFlatFour_10 : decode cX8_isFlatFour 10 = .ok (.lmul, 1) := by decide +kernel
theorem dX8_isFlatFour_11 : decode cX8_isFlatFour 11 = .ok (.lstore 5, 2) := by decide +kernel
theorem dX8_isFlatFour_13 : decode cX8_isFlatFour 13 = .ok (.ldc2_w 69, 3) := by decide +kernel
theorem dX8_isFlatFour_16 : decode cX8_isFlatFour 16 = .ok (.aload_n 0, 1) := by decide +kernel
theorem dX8_isFlatFour_17 : decode cX8_isFlatFour 17 = .ok (.iload_n 1, 1) := by decide +kernel
theorem dX8_isFlatFour_18 : decode cX8_isFlatFour 18 = .ok (.iload_n 3, 1) := by decide +kernel
theorem dX8_isFlatFour_19 : decode cX8_isFlatFour 19 = .ok (.invokevirtual 43, 3) := by decide +kernel
theorem dX8_isFlatFour_22 : decode cX8_isFlatFour 22 = .ok (.i2l, 1) := by decide +kernel
theorem dX8_isFlatFour_23 : decode cX8_isFlatFour 23 = .ok (.lmul, 1) := by decide +kernel
theorem dX8_isFlatFour_24 : decode cX8_isFlatFour 24 = .ok (.lstore 7, 2) := by decide +kernel
theorem dX8_isFlatFour_26 : decode cX8_isFlatFour 26 = .ok (.ldc2_w 69, 3) := by decide +kernel
theorem dX8_isFlatFour_29 : decode cX8_isFlatFour 29 = .ok (.aload_n 0, 1) := by decide +kernel
theorem dX8_isFlatFour_30 : decode cX8_isFlatFour 30 = .ok (.iload_n 1, 1) := by decide +kernel
theorem dX8_isFlatFour_31 : decode cX8_isFlatFour 31 = .ok (.iload 4, 2) := by decide +kernel
theorem dX8_isFlatFour_33 : decode cX8_isFlatFour 33 = .ok (.invokevirtual 43, 3) := by decide +kernel
theorem dX8_isFlatFour_36 : decode cX8_isFlatFour 36 = .ok (.i2l, 1) := by decide +kernel
theorem dX8_isFlatFour_37 : decode cX8_isFlatFour 37 = .ok (.lmul, 1) := by decide +kernel
theorem dX8_isFlatFour_38 : decode cX8_isFlatFour 38 = .ok (.lstore 9, 2) := by decide +kernel
theorem dX8_isFlatFour_40 : decode cX8_isFlatFour 40 = .ok (.aload_n 0, 1) := by decide +kernel
theorem dX8_isFlatFour_41 : decode cX8_isFlatFour 41 = .ok (.iload_n 1, 1) := by decide +kernel
theorem dX8_isFlatFour_42 : decode cX8_isFlatFour 42 = .ok (.iload_n 2, 1) := by decide +kernel
theorem dX8_isFlatFour_43 : decode cX8_isFlatFour 43 = .ok (.iload_n 3, 1) := by decide +kernel
theorem dX8_isFlatFour_44 : decode cX8_isFlatFour 44 = .ok (.invokevirtual 71, 3) := by decide +kernel
theorem dX8_isFlatFour_47 : decode cX8_isFlatFour 47 = .ok (.lstore 11, 2) := by decide +kernel
theorem dX8_isFlatFour_49 : decode cX8_isFlatFour 49 = .ok (.aload_n 0, 1) := by decide +kernel
theorem dX8_isFlatFour_50 : decode cX8_isFlatFour 50 = .ok (.iload_n 1, 1) := by decide +kernel
theorem dX8_isFlatFour_51 : decode cX8_isFlatFour 51 = .ok (.iload_n 2, 1) := by decide +kernel
theorem dX8_isFlatFour_52 : decode cX8_isFlatFour 52 = .ok (.iload 4, 2) := by decide +kernel
theorem dX8_isFlatFour_54 : decode cX8_isFlatFour 54 = .ok (.invokevirtual 71, 3) := by decide +kernel
theorem dX8_isFlatFour_57 : decode cX8_isFlatFour 57 = .ok (.lstore 13, 2) := by decide +kernel
theorem dX8_isFlatFour_59 : decode cX8_isFlatFour 59 = .ok (.aload_n 0, 1) := by decide +kernel
theorem dX8_isFlatFour_60 : decode cX8_isFlatFour 60 = .ok (.iload_n 1, 1) := by decide +kernel
theorem dX8_isFlatFour_61 : decode cX8_isFlatFour 61 = .ok (.iload_n 3, 1) := by decide +kernel
theorem dX8_isFlatFour_62 : decode cX8_isFlatFour 62 = .ok (.iload 4, 2) := by decide +kernel
theorem dX8_isFlatFour_64 : decode cX8_isFlatFour 64 = .ok (.invokevirtual 71, 3) := by decide +kernel
theorem dX8_isFlatFour_67 : decode cX8_isFlatFour 67 = .ok (.lstore 15, 2) := by decide +kernel
theorem dX8_isFlatFour_69 : decode cX8_isFlatFour 69 = .ok (.lload 5, 2) := by decide +kernel
theorem dX8_isFlatFour_71 : decode cX8_isFlatFour 71 = .ok (.lload 7, 2) := by decide +kernel
theorem dX8_isFlatFour_73 : decode cX8_isFlatFour 73 = .ok (.lmul, 1) := by decide +kernel
theorem dX8_isFlatFour_74 : decode cX8_isFlatFour 74 = .ok (.lload 9, 2) := by decide +kernel
theorem dX8_isFlatFour_76 : decode cX8_isFlatFour 76 = .ok (.lmul, 1) := by decide +kernel
theorem dX8_isFlatFour_77 : decode cX8_isFlatFour 77 = .ok (.ldc2_w 69, 3) := by decide +kernel
theorem dX8_isFlatFour_80 : decode cX8_isFlatFour 80 = .ok (.lload 11, 2) := by decide +kernel
theorem dX8_isFlatFour_82 : decode cX8_isFlatFour 82 = .ok (.lmul, 1) := by decide +kernel
theorem dX8_isFlatFour_83 : decode cX8_isFlatFour 83 = .ok (.lload 13, 2) := by decide +kernel
theorem dX8_isFlatFour_85 : decode cX8_isFlatFour 85 = .ok (.lmul, 1) := by decide +kernel
theorem dX8_isFlatFour_86 : decode cX8_isFlatFour 86 = .ok (.lload 15, 2) := by decide +kernel
theorem dX8_isFlatFour_88 : decode cX8_isFlatFour 88 = .ok (.lmul, 1) := by decide +kernel
theorem dX8_isFlatFour_89 : decode cX8_isFlatFour 89 = .ok (.ladd, 1) := by decide +kernel
theorem dX8_isFlatFour_90 : decode cX8_isFlatFour 90 = .ok (.lload 5, 2) := by decide +kernel
theorem dX8_isFlatFour_92 : decode cX8_isFlatFour 92 = .ok (.lload 15, 2) := by decide +kernel
theorem dX8_isFlatFour_94 : decode cX8_isFlatFour 94 = .ok (.lmul, 1) := by decide +kernel
theorem dX8_isFlatFour_95 : decode cX8_isFlatFour 95 = .ok (.lload 15, 2) := by decide +kernel
theorem dX8_isFlatFour_97 : decode cX8_isFlatFour 97 = .ok (.lmul, 1) := by decide +kernel
theorem dX8_isFlatFour_98 : decode cX8_isFlatFour 98 = .ok (.lsub, 1) := by decide +kernel
theorem dX8_isFlatFour_99 : decode cX8_isFlatFour 99 = .ok (.lload 7, 2) := by decide +kernel
theorem dX8_isFlatFour_101 : decode cX8_isFlatFour 101 = .ok (.lload 13, 2) := by decide +kernel
theorem dX8_isFlatFour_103 : decode cX8_isFlatFour 103 = .ok (.lmul, 1) := by decide +kernel
theorem dX8_isFlatFour_104 : decode cX8_isFlatFour 104 = .ok (.lload 13, 2) := by decide +kernel
theorem dX8_isFlatFour_106 : decode cX8_isFlatFour 106 = .ok (.lmul, 1) := by decide +kernel
theorem dX8_isFlatFour_107 : decode cX8_isFlatFour 107 = .ok (.lsub, 1) := by decide +kernel
theorem dX8_isFlatFour_108 : decode cX8_isFlatFour 108 = .ok (.lload 9, 2) := by decide +kernel
theorem dX8_isFlatFour_110 : decode cX8_isFlatFour 110 = .ok (.lload 11, 2) := by decide +kernel
theorem dX8_isFlatFour_112 : decode cX8_isFlatFour 112 = .ok (.lmul, 1) := by decide +kernel
theorem dX8_isFlatFour_113 : decode cX8_isFlatFour 113 = .ok (.lload 11, 2) := by decide +kernel
theorem dX8_isFlatFour_115 : decode cX8_isFlatFour 115 = .ok (.lmul, 1) := by decide +kernel
theorem dX8_isFlatFour_116 : decode cX8_isFlatFour 116 = .ok (.lsub, 1) := by decide +kernel
theorem dX8_isFlatFour_117 : decode cX8_isFlatFour 117 = .ok (.lconst 0, 1) := by decide +kernel
theorem dX8_isFlatFour_118 : decode cX8_isFlatFour 118 = .ok (.lcmp, 1) := by decide +kernel
theorem dX8_isFlatFour_119 : decode cX8_isFlatFour 119 = .ok (.ifCond .ne 7, 3) := by decide +kernel
theorem dX8_isFlatFour_122 : decode cX8_isFlatFour 122 = .ok (.iconst 1, 1) := by decide +kernel
theorem dX8_isFlatFour_123 : decode cX8_isFlatFour 123 = .ok (.goto 4, 3) := by decide +kernel
theorem dX8_isFlatFour_126 : decode cX8_isFlatFour 126 = .ok (.iconst 0, 1) := by decide +kernel
theorem dX8_isFlatFour_127 : decode cX8_isFlatFour 127 = .ok (.ireturn, 1) := by decide +kernel
theorem dX8_sideSign_0 : decode cX8_sideSign 0 = .ok (.ldc2_w 69, 3) := by decide +kernel
theorem dX8_sideSign_3 : decode cX8_sideSign 3 = .ok (.aload_n 0, 1) := by decide +kernel
theorem dX8_sideSign_4 : decode cX8_sideSign 4 = .ok (.iload_n 1, 1) := by decide +kernel
theorem dX8_sideSign_5 : decode cX8_sideSign 5 = .ok (.iload_n 2, 1) := by decide +kernel
theorem dX8_sideSign_6 : decode cX8_sideSign 6 = .ok (.invokevirtual 43, 3) := by decide +kernel
theorem dX8_sideSign_9 : decode cX8_sideSign 9 = .ok (.i2l, 1) := by decide +kernel
theorem dX8_sideSign_10 : decode cX8_sideSign 10 = .ok (.lmul, 1) := by decide +kernel
theorem dX8_sideSign_11 : decode cX8_sideSign 11 = .ok (.aload_n 0, 1) := by decide +kernel
theorem dX8_sideSign_12 : decode cX8_sideSign 12 = .ok (.iload_n 1, 1) := by decide +kernel
theorem dX8_sideSign_13 : decode cX8_sideSign 13 = .ok (.iload_n 3, 1) := by decide +kernel
theorem dX8_sideSign_14 : decode cX8_sideSign 14 = .ok (.iload 4, 2) := by decide +kernel
theorem dX8_sideSign_16 : decode cX8_sideSign 16 = .ok (.invokevirtual 71, 3) := by decide +kernel
theorem dX8_sideSign_19 : decode cX8_sideSign 19 = .ok (.lmul, 1) := by decide +kernel
theorem dX8_sideSign_20 : decode cX8_sideSign 20 = .ok (.aload_n 0, 1) := by decide +kernel
theorem dX8_sideSign_21 : decode cX8_sideSign 21 = .ok (.iload_n 1, 1) := by decide +kernel
theorem dX8_sideSign_22 : decode cX8_sideSign 22 = .ok (.iload_n 2, 1) := by decide +kernel
theorem dX8_sideSign_23 : decode cX8_sideSign 23 = .ok (.iload_n 3, 1) := by decide +kernel
theorem dX8_sideSign_24 : decode cX8_sideSign 24 = .ok (.invokevirtual 71, 3) := by decide +kernel
theorem dX8_sideSign_27 : decode cX8_sideSign 27 = .ok (.aload_n 0, 1) := by decide +kernel
theorem dX8_sideSign_28 : decode cX8_sideSign 28 = .ok (.iload_n 1, 1) := by decide +kernel
theorem dX8_sideSign_29 : decode cX8_sideSign 29 = .ok (.iload_n 2, 1) := by decide +kernel
theorem dX8_sideSign_30 : decode cX8_sideSign 30 = .ok (.iload 4, 2) := by decide +kernel
theorem dX8_sideSign_32 : decode cX8_sideSign 32 = .ok (.invokevirtual 71, 3) := by decide +kernel
theorem dX8_sideSign_35 : decode cX8_sideSign 35 = .ok (.lmul, 1) := by decide +kernel
theorem dX8_sideSign_36 : decode cX8_sideSign 36 = .ok (.lsub, 1) := by decide +kernel
theorem dX8_sideSign_37 : decode cX8_sideSign 37 = .ok (.invokestatic 74, 3) := by decide +kernel
theorem dX8_sideSign_40 : decode cX8_sideSign 40 = .ok (.ireturn, 1) := by decide +kernel
theorem dX8_isToldBy_0 : decode cX8_isToldBy 0 = .ok (.iconst 0, 1) := by decide +kernel
theorem dX8_isToldBy_1 : decode cX8_isToldBy 1 = .ok (.istore_n 3, 1) := by decide +kernel
theorem dX8_isToldBy_2 : decode cX8_isToldBy 2 = .ok (.iload_n 3, 1) := by decide +kernel
theorem dX8_isToldBy_3 : decode cX8_isToldBy 3 = .ok (.aload_n 0, 1) := by decide +kernel
theorem dX8_isToldBy_4 : decode cX8_isToldBy 4 = .ok (.getfield 9, 3) := by decide +kernel
theorem dX8_isToldBy_7 : decode cX8_isToldBy 7 = .ok (.if_icmp .ge 28, 3) := by decide +kernel
theorem dX8_isToldBy_10 : decode cX8_isToldBy 10 = .ok (.iload_n 2, 1) := by decide +kernel
theorem dX8_isToldBy_11 : decode cX8_isToldBy 11 = .ok (.iload_n 3, 1) := by decide +kernel
theorem dX8_isToldBy_12 : decode cX8_isToldBy 12 = .ok (.invokestatic 80, 3) := by decide +kernel
theorem dX8_isToldBy_15 : decode cX8_isToldBy 15 = .ok (.ifCond .eq 14, 3) := by decide +kernel
theorem dX8_isToldBy_18 : decode cX8_isToldBy 18 = .ok (.aload_n 0, 1) := by decide +kernel
theorem dX8_isToldBy_19 : decode cX8_isToldBy 19 = .ok (.iload_n 1, 1) := by decide +kernel
theorem dX8_isToldBy_20 : decode cX8_isToldBy 20 = .ok (.iload_n 3, 1) := by decide +kernel
theorem dX8_isToldBy_21 : decode cX8_isToldBy 21 = .ok (.invokevirtual 43, 3) := by decide +kernel
theorem dX8_isToldBy_24 : decode cX8_isToldBy 24 = .ok (.ifCond .ne 5, 3) := by decide +kernel
theorem dX8_isToldBy_27 : decode cX8_isToldBy 27 = .ok (.iconst 0, 1) := by decide +kernel
theorem dX8_isToldBy_28 : decode cX8_isToldBy 28 = .ok (.ireturn, 1) := by decide +kernel
theorem dX8_isToldBy_29 : decode cX8_isToldBy 29 = .ok (.iinc 3 1, 3) := by decide +kernel
theorem dX8_isToldBy_32 : decode cX8_isToldBy 32 = .ok (.goto (-30), 3) := by decide +kernel
theorem dX8_isToldBy_35 : decode cX8_isToldBy 35 = .ok (.iconst 0, 1) := by decide +kernel
theorem dX8_isToldBy_36 : decode cX8_isToldBy 36 = .ok (.istore_n 3, 1) := by decide +kernel
theorem dX8_isToldBy_37 : decode cX8_isToldBy 37 = .ok (.iload_n 3, 1) := by decide +kernel
theorem dX8_isToldBy_38 : decode cX8_isToldBy 38 = .ok (.aload_n 0, 1) := by decide +kernel
theorem dX8_isToldBy_39 : decode cX8_isToldBy 39 = .ok (.getfield 9, 3) := by decide +kernel
theorem dX8_isToldBy_42 : decode cX8_isToldBy 42 = .ok (.if_icmp .ge 26, 3) := by decide +kernel
theorem dX8_isToldBy_45 : decode cX8_isToldBy 45 = .ok (.iload_n 3, 1) := by decide +kernel
theorem dX8_isToldBy_46 : decode cX8_isToldBy 46 = .ok (.iload_n 1, 1) := by decide +kernel
theorem dX8_isToldBy_47 : decode cX8_isToldBy 47 = .ok (.if_icmp .eq 15, 3) := by decide +kernel
theorem dX8_isToldBy_50 : decode cX8_isToldBy 50 = .ok (.aload_n 0, 1) := by decide +kernel
theorem dX8_isToldBy_51 : decode cX8_isToldBy 51 = .ok (.iload_n 2, 1) := by decide +kernel
theorem dX8_isToldBy_52 : decode cX8_isToldBy 52 = .ok (.iload_n 1, 1) := by decide +kernel
theorem dX8_isToldBy_53 : decode cX8_isToldBy 53 = .ok (.iload_n 3, 1) := by decide +kernel
theorem dX8_isToldBy_54 : decode cX8_isToldBy 54 = .ok (.invokevirtual 83, 3) := by decide +kernel
theorem dX8_isToldBy_57 : decode cX8_isToldBy 57 = .ok (.ifCond .eq 5, 3) := by decide +kernel
theorem dX8_isToldBy_60 : decode cX8_isToldBy 60 = .ok (.iconst 0, 1) := by decide +kernel
theorem dX8_isToldBy_61 : decode cX8_isToldBy 61 = .ok (.ireturn, 1) := by decide +kernel
theorem dX8_isToldBy_62 : decode cX8_isToldBy 62 = .ok (.iinc 3 1, 3) := by decide +kernel
theorem dX8_isToldBy_65 : decode cX8_isToldBy 65 = .ok (.goto (-28), 3) := by decide +kernel
theorem dX8_isToldBy_68 : decode cX8_isToldBy 68 = .ok (.iconst 1, 1) := by decide +kernel
theorem dX8_isToldBy_69 : decode cX8_isToldBy 69 = .ok (.ireturn, 1) := by decide +kernel
theorem dX8_isAlikeSeenFrom_0 : decode cX8_isAlikeSeenFrom 0 = .ok (.iconst 0, 1) := by decide +kernel
theorem dX8_isAlikeSeenFrom_1 : decode cX8_isAlikeSeenFrom 1 = .ok (.istore 4, 2) := by decide +kernel
theorem dX8_isAlikeSeenFrom_3 : decode cX8_isAlikeSeenFrom 3 = .ok (.iload 4, 2) := by decide +kernel
theorem dX8_isAlikeSeenFrom_5 : decode cX8_isAlikeSeenFrom 5 = .ok (.aload_n 0, 1) := by decide +kernel
theorem dX8_isAlikeSeenFrom_6 : decode cX8_isAlikeSeenFrom 6 = .ok (.getfield 9, 3) := by decide +kernel
theorem dX8_isAlikeSeenFrom_9 : decode cX8_isAlikeSeenFrom 9 = .ok (.if_icmp .ge 37, 3) := by decide +kernel
theorem dX8_isAlikeSeenFrom_12 : decode cX8_isAlikeSeenFrom 12 = .ok (.iload_n 1, 1) := by decide +kernel
theorem dX8_isAlikeSeenFrom_13 : decode cX8_isAlikeSeenFrom 13 = .ok (.iload 4, 2) := by decide +kernel
theorem dX8_isAlikeSeenFrom_15 : decode cX8_isAlikeSeenFrom 15 = .ok (.invokestatic 80, 3) := by decide +kernel
theorem dX8_isAlikeSeenFrom_18 : decode cX8_isAlikeSeenFrom 18 = .ok (.ifCond .eq 22, 3) := by decide +kernel
theorem dX8_isAlikeSeenFrom_21 : decode cX8_isAlikeSeenFrom 21 = .ok (.aload_n 0, 1) := by decide +kernel
theorem dX8_isAlikeSeenFrom_22 : decode cX8_isAlikeSeenFrom 22 = .ok (.iload_n 2, 1) := by decide +kernel
theorem dX8_isAlikeSeenFrom_23 : decode cX8_isAlikeSeenFrom 23 = .ok (.iload 4, 2) := by decide +kernel
theorem dX8_isAlikeSeenFrom_25 : decode cX8_isAlikeSeenFrom 25 = .ok (.invokevirtual 43, 3) := by decide +kernel
theorem dX8_isAlikeSeenFrom_28 : decode cX8_isAlikeSeenFrom 28 = .ok (.aload_n 0, 1) := by decide +kernel
theorem dX8_isAlikeSeenFrom_29 : decode cX8_isAlikeSeenFrom 29 = .ok (.iload_n 3, 1) := by decide +kernel
theorem dX8_isAlikeSeenFrom_30 : decode cX8_isAlikeSeenFrom 30 = .ok (.iload 4, 2) := by decide +kernel
theorem dX8_isAlikeSeenFrom_32 : decode cX8_isAlikeSeenFrom 32 = .ok (.invokevirtual 43, 3) := by decide +kernel
theorem dX8_isAlikeSeenFrom_35 : decode cX8_isAlikeSeenFrom 35 = .ok (.if_icmp .eq 5, 3) := by decide +kernel
theorem dX8_isAlikeSeenFrom_38 : decode cX8_isAlikeSeenFrom 38 = .ok (.iconst 0, 1) := by decide +kernel
theorem dX8_isAlikeSeenFrom_39 : decode cX8_isAlikeSeenFrom 39 = .ok (.ireturn, 1) := by decide +kernel
theorem dX8_isAlikeSeenFrom_40 : decode cX8_isAlikeSeenFrom 40 = .ok (.iinc 4 1, 3) := by decide +kernel
theorem dX8_isAlikeSeenFrom_43 : decode cX8_isAlikeSeenFrom 43 = .ok (.goto (-40), 3) := by decide +kernel
theorem dX8_isAlikeSeenFrom_46 : decode cX8_isAlikeSeenFrom 46 = .ok (.iconst 1, 1) := by decide +kernel
theorem dX8_isAlikeSeenFrom_47 : decode cX8_isAlikeSeenFrom 47 = .ok (.ireturn, 1) := by decide +kernel
theorem dX9_init_0 : decode cX9_init 0 = .ok (.aload_n 0, 1) := by decide +kernel
theorem dX9_init_1 : decode cX9_init 1 = .ok (.invokespecial 3, 3) := by decide +kernel
theorem dX9_init_4 : decode cX9_init 4 = .ok (.aload_n 0, 1) := by decide +kernel
theorem dX9_init_5 : decode cX9_init 5 = .ok (.iconst 0, 1) := by decide +kernel
theorem dX9_init_6 : decode cX9_init 6 = .ok (.putfield 9, 3) := by decide +kernel
theorem dX9_init_9 : decode cX9_init 9 = .ok (.aload_n 0, 1) := by decide +kernel
theorem dX9_init_10 : decode cX9_init 10 = .ok (.sipush 320, 3) := by decide +kernel
theorem dX9_init_13 : decode cX9_init 13 = .ok (.newarray .byte, 2) := by decide +kernel
theorem dX9_init_15 : decode cX9_init 15 = .ok (.putfield 15, 3) := by decide +kernel
theorem dX9_init_18 : decode cX9_init 18 = .ok (.return_, 1) := by decide +kernel
theorem dX9_add_0 : decode cX9_add 0 = .ok (.aload_n 0, 1) := by decide +kernel
theorem dX9_add_1 : decode cX9_add 1 = .ok (.getfield 9, 3) := by decide +kernel
theorem dX9_add_4 : decode cX9_add 4 = .ok (.ifCond .lt 13, 3) := by decide +kernel
theorem dX9_add_7 : decode cX9_add 7 = .ok (.aload_n 0, 1) := by decide +kernel
theorem dX9_add_8 : decode cX9_add 8 = .ok (.getfield 9, 3) := by decide +kernel
theorem dX9_add_11 : decode cX9_add 11 = .ok (.sipush 312, 3) := by decide +kernel
theorem dX9_add_14 : decode cX9_add 14 = .ok (.if_icmp .le 5, 3) := by decide +kernel
theorem dX9_add_17 : decode cX9_add 17 = .ok (.iconst 0, 1) := by decide +kernel
theorem dX9_add_18 : decode cX9_add 18 = .ok (.ireturn, 1) := by decide +kernel
theorem dX9_add_19 : decode cX9_add 19 = .ok (.iconst 0, 1) := by decide +kernel
theorem dX9_add_20 : decode cX9_add 20 = .ok (.istore_n 3, 1) := by decide +kernel
theorem dX9_add_21 : decode cX9_add 21 = .ok (.iload_n 3, 1) := by decide +kernel
theorem dX9_add_22 : decode cX9_add 22 = .ok (.bipush 8, 2) := by decide +kernel
theorem dX9_add_24 : decode cX9_add 24 = .ok (.if_icmp .ge 31, 3) := by decide +kernel
theorem dX9_add_27 : decode cX9_add 27 = .ok (.aload_n 0, 1) := by decide +kernel
theorem dX9_add_28 : decode cX9_add 28 = .ok (.getfield 15, 3) := by decide +kernel
theorem dX9_add_31 : decode cX9_add 31 = .ok (.aload_n 0, 1) := by decide +kernel
theorem dX9_add_32 : decode cX9_add 32 = .ok (.getfield 9, 3) := by decide +kernel
theorem dX9_add_35 : decode cX9_add 35 = .ok (.iload_n 3, 1) := by decide +kernel
theorem dX9_add_36 : decode cX9_add 36 = .ok (.iadd, 1) := by decide +kernel
theorem dX9_add_37 : decode cX9_add 37 = .ok (.lload_n 1, 1) := by decide +kernel
theorem dX9_add_38 : decode cX9_add 38 = .ok (.bipush 56, 2) := by decide +kernel
theorem dX9_add_40 : decode cX9_add 40 = .ok (.bipush 8, 2) := by decide +kernel
theorem dX9_add_42 : decode cX9_add 42 = .ok (.iload_n 3, 1) := by decide +kernel
theorem dX9_add_43 : decode cX9_add 43 = .ok (.imul, 1) := by decide +kernel
theorem dX9_add_44 : decode cX9_add 44 = .ok (.isub, 1) := by decide +kernel
theorem dX9_add_45 : decode cX9_add 45 = .ok (.lushr, 1) := by decide +kernel
theorem dX9_add_46 : decode cX9_add 46 = .ok (.l2i, 1) := by decide +kernel
theorem dX9_add_47 : decode cX9_add 47 = .ok (.i2b, 1) := by decide +kernel
theorem dX9_add_48 : decode cX9_add 48 = .ok (.bastore, 1) := by decide +kernel
theorem dX9_add_49 : decode cX9_add 49 = .ok (.iinc 3 1, 3) := by decide +kernel
theorem dX9_add_52 : decode cX9_add 52 = .ok (.goto (-31), 3) := by decide +kernel
theorem dX9_add_55 : decode cX9_add 55 = .ok (.aload_n 0, 1) := by decide +kernel
theorem dX9_add_56 : decode cX9_add 56 = .ok (.dup, 1) := by decide +kernel
theorem dX9_add_57 : decode cX9_add 57 = .ok (.getfield 9, 3) := by decide +kernel
theorem dX9_add_60 : decode cX9_add 60 = .ok (.bipush 8, 2) := by decide +kernel
theorem dX9_add_62 : decode cX9_add 62 = .ok (.iadd, 1) := by decide +kernel
theorem dX9_add_63 : decode cX9_add 63 = .ok (.putfield 9, 3) := by decide +kernel
theorem dX9_add_66 : decode cX9_add 66 = .ok (.iconst 1, 1) := by decide +kernel
theorem dX9_add_67 : decode cX9_add 67 = .ok (.ireturn, 1) := by decide +kernel
theorem dX9_byteAt_0 : decode cX9_byteAt 0 = .ok (.iload_n 1, 1) := by decide +kernel
theorem dX9_byteAt_1 : decode cX9_byteAt 1 = .ok (.ifCond .lt 27, 3) := by decide +kernel
theorem dX9_byteAt_4 : decode cX9_byteAt 4 = .ok (.iload_n 1, 1) := by decide +kernel
theorem dX9_byteAt_5 : decode cX9_byteAt 5 = .ok (.aload_n 0, 1) := by decide +kernel
theorem dX9_byteAt_6 : decode cX9_byteAt 6 = .ok (.getfield 9, 3) := by decide +kernel
theorem dX9_byteAt_9 : decode cX9_byteAt 9 = .ok (.if_icmp .ge 19, 3) := by decide +kernel
theorem dX9_byteAt_12 : decode cX9_byteAt 12 = .ok (.iload_n 1, 1) := by decide +kernel
theorem dX9_byteAt_13 : decode cX9_byteAt 13 = .ok (.sipush 320, 3) := by decide +kernel
theorem dX9_byteAt_16 : decode cX9_byteAt 16 = .ok (.if_icmp .ge 12, 3) := by decide +kernel
theorem dX9_byteAt_19 : decode cX9_byteAt 19 = .ok (.aload_n 0, 1) := by decide +kernel
theorem dX9_byteAt_20 : decode cX9_byteAt 20 = .ok (.getfield 15, 3) := by decide +kernel
theorem dX9_byteAt_23 : decode cX9_byteAt 23 = .ok (.iload_n 1, 1) := by decide +kernel
theorem dX9_byteAt_24 : decode cX9_byteAt 24 = .ok (.baload, 1) := by decide +kernel
theorem dX9_byteAt_25 : decode cX9_byteAt 25 = .ok (.goto 4, 3) := by decide +kernel
theorem dX9_byteAt_28 : decode cX9_byteAt 28 = .ok (.iconst (-1), 1) := by decide +kernel
theorem dX9_byteAt_29 : decode cX9_byteAt 29 = .ok (.ireturn, 1) := by decide +kernel
theorem dX10_init_0 : decode cX10_init 0 = .ok (.aload_n 0, 1) := by decide +kernel
theorem dX10_init_1 : decode cX10_init 1 = .ok (.invokespecial 1, 3) := by decide +kernel
theorem dX10_init_4 : decode cX10_init 4 = .ok (.aload_n 0, 1) := by decide +kernel
theorem dX10_init_5 : decode cX10_init 5 = .ok (.new 7, 3) := by decide +kernel
theorem dX10_init_8 : decode cX10_init 8 = .ok (.dup, 1) := by decide +kernel
theorem dX10_init_9 : decode cX10_init 9 = .ok (.invokespecial 9, 3) := by decide +kernel
theorem dX10_init_12 : decode cX10_init 12 = .ok (.putfield 10, 3) := by decide +kernel
theorem dX10_init_15 : decode cX10_init 15 = .ok (.aload_n 0, 1) := by decide +kernel
theorem dX10_init_16 : decode cX10_init 16 = .ok (.new 16, 3) := by decide +kernel
theorem dX10_init_19 : decode cX10_init 19 = .ok (.dup, 1) := by decide +kernel
theorem dX10_init_20 : decode cX10_init 20 = .ok (.aload_n 0, 1) := by decide +kernel
theorem dX10_init_21 : decode cX10_init 21 = .ok (.getfield 10, 3) := by decide +kernel
theorem dX10_init_24 : decode cX10_init 24 = .ok (.invokespecial 18, 3) := by decide +kernel
theorem dX10_init_27 : decode cX10_init 27 = .ok (.putfield 21, 3) := by decide +kernel
theorem dX10_init_30 : decode cX10_init 30 = .ok (.aload_n 0, 1) := by decide +kernel
theorem dX10_init_31 : decode cX10_init 31 = .ok (.new 25, 3) := by decide +kernel
theorem dX10_init_34 : decode cX10_init 34 = .ok (.dup, 1) := by decide +kernel
theorem dX10_init_35 : decode cX10_init 35 = .ok (.invokespecial 27, 3) := by decide +kernel
theorem dX10_init_38 : decode cX10_init 38 = .ok (.putfield 28, 3) := by decide +kernel
theorem dX10_init_41 : decode cX10_init 41 = .ok (.aload_n 0, 1) := by decide +kernel
theorem dX10_init_42 : decode cX10_init 42 = .ok (.new 32, 3) := by decide +kernel
theorem dX10_init_45 : decode cX10_init 45 = .ok (.dup, 1) := by decide +kernel
theorem dX10_init_46 : decode cX10_init 46 = .ok (.invokespecial 34, 3) := by decide +kernel
theorem dX10_init_49 : decode cX10_init 49 = .ok (.putfield 35, 3) := by decide +kernel
theorem dX10_init_52 : decode cX10_init 52 = .ok (.aload_n 0, 1) := by decide +kernel
theorem dX10_init_53 : decode cX10_init 53 = .ok (.iconst 2, 1) := by decide +kernel
theorem dX10_init_54 : decode cX10_init 54 = .ok (.anewarray 39, 3) := by decide +kernel
theorem dX10_init_57 : decode cX10_init 57 = .ok (.putfield 41, 3) := by decide +kernel
theorem dX10_init_60 : decode cX10_init 60 = .ok (.iconst 0, 1) := by decide +kernel
theorem dX10_init_61 : decode cX10_init 61 = .ok (.istore_n 1, 1) := by decide +kernel
theorem dX10_init_62 : decode cX10_init 62 = .ok (.iload_n 1, 1) := by decide +kernel
theorem dX10_init_63 : decode cX10_init 63 = .ok (.iconst 2, 1) := by decide +kernel
theorem dX10_init_64 : decode cX10_init 64 = .ok (.if_icmp .ge 22, 3) := by decide +kernel
theorem dX10_init_67 : decode cX10_init 67 = .ok (.aload_n 0, 1) := by decide +kernel
theorem dX10_init_68 : decode cX10_init 68 = .ok (.getfield 41, 3) := by decide +kernel
theorem dX10_init_71 : decode cX10_init 71 = .ok (.iload_n 1, 1) := by decide +kernel
theorem dX10_init_72 : decode cX10_init 72 = .ok (.new 39, 3) := by decide +kernel
theorem dX10_init_75 : decode cX10_init 75 = .ok (.dup, 1) := by decide +kernel
theorem dX10_init_76 : decode cX10_init 76 = .ok (.invokespecial 45, 3) := by decide +kernel
theorem dX10_init_79 : decode cX10_init 79 = .ok (.aastore, 1) := by decide +kernel
theorem dX10_init_80 : decode cX10_init 80 = .ok (.iinc 1 1, 3) := by decide +kernel
theorem dX10_init_83 : decode cX10_init 83 = .ok (.goto (-21), 3) := by decide +kernel
theorem dX10_init_86 : decode cX10_init 86 = .ok (.aload_n 0, 1) := by decide +kernel
theorem dX10_init_87 : decode cX10_init 87 = .ok (.iconst 4, 1) := by decide +kernel
theorem dX10_init_88 : decode cX10_init 88 = .ok (.anewarray 46, 3) := by decide +kernel
theorem dX10_init_91 : decode cX10_init 91 = .ok (.putfield 48, 3) := by decide +kernel
theorem dX10_init_94 : decode cX10_init 94 = .ok (.iconst 0, 1) := by decide +kernel
theorem dX10_init_95 : decode cX10_init 95 = .ok (.istore_n 1, 1) := by decide +kernel
theorem dX10_init_96 : decode cX10_init 96 = .ok (.iload_n 1, 1) := by decide +kernel
theorem dX10_init_97 : decode cX10_init 97 = .ok (.iconst 4, 1) := by decide +kernel
theorem dX10_init_98 : decode cX10_init 98 = .ok (.if_icmp .ge 22, 3) := by decide +kernel
theorem dX10_init_101 : decode cX10_init 101 = .ok (.aload_n 0, 1) := by decide +kernel
theorem dX10_init_102 : decode cX10_init 102 = .ok (.getfield 48, 3) := by decide +kernel
theorem dX10_init_105 : decode cX10_init 105 = .ok (.iload_n 1, 1) := by decide +kernel
theorem dX10_init_106 : decode cX10_init 106 = .ok (.new 46, 3) := by decide +kernel
theorem dX10_init_109 : decode cX10_init 109 = .ok (.dup, 1) := by decide +kernel
theorem dX10_init_110 : decode cX10_init 110 = .ok (.invokespecial 52, 3) := by decide +kernel
theorem dX10_init_113 : decode cX10_init 113 = .ok (.aastore, 1) := by decide +kernel
theorem dX10_init_114 : decode cX10_init 114 = .ok (.iinc 1 1, 3) := by decide +kernel
theorem dX10_init_117 : decode cX10_init 117 = .ok (.goto (-21), 3) := by decide +kernel
theorem dX10_init_120 : decode cX10_init 120 = .ok (.aload_n 0, 1) := by decide +kernel
theorem dX10_init_121 : decode cX10_init 121 = .ok (.new 53, 3) := by decide +kernel
theorem dX10_init_124 : decode cX10_init 124 = .ok (.dup, 1) := by decide +kernel
theorem dX10_init_125 : decode cX10_init 125 = .ok (.invokespecial 55, 3) := by decide +kernel
theorem dX10_init_128 : decode cX10_init 128 = .ok (.putfield 56, 3) := by decide +kernel
theorem dX10_init_131 : decode cX10_init 131 = .ok (.aload_n 0, 1) := by decide +kernel
theorem dX10_init_132 : decode cX10_init 132 = .ok (.new 60, 3) := by decide +kernel
theorem dX10_init_135 : decode cX10_init 135 = .ok (.dup, 1) := by decide +kernel
theorem dX10_init_136 : decode cX10_init 136 = .ok (.invokespecial 62, 3) := by decide +kernel
theorem dX10_init_139 : decode cX10_init 139 = .ok (.putfield 63, 3) := by decide +kernel
theorem dX10_init_142 : decode cX10_init 142 = .ok (.aload_n 0, 1) := by decide +kernel
theorem dX10_init_143 : decode cX10_init 143 = .ok (.new 67, 3) := by decide +kernel
theorem dX10_init_146 : decode cX10_init 146 = .ok (.dup, 1) := by decide +kernel
theorem dX10_init_147 : decode cX10_init 147 = .ok (.aload_n 0, 1) := by decide +kernel
theorem dX10_init_148 : decode cX10_init 148 = .ok (.getfield 28, 3) := by decide +kernel
theorem dX10_init_151 : decode cX10_init 151 = .ok (.invokespecial 69, 3) := by decide +kernel
theorem dX10_init_154 : decode cX10_init 154 = .ok (.putfield 72, 3) := by decide +kernel
theorem dX10_init_157 : decode cX10_init 157 = .ok (.aload_n 0, 1) := by decide +kernel
theorem dX10_init_158 : decode cX10_init 158 = .ok (.new 76, 3) := by decide +kernel
theorem dX10_init_161 : decode cX10_init 161 = .ok (.dup, 1) := by decide +kernel
theorem dX10_init_162 : decode cX10_init 162 = .ok (.aload_n 0, 1) := by decide +kernel
theorem dX10_init_163 : decode cX10_init 163 = .ok (.getfield 28, 3) := by decide +kernel
theorem dX10_init_166 : decode cX10_init 166 = .ok (.invokespecial 78, 3) := by decide +kernel
theorem dX10_init_169 : decode cX10_init 169 = .ok (.putfield 79, 3) := by decide +kernel
theorem dX10_init_172 : decode cX10_init 172 = .ok (.aload_n 0, 1) := by decide +kernel
theorem dX10_init_173 : decode cX10_init 173 = .ok (.iconst 0, 1) := by decide +kernel
theorem dX10_init_174 : decode cX10_init 174 = .ok (.putfield 83, 3) := by decide +kernel
theorem dX10_init_177 : decode cX10_init 177 = .ok (.aload_n 0, 1) := by decide +kernel
theorem dX10_init_178 : decode cX10_init 178 = .ok (.iconst 0, 1) := by decide +kernel
theorem dX10_init_179 : decode cX10_init 179 = .ok (.putfield 87, 3) := by decide +kernel
theorem dX10_init_182 : decode cX10_init 182 = .ok (.return_, 1) := by decide +kernel
theorem dX10_feed_0 : decode cX10_feed 0 = .ok (.aload_n 0, 1) := by decide +kernel
theorem dX10_feed_1 : decode cX10_feed 1 = .ok (.getfield 10, 3) := by decide +kernel
theorem dX10_feed_4 : decode cX10_feed 4 = .ok (.lload_n 1, 1) := by decide +kernel
theorem dX10_feed_5 : decode cX10_feed 5 = .ok (.invokevirtual 90, 3) := by decide +kernel
theorem dX10_feed_8 : decode cX10_feed 8 = .ok (.ifCond .eq 13, 3) := by decide +kernel
theorem dX10_feed_11 : decode cX10_feed 11 = .ok (.aload_n 0, 1) := by decide +kernel
theorem dX10_feed_12 : decode cX10_feed 12 = .ok (.getfield 10, 3) := by decide +kernel
theorem dX10_feed_15 : decode cX10_feed 15 = .ok (.getfield 94, 3) := by decide +kernel
theorem dX10_feed_18 : decode cX10_feed 18 = .ok (.goto 5, 3) := by decide +kernel
theorem dX10_feed_21 : decode cX10_feed 21 = .ok (.bipush (-3), 2) := by decide +kernel
theorem dX10_feed_23 : decode cX10_feed 23 = .ok (.ireturn, 1) := by decide +kernel
theorem dX10_end_0 : decode cX10_end 0 = .ok (.iload_n 1, 1) := by decide +kernel
theorem dX10_end_1 : decode cX10_end 1 = .ok (.ifCond .lt 14, 3) := by decide +kernel
theorem dX10_end_4 : decode cX10_end 4 = .ok (.iload_n 1, 1) := by decide +kernel
theorem dX10_end_5 : decode cX10_end 5 = .ok (.aload_n 0, 1) := by decide +kernel
theorem dX10_end_6 : decode cX10_end 6 = .ok (.getfield 10, 3) := by decide +kernel
theorem dX10_end_9 : decode cX10_end 9 = .ok (.getfield 94, 3) := by decide +kernel
theorem dX10_end_12 : decode cX10_end 12 = .ok (.if_icmp .le 5, 3) := by decide +kernel
theorem dX10_end_15 : decode cX10_end 15 = .ok (.iconst (-1), 1) := by decide +kernel
theorem dX10_end_16 : decode cX10_end 16 = .ok (.ireturn, 1) := by decide +kernel
theorem dX10_end_17 : decode cX10_end 17 = .ok (.aload_n 0, 1) := by decide +kernel
theorem dX10_end_18 : decode cX10_end 18 = .ok (.getfield 10, 3) := by decide +kernel
theorem dX10_end_21 : decode cX10_end 21 = .ok (.getfield 94, 3) := by decide +kernel
theorem dX10_end_24 : decode cX10_end 24 = .ok (.istore_n 2, 1) := by decide +kernel
theorem dX10_end_25 : decode cX10_end 25 = .ok (.aload_n 0, 1) := by decide +kernel
theorem dX10_end_26 : decode cX10_end 26 = .ok (.getfield 10, 3) := by decide +kernel
theorem dX10_end_29 : decode cX10_end 29 = .ok (.iload_n 1, 1) := by decide +kernel
theorem dX10_end_30 : decode cX10_end 30 = .ok (.putfield 94, 3) := by decide +kernel
theorem dX10_end_33 : decode cX10_end 33 = .ok (.iload_n 2, 1) := by decide +kernel
theorem dX10_end_34 : decode cX10_end 34 = .ok (.ireturn, 1) := by decide +kernel
theorem dX10_land_0 : decode cX10_land 0 = .ok (.aload_n 0, 1) := by decide +kernel
theorem dX10_land_1 : decode cX10_land 1 = .ok (.getfield 21, 3) := by decide +kernel
theorem dX10_land_4 : decode cX10_land 4 = .ok (.invokevirtual 97, 3) := by decide +kernel
theorem dX10_land_7 : decode cX10_land 7 = .ok (.aload_n 0, 1) := by decide +kernel
theorem dX10_land_8 : decode cX10_land 8 = .ok (.getfield 10, 3) := by decide +kernel
theorem dX10_land_11 : decode cX10_land 11 = .ok (.iconst 0, 1) := by decide +kernel
theorem dX10_land_12 : decode cX10_land 12 = .ok (.putfield 94, 3) := by decide +kernel
theorem dX10_land_15 : decode cX10_land 15 = .ok (.aload_n 0, 1) := by decide +kernel
theorem dX10_land_16 : decode cX10_land 16 = .ok (.aload_n 0, 1) := by decide +kernel
theorem dX10_land_17 : decode cX10_land 17 = .ok (.getfield 21, 3) := by decide +kernel
theorem dX10_land_20 : decode cX10_land 20 = .ok (.getfield 100, 3) := by decide +kernel
theorem dX10_land_23 : decode cX10_land 23 = .ok (.putfield 83, 3) := by decide +kernel
theorem dX10_land_26 : decode cX10_land 26 = .ok (.aload_n 0, 1) := by decide +kernel
theorem dX10_land_27 : decode cX10_land 27 = .ok (.getfield 83, 3) := by decide +kernel
theorem dX10_land_30 : decode cX10_land 30 = .ok (.ifCond .eq 14, 3) := by decide +kernel
theorem dX10_land_33 : decode cX10_land 33 = .ok (.bipush (-10), 2) := by decide +kernel
theorem dX10_land_35 : decode cX10_land 35 = .ok (.aload_n 0, 1) := by decide +kernel
theorem dX10_land_36 : decode cX10_land 36 = .ok (.getfield 21, 3) := by decide +kernel
theorem dX10_land_39 : decode cX10_land 39 = .ok (.getfield 103, 3) := by decide +kernel
theorem dX10_land_42 : decode cX10_land 42 = .ok (.isub, 1) := by decide +kernel
theorem dX10_land_43 : decode cX10_land 43 = .ok (.ireturn, 1) := by decide +kernel
theorem dX10_land_44 : decode cX10_land 44 = .ok (.aload_n 0, 1) := by decide +kernel
theorem dX10_land_45 : decode cX10_land 45 = .ok (.getfield 28, 3) := by decide +kernel
theorem dX10_land_48 : decode cX10_land 48 = .ok (.aload_n 0, 1) := by decide +kernel
theorem dX10_land_49 : decode cX10_land 49 = .ok (.getfield 21, 3) := by decide +kernel
theorem dX10_land_52 : decode cX10_land 52 = .ok (.getfield 106, 3) := by decide +kernel
theorem dX10_land_55 : decode cX10_land 55 = .ok (.invokevirtual 109, 3) := by decide +kernel
theorem dX10_land_58 : decode cX10_land 58 = .ok (.aload_n 0, 1) := by decide +kernel
theorem dX10_land_59 : decode cX10_land 59 = .ok (.getfield 35, 3) := by decide +kernel
theorem dX10_land_62 : decode cX10_land 62 = .ok (.iconst 0, 1) := by decide +kernel
theorem dX10_land_63 : decode cX10_land 63 = .ok (.putfield 112, 3) := by decide +kernel
theorem dX10_land_66 : decode cX10_land 66 = .ok (.iconst 0, 1) := by decide +kernel
theorem dX10_land_67 : decode cX10_land 67 = .ok (.istore_n 1, 1) := by decide +kernel
theorem dX10_land_68 : decode cX10_land 68 = .ok (.iload_n 1, 1) := by decide +kernel
theorem dX10_land_69 : decode cX10_land 69 = .ok (.iconst 2, 1) := by decide +kernel
theorem dX10_land_70 : decode cX10_land 70 = .ok (.if_icmp .ge 19, 3) := by decide +kernel
theorem dX10_land_73 : decode cX10_land 73 = .ok (.aload_n 0, 1) := by decide +kernel
theorem dX10_land_74 : decode cX10_land 74 = .ok (.getfield 41, 3) := by decide +kernel
theorem dX10_land_77 : decode cX10_land 77 = .ok (.iload_n 1, 1) := by decide +kernel
theorem dX10_land_78 : decode cX10_land 78 = .ok (.aaload, 1) := by decide +kernel
theorem dX10_land_79 : decode cX10_land 79 = .ok (.iconst 0, 1) := by decide +kernel
theorem dX10_land_80 : decode cX10_land 80 = .ok (.putfield 115, 3) := by decide +kernel
theorem dX10_land_83 : decode cX10_land 83 = .ok (.iinc 1 1, 3) := by decide +kernel
theorem dX10_land_86 : decode cX10_land 86 = .ok (.goto (-18), 3) := by decide +kernel
theorem dX10_land_89 : decode cX10_land 89 = .ok (.aload_n 0, 1) := by decide +kernel
theorem dX10_land_90 : decode cX10_land 90 = .ok (.getfield 21, 3) := by decide +kernel
theorem dX10_land_93 : decode cX10_land 93 = .ok (.getfield 119, 3) := by decide +kernel
theorem dX10_land_96 : decode cX10_land 96 = .ok (.ireturn, 1) := by decide +kernel
theorem dX10_fault_0 : decode cX10_fault 0 = .ok (.aload_n 0, 1) := by decide +kernel
theorem dX10_fault_1 : decode cX10_fault 1 = .ok (.getfield 83, 3) := by decide +kernel
theorem dX10_fault_4 : decode cX10_fault 4 = .ok (.ireturn, 1) := by decide +kernel
theorem dX10_far_0 : decode cX10_far 0 = .ok (.aload_n 0, 1) := by decide +kernel
theorem dX10_far_1 : decode cX10_far 1 = .ok (.getfield 28, 3) := by decide +kernel
theorem dX10_far_4 : decode cX10_far 4 = .ok (.iload_n 1, 1) := by decide +kernel
theorem dX10_far_5 : decode cX10_far 5 = .ok (.iload_n 2, 1) := by decide +kernel
theorem dX10_far_6 : decode cX10_far 6 = .ok (.invokevirtual 122, 3) := by decide +kernel
theorem dX10_far_9 : decode cX10_far 9 = .ok (.ifCond .eq 15, 3) := by decide +kernel
theorem dX10_far_12 : decode cX10_far 12 = .ok (.aload_n 0, 1) := by decide +kernel
theorem dX10_far_13 : decode cX10_far 13 = .ok (.getfield 28, 3) := by decide +kernel
theorem dX10_far_16 : decode cX10_far 16 = .ok (.iload_n 1, 1) := by decide +kernel
theorem dX10_far_17 : decode cX10_far 17 = .ok (.iload_n 2, 1) := by decide +kernel
theorem dX10_far_18 : decode cX10_far 18 = .ok (.invokevirtual 126, 3) := by decide +kernel
theorem dX10_far_21 : decode cX10_far 21 = .ok (.goto 4, 3) := by decide +kernel
theorem dX10_far_24 : decode cX10_far 24 = .ok (.iconst (-1), 1) := by decide +kernel
theorem dX10_far_25 : decode cX10_far 25 = .ok (.ireturn, 1) := by decide +kernel
theorem dX10_tell_0 : decode cX10_tell 0 = .ok (.aload_n 0, 1) := by decide +kernel
theorem dX10_tell_1 : decode cX10_tell 1 = .ok (.getfield 28, 3) := by decide +kernel
theorem dX10_tell_4 : decode cX10_tell 4 = .ok (.iload_n 1, 1) := by decide +kernel
theorem dX10_tell_5 : decode cX10_tell 5 = .ok (.iload_n 2, 1) := by decide +kernel
theorem dX10_tell_6 : decode cX10_tell 6 = .ok (.invokevirtual 122, 3) := by decide +kernel
theorem dX10_tell_9 : decode cX10_tell 9 = .ok (.ifCond .eq 16, 3) := by decide +kernel
theorem dX10_tell_12 : decode cX10_tell 12 = .ok (.iload_n 3, 1) := by decide +kernel
theorem dX10_tell_13 : decode cX10_tell 13 = .ok (.bipush (-4), 2) := by decide +kernel
theorem dX10_tell_15 : decode cX10_tell 15 = .ok (.if_icmp .eq 12, 3) := by decide +kernel
theorem dX10_tell_18 : decode cX10_tell 18 = .ok (.iload_n 3, 1) := by decide +kernel
theorem dX10_tell_19 : decode cX10_tell 19 = .ok (.invokestatic 130, 3) := by decide +kernel
theorem dX10_tell_22 : decode cX10_tell 22 = .ok (.ifCond .ne 5, 3) := by decide +kernel
theorem dX10_tell_25 : decode cX10_tell 25 = .ok (.iconst (-1), 1) := by decide +kernel
theorem dX10_tell_26 : decode cX10_tell 26 = .ok (.ireturn, 1) := by decide +kernel
theorem dX10_tell_27 : decode cX10_tell 27 = .ok (.aload_n 0, 1) := by decide +kernel
theorem dX10_tell_28 : decode cX10_tell 28 = .ok (.getfield 28, 3) := by decide +kernel
theorem dX10_tell_31 : decode cX10_tell 31 = .ok (.iload_n 1, 1) := by decide +kernel
theorem dX10_tell_32 : decode cX10_tell 32 = .ok (.iload_n 2, 1) := by decide +kernel
theorem dX10_tell_33 : decode cX10_tell 33 = .ok (.invokevirtual 126, 3) := by decide +kernel
theorem dX10_tell_36 : decode cX10_tell 36 = .ok (.istore 4, 2) := by decide +kernel
theorem dX10_tell_38 : decode cX10_tell 38 = .ok (.aload_n 0, 1) := by decide +kernel
theorem dX10_tell_39 : decode cX10_tell 39 = .ok (.getfield 28, 3) := by decide +kernel
theorem dX10_tell_42 : decode cX10_tell 42 = .ok (.iload_n 1, 1) := by decide +kernel
theorem dX10_tell_43 : decode cX10_tell 43 = .ok (.iload_n 2, 1) := by decide +kernel
theorem dX10_tell_44 : decode cX10_tell 44 = .ok (.iload_n 3, 1) := by decide +kernel
theorem dX10_tell_45 : decode cX10_tell 45 = .ok (.bipush (-4), 2) := by decide +kernel
theorem dX10_tell_47 : decode cX10_tell 47 = .ok (.if_icmp .ne 7, 3) := by decide +kernel
theorem dX10_tell_50 : decode cX10_tell 50 = .ok (.iconst 0, 1) := by decide +kernel
theorem dX10_tell_51 : decode cX10_tell 51 = .ok (.goto 4, 3) := by decide +kernel
theorem dX10_tell_54 : decode cX10_tell 54 = .ok (.iload_n 3, 1) := by decide +kernel
theorem dX10_tell_55 : decode cX10_tell 55 = .ok (.invokevirtual 134, 3) := by decide +kernel
theorem dX10_tell_58 : decode cX10_tell 58 = .ok (.iload 4, 2) := by decide +kernel
theorem dX10_tell_60 : decode cX10_tell 60 = .ok (.ireturn, 1) := by decide +kernel
theorem dX10_pair_0 : decode cX10_pair 0 = .ok (.aload_n 0, 1) := by decide +kernel
theorem dX10_pair_1 : decode cX10_pair 1 = .ok (.getfield 28, 3) := by decide +kernel
theorem dX10_pair_4 : decode cX10_pair 4 = .ok (.iload_n 1, 1) := by decide +kernel
theorem dX10_pair_5 : decode cX10_pair 5 = .ok (.iload_n 2, 1) := by decide +kernel
theorem dX10_pair_6 : decode cX10_pair 6 = .ok (.invokevirtual 122, 3) := by decide +kernel
theorem dX10_pair_9 : decode cX10_pair 9 = .ok (.ifCond .eq 11, 3) := by decide +kernel
theorem dX10_pair_12 : decode cX10_pair 12 = .ok (.iload_n 1, 1) := by decide +kernel
theorem dX10_pair_13 : decode cX10_pair 13 = .ok (.iload_n 2, 1) := by decide +kernel
theorem dX10_pair_14 : decode cX10_pair 14 = .ok (.invokestatic 138, 3) := by decide +kernel
theorem dX10_pair_17 : decode cX10_pair 17 = .ok (.goto 4, 3) := by decide +kernel
theorem dX10_pair_20 : decode cX10_pair 20 = .ok (.iconst (-1), 1) := by decide +kernel
theorem dX10_pair_21 : decode cX10_pair 21 = .ok (.ireturn, 1) := by decide +kernel
theorem dX10_wide_0 : decode cX10_wide 0 = .ok (.aload_n 0, 1) := by decide +kernel
theorem dX10_wide_1 : decode cX10_wide 1 = .ok (.getfield 28, 3) := by decide +kernel
theorem dX10_wide_4 : decode cX10_wide 4 = .ok (.iload_n 1, 1) := by decide +kernel
theorem dX10_wide_5 : decode cX10_wide 5 = .ok (.iload_n 2, 1) := by decide +kernel
theorem dX10_wide_6 : decode cX10_wide 6 = .ok (.iload_n 3, 1) := by decide +kernel
theorem dX10_wide_7 : decode cX10_wide 7 = .ok (.invokevirtual 141, 3) := by decide +kernel
theorem dX10_wide_10 : decode cX10_wide 10 = .ok (.ifCond .ne 7, 3) := by decide +kernel
theorem dX10_wide_13 : decode cX10_wide 13 = .ok (.ldc2_w 145, 3) := by decide +kernel
theorem dX10_wide_16 : decode cX10_wide 16 = .ok (.lreturn, 1) := by decide +kernel
theorem dX10_wide_17 : decode cX10_wide 17 = .ok (.aload_n 0, 1) := by decide +kernel
theorem dX10_wide_18 : decode cX10_wide 18 = .ok (.getfield 28, 3) := by decide +kernel
theorem dX10_wide_21 : decode cX10_wide 21 = .ok (.iload_n 1, 1) := by decide +kernel
theorem dX10_wide_22 : decode cX10_wide 22 = .ok (.iload_n 2, 1) := by decide +kernel
theorem dX10_wide_23 : decode cX10_wide 23 = .ok (.iload_n 3, 1) := by decide +kernel
theorem dX10_wide_24 : decode cX10_wide 24 = .ok (.invokevirtual 147, 3) := by decide +kernel
theorem dX10_wide_27 : decode cX10_wide 27 = .ok (.ifCond .eq 16, 3) := by decide +kernel
theorem dX10_wide_30 : decode cX10_wide 30 = .ok (.aload_n 0, 1) := by decide +kernel
theorem dX10_wide_31 : decode cX10_wide 31 = .ok (.getfield 28, 3) := by decide +kernel
theorem dX10_wide_34 : decode cX10_wide 34 = .ok (.iload_n 1, 1) := by decide +kernel
theorem dX10_wide_35 : decode cX10_wide 35 = .ok (.iload_n 2, 1) := by decide +kernel
theorem dX10_wide_36 : decode cX10_wide 36 = .ok (.iload_n 3, 1) := by decide +kernel
theorem dX10_wide_37 : decode cX10_wide 37 = .ok (.invokevirtual 150, 3) := by decide +kernel
theorem dX10_wide_40 : decode cX10_wide 40 = .ok (.goto 6, 3) := by decide +kernel
theorem dX10_wide_43 : decode cX10_wide 43 = .ok (.ldc2_w 154, 3) := by decide +kernel
theorem dX10_wide_46 : decode cX10_wide 46 = .ok (.lreturn, 1) := by decide +kernel
theorem dX10_three_0 : decode cX10_three 0 = .ok (.aload_n 0, 1) := by decide +kernel
theorem dX10_three_1 : decode cX10_three 1 = .ok (.getfield 28, 3) := by decide +kernel
theorem dX10_three_4 : decode cX10_three 4 = .ok (.iload_n 1, 1) := by decide +kernel
theorem dX10_three_5 : decode cX10_three 5 = .ok (.iload_n 2, 1) := by decide +kernel
theorem dX10_three_6 : decode cX10_three 6 = .ok (.iload_n 3, 1) := by decide +kernel
theorem dX10_three_7 : decode cX10_three 7 = .ok (.invokevirtual 141, 3) := by decide +kernel
theorem dX10_three_10 : decode cX10_three 10 = .ok (.ifCond .ne 5, 3) := by decide +kernel
theorem dX10_three_13 : decode cX10_three 13 = .ok (.iconst (-1), 1) := by decide +kernel
theorem dX10_three_14 : decode cX10_three 14 = .ok (.ireturn, 1) := by decide +kernel
theorem dX10_three_15 : decode cX10_three 15 = .ok (.aload_n 0, 1) := by decide +kernel
theorem dX10_three_16 : decode cX10_three 16 = .ok (.getfield 28, 3) := by decide +kernel
theorem dX10_three_19 : decode cX10_three 19 = .ok (.iload_n 1, 1) := by decide +kernel
theorem dX10_three_20 : decode cX10_three 20 = .ok (.iload_n 2, 1) := by decide +kernel
theorem dX10_three_21 : decode cX10_three 21 = .ok (.iload_n 3, 1) := by decide +kernel
theorem dX10_three_22 : decode cX10_three 22 = .ok (.invokevirtual 147, 3) := by decide +kernel
theorem dX10_three_25 : decode cX10_three 25 = .ok (.ifCond .ne 6, 3) := by decide +kernel
theorem dX10_three_28 : decode cX10_three 28 = .ok (.bipush (-4), 2) := by decide +kernel
theorem dX10_three_30 : decode cX10_three 30 = .ok (.ireturn, 1) := by decide +kernel
theorem dX10_three_31 : decode cX10_three 31 = .ok (.aload_n 0, 1) := by decide +kernel
theorem dX10_three_32 : decode cX10_three 32 = .ok (.getfield 28, 3) := by decide +kernel
theorem dX10_three_35 : decode cX10_three 35 = .ok (.iload_n 1, 1) := by decide +kernel
theorem dX10_three_36 : decode cX10_three 36 = .ok (.iload_n 2, 1) := by decide +kernel
theorem dX10_three_37 : decode cX10_three 37 = .ok (.iload_n 3, 1) := by decide +kernel
theorem dX10_three_38 : decode cX10_three 38 = .ok (.invokevirtual 156, 3) := by decide +kernel
theorem dX10_three_41 : decode cX10_three 41 = .ok (.invokestatic 159, 3) := by decide +kernel
theorem dX10_three_44 : decode cX10_three 44 = .ok (.ireturn, 1) := by decide +kernel
theorem dX10_four_0 : decode cX10_four 0 = .ok (.aload_n 0, 1) := by decide +kernel
theorem dX10_four_1 : decode cX10_four 1 = .ok (.getfield 28, 3) := by decide +kernel
theorem dX10_four_4 : decode cX10_four 4 = .ok (.iload_n 1, 1) := by decide +kernel
theorem dX10_four_5 : decode cX10_four 5 = .ok (.iload_n 2, 1) := by decide +kernel
theorem dX10_four_6 : decode cX10_four 6 = .ok (.iload_n 3, 1) := by decide +kernel
theorem dX10_four_7 : decode cX10_four 7 = .ok (.iload 4, 2) := by decide +kernel
theorem dX10_four_9 : decode cX10_four 9 = .ok (.invokevirtual 163, 3) := by decide +kernel
theorem dX10_four_12 : decode cX10_four 12 = .ok (.ifCond .ne 5, 3) := by decide +kernel
theorem dX10_four_15 : decode cX10_four 15 = .ok (.iconst (-1), 1) := by decide +kernel
theorem dX10_four_16 : decode cX10_four 16 = .ok (.ireturn, 1) := by decide +kernel
theorem dX10_four_17 : decode cX10_four 17 = .ok (.aload_n 0, 1) := by decide +kernel
theorem dX10_four_18 : decode cX10_four 18 = .ok (.getfield 28, 3) := by decide +kernel
theorem dX10_four_21 : decode cX10_four 21 = .ok (.iload_n 1, 1) := by decide +kernel
theorem dX10_four_22 : decode cX10_four 22 = .ok (.iload_n 2, 1) := by decide +kernel
theorem dX10_four_23 : decode cX10_four 23 = .ok (.iload_n 3, 1) := by decide +kernel
theorem dX10_four_24 : decode cX10_four 24 = .ok (.iload 4, 2) := by decide +kernel
theorem dX10_four_26 : decode cX10_four 26 = .ok (.invokevirtual 167, 3) := by decide +kernel
theorem dX10_four_29 : decode cX10_four 29 = .ok (.ifCond .ne 6, 3) := by decide +kernel
theorem dX10_four_32 : decode cX10_four 32 = .ok (.bipush (-4), 2) := by decide +kernel
theorem dX10_four_34 : decode cX10_four 34 = .ok (.ireturn, 1) := by decide +kernel
theorem dX10_four_35 : decode cX10_four 35 = .ok (.aload_n 0, 1) := by decide +kernel
theorem dX10_four_36 : decode cX10_four 36 = .ok (.getfield 28, 3) := by decide +kernel
theorem dX10_four_39 : decode cX10_four 39 = .ok (.iload_n 1, 1) := by decide +kernel
theorem dX10_four_40 : decode cX10_four 40 = .ok (.iload_n 2, 1) := by decide +kernel
theorem dX10_four_41 : decode cX10_four 41 = .ok (.iload_n 3, 1) := by decide +kernel
theorem dX10_four_42 : decode cX10_four 42 = .ok (.iload 4, 2) := by decide +kernel
theorem dX10_four_44 : decode cX10_four 44 = .ok (.invokevirtual 170, 3) := by decide +kernel
theorem dX10_four_47 : decode cX10_four 47 = .ok (.invokestatic 159, 3) := by decide +kernel
theorem dX10_four_50 : decode cX10_four 50 = .ok (.ireturn, 1) := by decide +kernel
theorem dX10_wrong_0 : decode cX10_wrong 0 = .ok (.iload_n 1, 1) := by decide +kernel
theorem dX10_wrong_1 : decode cX10_wrong 1 = .ok (.ifCond .lt 8, 3) := by decide +kernel
theorem dX10_wrong_4 : decode cX10_wrong 4 = .ok (.iload_n 1, 1) := by decide +kernel
theorem dX10_wrong_5 : decode cX10_wrong 5 = .ok (.iconst 3, 1) := by decide +kernel
theorem dX10_wrong_6 : decode cX10_wrong 6 = .ok (.if_icmp .le 5, 3) := by decide +kernel
theorem dX10_wrong_9 : decode cX10_wrong 9 = .ok (.iconst (-1), 1) := by decide +kernel
theorem dX10_wrong_10 : decode cX10_wrong 10 = .ok (.ireturn, 1) := by decide +kernel
theorem dX10_wrong_11 : decode cX10_wrong 11 = .ok (.aload_n 0, 1) := by decide +kernel
theorem dX10_wrong_12 : decode cX10_wrong 12 = .ok (.getfield 56, 3) := by decide +kernel
theorem dX10_wrong_15 : decode cX10_wrong 15 = .ok (.aload_n 0, 1) := by decide +kernel
theorem dX10_wrong_16 : decode cX10_wrong 16 = .ok (.getfield 28, 3) := by decide +kernel
theorem dX10_wrong_19 : decode cX10_wrong 19 = .ok (.invokevirtual 173, 3) := by decide +kernel
theorem dX10_wrong_22 : decode cX10_wrong 22 = .ok (.iload_n 1, 1) := by decide +kernel
theorem dX10_wrong_23 : decode cX10_wrong 23 = .ok (.tableswitch 49 0 2 #[25, 33, 41], 25) := by decide +kernel
theorem dX10_wrong_48 : decode cX10_wrong 48 = .ok (.aload_n 0, 1) := by decide +kernel
theorem dX10_wrong_49 : decode cX10_wrong 49 = .ok (.getfield 56, 3) := by decide +kernel
theorem dX10_wrong_52 : decode cX10_wrong 52 = .ok (.getfield 176, 3) := by decide +kernel
theorem dX10_wrong_55 : decode cX10_wrong 55 = .ok (.ireturn, 1) := by decide +kernel
theorem dX10_wrong_56 : decode cX10_wrong 56 = .ok (.aload_n 0, 1) := by decide +kernel
theorem dX10_wrong_57 : decode cX10_wrong 57 = .ok (.getfield 56, 3) := by decide +kernel
theorem dX10_wrong_60 : decode cX10_wrong 60 = .ok (.getfield 179, 3) := by decide +kernel
theorem dX10_wrong_63 : decode cX10_wrong 63 = .ok (.ireturn, 1) := by decide +kernel
theorem dX10_wrong_64 : decode cX10_wrong 64 = .ok (.aload_n 0, 1) := by decide +kernel
theorem dX10_wrong_65 : decode cX10_wrong 65 = .ok (.getfield 56, 3) := by decide +kernel
theorem dX10_wrong_68 : decode cX10_wrong 68 = .ok (.getfield 182, 3) := by decide +kernel
theorem dX10_wrong_71 : decode cX10_wrong 71 = .ok (.ireturn, 1) := by decide +kernel
theorem dX10_wrong_72 : decode cX10_wrong 72 = .ok (.aload_n 0, 1) := by decide +kernel
theorem dX10_wrong_73 : decode cX10_wrong 73 = .ok (.getfield 56, 3) := by decide +kernel
theorem dX10_wrong_76 : decode cX10_wrong 76 = .ok (.getfield 185, 3) := by decide +kernel
theorem dX10_wrong_79 : decode cX10_wrong 79 = .ok (.ireturn, 1) := by decide +kernel
theorem dX10_falses_0 : decode cX10_falses 0 = .ok (.iload_n 1, 1) := by decide +kernel
theorem dX10_falses_1 : decode cX10_falses 1 = .ok (.ifCond .lt 8, 3) := by decide +kernel
theorem dX10_falses_4 : decode cX10_falses 4 = .ok (.iload_n 1, 1) := by decide +kernel
theorem dX10_falses_5 : decode cX10_falses 5 = .ok (.iconst 1, 1) := by decide +kernel
theorem dX10_falses_6 : decode cX10_falses 6 = .ok (.if_icmp .le 5, 3) := by decide +kernel
theorem dX10_falses_9 : decode cX10_falses 9 = .ok (.iconst (-1), 1) := by decide +kernel
theorem dX10_falses_10 : decode cX10_falses 10 = .ok (.ireturn, 1) := by decide +kernel
theorem dX10_falses_11 : decode cX10_falses 11 = .ok (.aload_n 0, 1) := by decide +kernel
theorem dX10_falses_12 : decode cX10_falses 12 = .ok (.getfield 56, 3) := by decide +kernel
theorem dX10_falses_15 : decode cX10_falses 15 = .ok (.aload_n 0, 1) := by decide +kernel
theorem dX10_falses_16 : decode cX10_falses 16 = .ok (.getfield 28, 3) := by decide +kernel
theorem dX10_falses_19 : decode cX10_falses 19 = .ok (.invokevirtual 173, 3) := by decide +kernel
theorem dX10_falses_22 : decode cX10_falses 22 = .ok (.aload_n 0, 1) := by decide +kernel
theorem dX10_falses_23 : decode cX10_falses 23 = .ok (.getfield 56, 3) := by decide +kernel
theorem dX10_falses_26 : decode cX10_falses 26 = .ok (.invokevirtual 188, 3) := by decide +kernel
theorem dX10_falses_29 : decode cX10_falses 29 = .ok (.istore_n 2, 1) := by decide +kernel
theorem dX10_falses_30 : decode cX10_falses 30 = .ok (.iload_n 2, 1) := by decide +kernel
theorem dX10_falses_31 : decode cX10_falses 31 = .ok (.iconst (-1), 1) := by decide +kernel
theorem dX10_falses_32 : decode cX10_falses 32 = .ok (.if_icmp .ne 6, 3) := by decide +kernel
theorem dX10_falses_35 : decode cX10_falses 35 = .ok (.bipush (-4), 2) := by decide +kernel
theorem dX10_falses_37 : decode cX10_falses 37 = .ok (.ireturn, 1) := by decide +kernel
theorem dX10_falses_38 : decode cX10_falses 38 = .ok (.iload_n 1, 1) := by decide +kernel
theorem dX10_falses_39 : decode cX10_falses 39 = .ok (.ifCond .ne 10, 3) := by decide +kernel
theorem dX10_falses_42 : decode cX10_falses 42 = .ok (.iload_n 2, 1) := by decide +kernel
theorem dX10_falses_43 : decode cX10_falses 43 = .ok (.invokestatic 192, 3) := by decide +kernel
theorem dX10_falses_46 : decode cX10_falses 46 = .ok (.goto 4, 3) := by decide +kernel
theorem dX10_falses_49 : decode cX10_falses 49 = .ok (.iload_n 2, 1) := by decide +kernel
theorem dX10_falses_50 : decode cX10_falses 50 = .ok (.ireturn, 1) := by decide +kernel
theorem dX10_doubt_0 : decode cX10_doubt 0 = .ok (.iload_n 1, 1) := by decide +kernel
theorem dX10_doubt_1 : decode cX10_doubt 1 = .ok (.ifCond .lt 8, 3) := by decide +kernel
theorem dX10_doubt_4 : decode cX10_doubt 4 = .ok (.iload_n 1, 1) := by decide +kernel
theorem dX10_doubt_5 : decode cX10_doubt 5 = .ok (.iconst 1, 1) := by decide +kernel
theorem dX10_doubt_6 : decode cX10_doubt 6 = .ok (.if_icmp .le 5, 3) := by decide +kernel
theorem dX10_doubt_9 : decode cX10_doubt 9 = .ok (.iconst (-1), 1) := by decide +kernel
theorem dX10_doubt_10 : decode cX10_doubt 10 = .ok (.ireturn, 1) := by decide +kernel
theorem dX10_doubt_11 : decode cX10_doubt 11 = .ok (.aload_n 0, 1) := by decide +kernel
theorem dX10_doubt_12 : decode cX10_doubt 12 = .ok (.getfield 56, 3) := by decide +kernel
theorem dX10_doubt_15 : decode cX10_doubt 15 = .ok (.aload_n 0, 1) := by decide +kernel
theorem dX10_doubt_16 : decode cX10_doubt 16 = .ok (.getfield 28, 3) := by decide +kernel
theorem dX10_doubt_19 : decode cX10_doubt 19 = .ok (.invokevirtual 173, 3) := by decide +kernel
theorem dX10_doubt_22 : decode cX10_doubt 22 = .ok (.aload_n 0, 1) := by decide +kernel
theorem dX10_doubt_23 : decode cX10_doubt 23 = .ok (.getfield 56, 3) := by decide +kernel
theorem dX10_doubt_26 : decode cX10_doubt 26 = .ok (.invokevirtual 198, 3) := by decide +kernel
theorem dX10_doubt_29 : decode cX10_doubt 29 = .ok (.istore_n 2, 1) := by decide +kernel
theorem dX10_doubt_30 : decode cX10_doubt 30 = .ok (.iload_n 2, 1) := by decide +kernel
theorem dX10_doubt_31 : decode cX10_doubt 31 = .ok (.iconst (-1), 1) := by decide +kernel
theorem dX10_doubt_32 : decode cX10_doubt 32 = .ok (.if_icmp .ne 6, 3) := by decide +kernel
theorem dX10_doubt_35 : decode cX10_doubt 35 = .ok (.bipush (-4), 2) := by decide +kernel
theorem dX10_doubt_37 : decode cX10_doubt 37 = .ok (.ireturn, 1) := by decide +kernel
theorem dX10_doubt_38 : decode cX10_doubt 38 = .ok (.iload_n 1, 1) := by decide +kernel
theorem dX10_doubt_39 : decode cX10_doubt 39 = .ok (.ifCond .ne 7, 3) := by decide +kernel
theorem dX10_doubt_42 : decode cX10_doubt 42 = .ok (.iload_n 2, 1) := by decide +kernel
theorem dX10_doubt_43 : decode cX10_doubt 43 = .ok (.goto 11, 3) := by decide +kernel
theorem dX10_doubt_46 : decode cX10_doubt 46 = .ok (.aload_n 0, 1) := by decide +kernel
theorem dX10_doubt_47 : decode cX10_doubt 47 = .ok (.getfield 56, 3) := by decide +kernel
theorem dX10_doubt_50 : decode cX10_doubt 50 = .ok (.iload_n 2, 1) := by decide +kernel
theorem dX10_doubt_51 : decode cX10_doubt 51 = .ok (.invokevirtual 201, 3) := by decide +kernel
theorem dX10_doubt_54 : decode cX10_doubt 54 = .ok (.ireturn, 1) := by decide +kernel
theorem dX10_bend_0 : decode cX10_bend 0 = .ok (.aload_n 0, 1) := by decide +kernel
theorem dX10_bend_1 : decode cX10_bend 1 = .ok (.getfield 28, 3) := by decide +kernel
theorem dX10_bend_4 : decode cX10_bend 4 = .ok (.iload_n 1, 1) := by decide +kernel
theorem dX10_bend_5 : decode cX10_bend 5 = .ok (.iload_n 2, 1) := by decide +kernel
theorem dX10_bend_6 : decode cX10_bend 6 = .ok (.iload_n 3, 1) := by decide +kernel
theorem dX10_bend_7 : decode cX10_bend 7 = .ok (.invokevirtual 141, 3) := by decide +kernel
theorem dX10_bend_10 : decode cX10_bend 10 = .ok (.ifCond .ne 5, 3) := by decide +kernel
theorem dX10_bend_13 : decode cX10_bend 13 = .ok (.iconst (-1), 1) := by decide +kernel
theorem dX10_bend_14 : decode cX10_bend 14 = .ok (.ireturn, 1) := by decide +kernel
theorem dX10_bend_15 : decode cX10_bend 15 = .ok (.aload_n 0, 1) := by decide +kernel
theorem dX10_bend_16 : decode cX10_bend 16 = .ok (.getfield 28, 3) := by decide +kernel
theorem dX10_bend_19 : decode cX10_bend 19 = .ok (.iload_n 1, 1) := by decide +kernel
theorem dX10_bend_20 : decode cX10_bend 20 = .ok (.iload_n 2, 1) := by decide +kernel
theorem dX10_bend_21 : decode cX10_bend 21 = .ok (.iload_n 3, 1) := by decide +kernel
theorem dX10_bend_22 : decode cX10_bend 22 = .ok (.invokevirtual 147, 3) := by decide +kernel
theorem dX10_bend_25 : decode cX10_bend 25 = .ok (.ifCond .ne 6, 3) := by decide +kernel
theorem dX10_bend_28 : decode cX10_bend 28 = .ok (.bipush (-4), 2) := by decide +kernel
theorem dX10_bend_30 : decode cX10_bend 30 = .ok (.ireturn, 1) := by decide +kernel
theorem dX10_bend_31 : decode cX10_bend 31 = .ok (.aload_n 0, 1) := by decide +kernel
theorem dX10_bend_32 : decode cX10_bend 32 = .ok (.getfield 28, 3) := by decide +kernel
theorem dX10_bend_35 : decode cX10_bend 35 = .ok (.iload_n 2, 1) := by decide +kernel
theorem dX10_bend_36 : decode cX10_bend 36 = .ok (.iload_n 1, 1) := by decide +kernel
theorem dX10_bend_37 : decode cX10_bend 37 = .ok (.iload_n 3, 1) := by decide +kernel
theorem dX10_bend_38 : decode cX10_bend 38 = .ok (.invokevirtual 204, 3) := by decide +kernel
theorem dX10_bend_41 : decode cX10_bend 41 = .ok (.lstore 4, 2) := by decide +kernel
theorem dX10_bend_43 : decode cX10_bend 43 = .ok (.lload 4, 2) := by decide +kernel
theorem dX10_bend_45 : decode cX10_bend 45 = .ok (.lconst 0, 1) := by decide +kernel
theorem dX10_bend_46 : decode cX10_bend 46 = .ok (.lcmp, 1) := by decide +kernel
theorem dX10_bend_47 : decode cX10_bend 47 = .ok (.ifCond .ne 5, 3) := by decide +kernel
theorem dX10_bend_50 : decode cX10_bend 50 = .ok (.iconst 0, 1) := by decide +kernel
theorem dX10_bend_51 : decode cX10_bend 51 = .ok (.ireturn, 1) := by decide +kernel
theorem dX10_bend_52 : decode cX10_bend 52 = .ok (.lload 4, 2) := by decide +kernel
theorem dX10_bend_54 : decode cX10_bend 54 = .ok (.lconst 0, 1) := by decide +kernel
theorem dX10_bend_55 : decode cX10_bend 55 = .ok (.lcmp, 1) := by decide +kernel
theorem dX10_bend_56 : decode cX10_bend 56 = .ok (.ifCond .le 7, 3) := by decide +kernel
theorem dX10_bend_59 : decode cX10_bend 59 = .ok (.iconst 1, 1) := by decide +kernel
theorem dX10_bend_60 : decode cX10_bend 60 = .ok (.goto 4, 3) := by decide +kernel
theorem dX10_bend_63 : decode cX10_bend 63 = .ok (.iconst 2, 1) := by decide +kernel
theorem dX10_bend_64 : decode cX10_bend 64 = .ok (.ireturn, 1) := by decide +kernel
theorem dX10_foot_0 : decode cX10_foot 0 = .ok (.aload_n 0, 1) := by decide +kernel
theorem dX10_foot_1 : decode cX10_foot 1 = .ok (.iload_n 1, 1) := by decide +kernel
theorem dX10_foot_2 : decode cX10_foot 2 = .ok (.iload_n 2, 1) := by decide +kernel
theorem dX10_foot_3 : decode cX10_foot 3 = .ok (.iload_n 3, 1) := by decide +kernel
theorem dX10_foot_4 : decode cX10_foot 4 = .ok (.iload 4, 2) := by decide +kernel
theorem dX10_foot_6 : decode cX10_foot 6 = .ok (.invokevirtual 207, 3) := by decide +kernel
theorem dX10_foot_9 : decode cX10_foot 9 = .ok (.lstore 5, 2) := by decide +kernel
theorem dX10_foot_11 : decode cX10_foot 11 = .ok (.lload 5, 2) := by decide +kernel
theorem dX10_foot_13 : decode cX10_foot 13 = .ok (.lconst 0, 1) := by decide +kernel
theorem dX10_foot_14 : decode cX10_foot 14 = .ok (.lcmp, 1) := by decide +kernel
theorem dX10_foot_15 : decode cX10_foot 15 = .ok (.ifCond .eq 6, 3) := by decide +kernel
theorem dX10_foot_18 : decode cX10_foot 18 = .ok (.lload 5, 2) := by decide +kernel
theorem dX10_foot_20 : decode cX10_foot 20 = .ok (.lreturn, 1) := by decide +kernel
theorem dX10_foot_21 : decode cX10_foot 21 = .ok (.aload_n 0, 1) := by decide +kernel
theorem dX10_foot_22 : decode cX10_foot 22 = .ok (.getfield 28, 3) := by decide +kernel
theorem dX10_foot_25 : decode cX10_foot 25 = .ok (.iload_n 1, 1) := by decide +kernel
theorem dX10_foot_26 : decode cX10_foot 26 = .ok (.iload_n 2, 1) := by decide +kernel
theorem dX10_foot_27 : decode cX10_foot 27 = .ok (.iload_n 3, 1) := by decide +kernel
theorem dX10_foot_28 : decode cX10_foot 28 = .ok (.invokevirtual 204, 3) := by decide +kernel
theorem dX10_foot_31 : decode cX10_foot 31 = .ok (.ldc2_w 211, 3) := by decide +kernel
theorem dX10_foot_34 : decode cX10_foot 34 = .ok (.aload_n 0, 1) := by decide +kernel
theorem dX10_foot_35 : decode cX10_foot 35 = .ok (.getfield 28, 3) := by decide +kernel
theorem dX10_foot_38 : decode cX10_foot 38 = .ok (.iload_n 1, 1) := by decide +kernel
theorem dX10_foot_39 : decode cX10_foot 39 = .ok (.iload_n 2, 1) := by decide +kernel
theorem dX10_foot_40 : decode cX10_foot 40 = .ok (.invokevirtual 213, 3) := by decide +kernel
theorem dX10_foot_43 : decode cX10_foot 43 = .ok (.i2l, 1) := by decide +kernel
theorem dX10_foot_44 : decode cX10_foot 44 = .ok (.lmul, 1) := by decide +kernel
theorem dX10_foot_45 : decode cX10_foot 45 = .ok (.iload 4, 2) := by decide +kernel
theorem dX10_foot_47 : decode cX10_foot 47 = .ok (.invokestatic 216, 3) := by decide +kernel
theorem dX10_foot_50 : decode cX10_foot 50 = .ok (.lreturn, 1) := by decide +kernel
theorem dX10_height_0 : decode cX10_height 0 = .ok (.aload_n 0, 1) := by decide +kernel
theorem dX10_height_1 : decode cX10_height 1 = .ok (.iload_n 1, 1) := by decide +kernel
theorem dX10_height_2 : decode cX10_height 2 = .ok (.iload_n 2, 1) := by decide +kernel
theorem dX10_height_3 : decode cX10_height 3 = .ok (.iload_n 3, 1) := by decide +kernel
theorem dX10_height_4 : decode cX10_height 4 = .ok (.iload 4, 2) := by decide +kernel
theorem dX10_height_6 : decode cX10_height 6 = .ok (.invokevirtual 207, 3) := by decide +kernel
theorem dX10_height_9 : decode cX10_height 9 = .ok (.lstore 5, 2) := by decide +kernel
theorem dX10_height_11 : decode cX10_height 11 = .ok (.lload 5, 2) := by decide +kernel
theorem dX10_height_13 : decode cX10_height 13 = .ok (.lconst 0, 1) := by decide +kernel
theorem dX10_height_14 : decode cX10_height 14 = .ok (.lcmp, 1) := by decide +kernel
theorem dX10_height_15 : decode cX10_height 15 = .ok (.ifCond .eq 6, 3) := by decide +kernel
theorem dX10_height_18 : decode cX10_height 18 = .ok (.lload 5, 2) := by decide +kernel
theorem dX10_height_20 : decode cX10_height 20 = .ok (.lreturn, 1) := by decide +kernel
theorem dX10_height_21 : decode cX10_height 21 = .ok (.aload_n 0, 1) := by decide +kernel
theorem dX10_height_22 : decode cX10_height 22 = .ok (.getfield 28, 3) := by decide +kernel
theorem dX10_height_25 : decode cX10_height 25 = .ok (.iload_n 1, 1) := by decide +kernel
theorem dX10_height_26 : decode cX10_height 26 = .ok (.iload_n 2, 1) := by decide +kernel
theorem dX10_height_27 : decode cX10_height 27 = .ok (.iload_n 3, 1) := by decide +kernel
theorem dX10_height_28 : decode cX10_height 28 = .ok (.invokevirtual 150, 3) := by decide +kernel
theorem dX10_height_31 : decode cX10_height 31 = .ok (.ldc2_w 220, 3) := by decide +kernel
theorem dX10_height_34 : decode cX10_height 34 = .ok (.aload_n 0, 1) := by decide +kernel
theorem dX10_height_35 : decode cX10_height 35 = .ok (.getfield 28, 3) := by decide +kernel
theorem dX10_height_38 : decode cX10_height 38 = .ok (.iload_n 1, 1) := by decide +kernel
theorem dX10_height_39 : decode cX10_height 39 = .ok (.iload_n 2, 1) := by decide +kernel
theorem dX10_height_40 : decode cX10_height 40 = .ok (.invokevirtual 213, 3) := by decide +kernel
theorem dX10_height_43 : decode cX10_height 43 = .ok (.i2l, 1) := by decide +kernel
theorem dX10_height_44 : decode cX10_height 44 = .ok (.lmul, 1) := by decide +kernel
theorem dX10_height_45 : decode cX10_height 45 = .ok (.iload 4, 2) := by decide +kernel
theorem dX10_height_47 : decode cX10_height 47 = .ok (.invokestatic 216, 3) := by decide +kernel
theorem dX10_height_50 : decode cX10_height 50 = .ok (.lreturn, 1) := by decide +kernel
theorem dX10_round_0 : decode cX10_round 0 = .ok (.aload_n 0, 1) := by decide +kernel
theorem dX10_round_1 : decode cX10_round 1 = .ok (.iload_n 1, 1) := by decide +kernel
theorem dX10_round_2 : decode cX10_round 2 = .ok (.iload_n 2, 1) := by decide +kernel
theorem dX10_round_3 : decode cX10_round 3 = .ok (.iload_n 3, 1) := by decide +kernel
theorem dX10_round_4 : decode cX10_round 4 = .ok (.iload 4, 2) := by decide +kernel
theorem dX10_round_6 : decode cX10_round 6 = .ok (.invokevirtual 207, 3) := by decide +kernel
theorem dX10_round_9 : decode cX10_round 9 = .ok (.lstore 5, 2) := by decide +kernel
theorem dX10_round_11 : decode cX10_round 11 = .ok (.lload 5, 2) := by decide +kernel
theorem dX10_round_13 : decode cX10_round 13 = .ok (.lconst 0, 1) := by decide +kernel
theorem dX10_round_14 : decode cX10_round 14 = .ok (.lcmp, 1) := by decide +kernel
theorem dX10_round_15 : decode cX10_round 15 = .ok (.ifCond .eq 6, 3) := by decide +kernel
theorem dX10_round_18 : decode cX10_round 18 = .ok (.lload 5, 2) := by decide +kernel
theorem dX10_round_20 : decode cX10_round 20 = .ok (.lreturn, 1) := by decide +kernel
theorem dX10_round_21 : decode cX10_round 21 = .ok (.aload_n 0, 1) := by decide +kernel
theorem dX10_round_22 : decode cX10_round 22 = .ok (.getfield 28, 3) := by decide +kernel
theorem dX10_round_25 : decode cX10_round 25 = .ok (.iload_n 1, 1) := by decide +kernel
theorem dX10_round_26 : decode cX10_round 26 = .ok (.iload_n 2, 1) := by decide +kernel
theorem dX10_round_27 : decode cX10_round 27 = .ok (.iload_n 3, 1) := by decide +kernel
theorem dX10_round_28 : decode cX10_round 28 = .ok (.invokevirtual 150, 3) := by decide +kernel
theorem dX10_round_31 : decode cX10_round 31 = .ok (.lstore 7, 2) := by decide +kernel
theorem dX10_round_33 : decode cX10_round 33 = .ok (.lload 7, 2) := by decide +kernel
theorem dX10_round_35 : decode cX10_round 35 = .ok (.lconst 0, 1) := by decide +kernel
theorem dX10_round_36 : decode cX10_round 36 = .ok (.lcmp, 1) := by decide +kernel
theorem dX10_round_37 : decode cX10_round 37 = .ok (.ifCond .ne 7, 3) := by decide +kernel
theorem dX10_round_40 : decode cX10_round 40 = .ok (.ldc2_w 154, 3) := by decide +kernel
theorem dX10_round_43 : decode cX10_round 43 = .ok (.lreturn, 1) := by decide +kernel
theorem dX10_round_44 : decode cX10_round 44 = .ok (.aload_n 0, 1) := by decide +kernel
theorem dX10_round_45 : decode cX10_round 45 = .ok (.getfield 28, 3) := by decide +kernel
theorem dX10_round_48 : decode cX10_round 48 = .ok (.iload_n 1, 1) := by decide +kernel
theorem dX10_round_49 : decode cX10_round 49 = .ok (.iload_n 2, 1) := by decide +kernel
theorem dX10_round_50 : decode cX10_round 50 = .ok (.invokevirtual 213, 3) := by decide +kernel
theorem dX10_round_53 : decode cX10_round 53 = .ok (.i2l, 1) := by decide +kernel
theorem dX10_round_54 : decode cX10_round 54 = .ok (.aload_n 0, 1) := by decide +kernel
theorem dX10_round_55 : decode cX10_round 55 = .ok (.getfield 28, 3) := by decide +kernel
theorem dX10_round_58 : decode cX10_round 58 = .ok (.iload_n 1, 1) := by decide +kernel
theorem dX10_round_59 : decode cX10_round 59 = .ok (.iload_n 3, 1) := by decide +kernel
theorem dX10_round_60 : decode cX10_round 60 = .ok (.invokevirtual 213, 3) := by decide +kernel
theorem dX10_round_63 : decode cX10_round 63 = .ok (.i2l, 1) := by decide +kernel
theorem dX10_round_64 : decode cX10_round 64 = .ok (.lmul, 1) := by decide +kernel
theorem dX10_round_65 : decode cX10_round 65 = .ok (.aload_n 0, 1) := by decide +kernel
theorem dX10_round_66 : decode cX10_round 66 = .ok (.getfield 28, 3) := by decide +kernel
theorem dX10_round_69 : decode cX10_round 69 = .ok (.iload_n 2, 1) := by decide +kernel
theorem dX10_round_70 : decode cX10_round 70 = .ok (.iload_n 3, 1) := by decide +kernel
theorem dX10_round_71 : decode cX10_round 71 = .ok (.invokevirtual 213, 3) := by decide +kernel
theorem dX10_round_74 : decode cX10_round 74 = .ok (.i2l, 1) := by decide +kernel
theorem dX10_round_75 : decode cX10_round 75 = .ok (.lmul, 1) := by decide +kernel
theorem dX10_round_76 : decode cX10_round 76 = .ok (.lstore 9, 2) := by decide +kernel
theorem dX10_round_78 : decode cX10_round 78 = .ok (.lload 9, 2) := by decide +kernel
theorem dX10_round_80 : decode cX10_round 80 = .ok (.lload 7, 2) := by decide +kernel
theorem dX10_round_82 : decode cX10_round 82 = .ok (.iload 4, 2) := by decide +kernel
theorem dX10_round_84 : decode cX10_round 84 = .ok (.invokestatic 216, 3) := by decide +kernel
theorem dX10_round_87 : decode cX10_round 87 = .ok (.lreturn, 1) := by decide +kernel
theorem dX10_side_0 : decode cX10_side 0 = .ok (.aload_n 0, 1) := by decide +kernel
theorem dX10_side_1 : decode cX10_side 1 = .ok (.getfield 28, 3) := by decide +kernel
theorem dX10_side_4 : decode cX10_side 4 = .ok (.iload_n 1, 1) := by decide +kernel
theorem dX10_side_5 : decode cX10_side 5 = .ok (.iload_n 2, 1) := by decide +kernel
theorem dX10_side_6 : decode cX10_side 6 = .ok (.iload_n 3, 1) := by decide +kernel
theorem dX10_side_7 : decode cX10_side 7 = .ok (.iload 4, 2) := by decide +kernel
theorem dX10_side_9 : decode cX10_side 9 = .ok (.invokevirtual 163, 3) := by decide +kernel
theorem dX10_side_12 : decode cX10_side 12 = .ok (.ifCond .ne 5, 3) := by decide +kernel
theorem dX10_side_15 : decode cX10_side 15 = .ok (.iconst (-1), 1) := by decide +kernel
theorem dX10_side_16 : decode cX10_side 16 = .ok (.ireturn, 1) := by decide +kernel
theorem dX10_side_17 : decode cX10_side 17 = .ok (.aload_n 0, 1) := by decide +kernel
theorem dX10_side_18 : decode cX10_side 18 = .ok (.getfield 28, 3) := by decide +kernel
theorem dX10_side_21 : decode cX10_side 21 = .ok (.iload_n 1, 1) := by decide +kernel
theorem dX10_side_22 : decode cX10_side 22 = .ok (.iload_n 2, 1) := by decide +kernel
theorem dX10_side_23 : decode cX10_side 23 = .ok (.iload_n 3, 1) := by decide +kernel
theorem dX10_side_24 : decode cX10_side 24 = .ok (.iload 4, 2) := by decide +kernel
theorem dX10_side_26 : decode cX10_side 26 = .ok (.invokevirtual 167, 3) := by decide +kernel
theorem dX10_side_29 : decode cX10_side 29 = .ok (.ifCond .eq 18, 3) := by decide +kernel
theorem dX10_side_32 : decode cX10_side 32 = .ok (.aload_n 0, 1) := by decide +kernel
theorem dX10_side_33 : decode cX10_side 33 = .ok (.getfield 28, 3) := by decide +kernel
theorem dX10_side_36 : decode cX10_side 36 = .ok (.iload_n 1, 1) := by decide +kernel
theorem dX10_side_37 : decode cX10_side 37 = .ok (.iload_n 2, 1) := by decide +kernel
theorem dX10_side_38 : decode cX10_side 38 = .ok (.iload_n 3, 1) := by decide +kernel
theorem dX10_side_39 : decode cX10_side 39 = .ok (.iload 4, 2) := by decide +kernel
theorem dX10_side_41 : decode cX10_side 41 = .ok (.invokevirtual 170, 3) := by decide +kernel
theorem dX10_side_44 : decode cX10_side 44 = .ok (.ifCond .ne 6, 3) := by decide +kernel
theorem dX10_side_47 : decode cX10_side 47 = .ok (.bipush (-2), 2) := by decide +kernel
theorem dX10_side_49 : decode cX10_side 49 = .ok (.ireturn, 1) := by decide +kernel
theorem dX10_side_50 : decode cX10_side 50 = .ok (.aload_n 0, 1) := by decide +kernel
theorem dX10_side_51 : decode cX10_side 51 = .ok (.getfield 28, 3) := by decide +kernel
theorem dX10_side_54 : decode cX10_side 54 = .ok (.iload_n 1, 1) := by decide +kernel
theorem dX10_side_55 : decode cX10_side 55 = .ok (.iload_n 2, 1) := by decide +kernel
theorem dX10_side_56 : decode cX10_side 56 = .ok (.iload_n 3, 1) := by decide +kernel
theorem dX10_side_57 : decode cX10_side 57 = .ok (.iload 4, 2) := by decide +kernel
theorem dX10_side_59 : decode cX10_side 59 = .ok (.invokevirtual 222, 3) := by decide +kernel
theorem dX10_side_62 : decode cX10_side 62 = .ok (.istore 5, 2) := by decide +kernel
theorem dX10_side_64 : decode cX10_side 64 = .ok (.iload 5, 2) := by decide +kernel
theorem dX10_side_66 : decode cX10_side 66 = .ok (.ifCond .ge 8, 3) := by decide +kernel
theorem dX10_side_69 : decode cX10_side 69 = .ok (.bipush (-5), 2) := by decide +kernel
theorem dX10_side_71 : decode cX10_side 71 = .ok (.goto 5, 3) := by decide +kernel
theorem dX10_side_74 : decode cX10_side 74 = .ok (.iload 5, 2) := by decide +kernel
theorem dX10_side_76 : decode cX10_side 76 = .ok (.ireturn, 1) := by decide +kernel
theorem dX10_within_0 : decode cX10_within 0 = .ok (.aload_n 0, 1) := by decide +kernel
theorem dX10_within_1 : decode cX10_within 1 = .ok (.getfield 28, 3) := by decide +kernel
theorem dX10_within_4 : decode cX10_within 4 = .ok (.iload_n 1, 1) := by decide +kernel
theorem dX10_within_5 : decode cX10_within 5 = .ok (.iload_n 2, 1) := by decide +kernel
theorem dX10_within_6 : decode cX10_within 6 = .ok (.iload_n 3, 1) := by decide +kernel
theorem dX10_within_7 : decode cX10_within 7 = .ok (.iload 4, 2) := by decide +kernel
theorem dX10_within_9 : decode cX10_within 9 = .ok (.invokevirtual 163, 3) := by decide +kernel
theorem dX10_within_12 : decode cX10_within 12 = .ok (.ifCond .ne 5, 3) := by decide +kernel
theorem dX10_within_15 : decode cX10_within 15 = .ok (.iconst (-1), 1) := by decide +kernel
theorem dX10_within_16 : decode cX10_within 16 = .ok (.ireturn, 1) := by decide +kernel
theorem dX10_within_17 : decode cX10_within 17 = .ok (.aload_n 0, 1) := by decide +kernel
theorem dX10_within_18 : decode cX10_within 18 = .ok (.getfield 28, 3) := by decide +kernel
theorem dX10_within_21 : decode cX10_within 21 = .ok (.iload_n 1, 1) := by decide +kernel
theorem dX10_within_22 : decode cX10_within 22 = .ok (.iload_n 2, 1) := by decide +kernel
theorem dX10_within_23 : decode cX10_within 23 = .ok (.iload_n 3, 1) := by decide +kernel
theorem dX10_within_24 : decode cX10_within 24 = .ok (.iload 4, 2) := by decide +kernel
theorem dX10_within_26 : decode cX10_within 26 = .ok (.invokevirtual 167, 3) := by decide +kernel
theorem dX10_within_29 : decode cX10_within 29 = .ok (.ifCond .eq 33, 3) := by decide +kernel
theorem dX10_within_32 : decode cX10_within 32 = .ok (.aload_n 0, 1) := by decide +kernel
theorem dX10_within_33 : decode cX10_within 33 = .ok (.getfield 28, 3) := by decide +kernel
theorem dX10_within_36 : decode cX10_within 36 = .ok (.iload_n 1, 1) := by decide +kernel
theorem dX10_within_37 : decode cX10_within 37 = .ok (.iload_n 2, 1) := by decide +kernel
theorem dX10_within_38 : decode cX10_within 38 = .ok (.iload_n 3, 1) := by decide +kernel
theorem dX10_within_39 : decode cX10_within 39 = .ok (.iload 4, 2) := by decide +kernel
theorem dX10_within_41 : decode cX10_within 41 = .ok (.invokevirtual 170, 3) := by decide +kernel
theorem dX10_within_44 : decode cX10_within 44 = .ok (.ifCond .eq 18, 3) := by decide +kernel
theorem dX10_within_47 : decode cX10_within 47 = .ok (.aload_n 0, 1) := by decide +kernel
theorem dX10_within_48 : decode cX10_within 48 = .ok (.getfield 28, 3) := by decide +kernel
theorem dX10_within_51 : decode cX10_within 51 = .ok (.iload_n 1, 1) := by decide +kernel
theorem dX10_within_52 : decode cX10_within 52 = .ok (.iload_n 2, 1) := by decide +kernel
theorem dX10_within_53 : decode cX10_within 53 = .ok (.iload_n 3, 1) := by decide +kernel
theorem dX10_within_54 : decode cX10_within 54 = .ok (.invokevirtual 150, 3) := by decide +kernel
theorem dX10_within_57 : decode cX10_within 57 = .ok (.lconst 0, 1) := by decide +kernel
theorem dX10_within_58 : decode cX10_within 58 = .ok (.lcmp, 1) := by decide +kernel
theorem dX10_within_59 : decode cX10_within 59 = .ok (.ifCond .ne 6, 3) := by decide +kernel
theorem dX10_within_62 : decode cX10_within 62 = .ok (.bipush (-2), 2) := by decide +kernel
theorem dX10_within_64 : decode cX10_within 64 = .ok (.ireturn, 1) := by decide +kernel
theorem dX10_within_65 : decode cX10_within 65 = .ok (.aload_n 0, 1) := by decide +kernel
theorem dX10_within_66 : decode cX10_within 66 = .ok (.getfield 28, 3) := by decide +kernel
theorem dX10_within_69 : decode cX10_within 69 = .ok (.iload_n 1, 1) := by decide +kernel
theorem dX10_within_70 : decode cX10_within 70 = .ok (.iload_n 2, 1) := by decide +kernel
theorem dX10_within_71 : decode cX10_within 71 = .ok (.iload_n 3, 1) := by decide +kernel
theorem dX10_within_72 : decode cX10_within 72 = .ok (.iload 4, 2) := by decide +kernel
theorem dX10_within_74 : decode cX10_within 74 = .ok (.invokevirtual 222, 3) := by decide +kernel
theorem dX10_within_77 : decode cX10_within 77 = .ok (.ifCond .lt 37, 3) := by decide +kernel
theorem dX10_within_80 : decode cX10_within 80 = .ok (.aload_n 0, 1) := by decide +kernel
theorem dX10_within_81 : decode cX10_within 81 = .ok (.getfield 28, 3) := by decide +kernel
theorem dX10_within_84 : decode cX10_within 84 = .ok (.iload_n 2, 1) := by decide +kernel
theorem dX10_within_85 : decode cX10_within 85 = .ok (.iload_n 3, 1) := by decide +kernel
theorem dX10_within_86 : decode cX10_within 86 = .ok (.iload_n 1, 1) := by decide +kernel
theorem dX10_within_87 : decode cX10_within 87 = .ok (.iload 4, 2) := by decide +kernel
theorem dX10_within_89 : decode cX10_within 89 = .ok (.invokevirtual 222, 3) := by decide +kernel
theorem dX10_within_92 : decode cX10_within 92 = .ok (.ifCond .lt 22, 3) := by decide +kernel
theorem dX10_within_95 : decode cX10_within 95 = .ok (.aload_n 0, 1) := by decide +kernel
theorem dX10_within_96 : decode cX10_within 96 = .ok (.getfield 28, 3) := by decide +kernel
theorem dX10_within_99 : decode cX10_within 99 = .ok (.iload_n 1, 1) := by decide +kernel
theorem dX10_within_100 : decode cX10_within 100 = .ok (.iload_n 3, 1) := by decide +kernel
theorem dX10_within_101 : decode cX10_within 101 = .ok (.iload_n 2, 1) := by decide +kernel
theorem dX10_within_102 : decode cX10_within 102 = .ok (.iload 4, 2) := by decide +kernel
theorem dX10_within_104 : decode cX10_within 104 = .ok (.invokevirtual 222, 3) := by decide +kernel
theorem dX10_within_107 : decode cX10_within 107 = .ok (.ifCond .lt 7, 3) := by decide +kernel
theorem dX10_within_110 : decode cX10_within 110 = .ok (.iconst 1, 1) := by decide +kernel
theorem dX10_within_111 : decode cX10_within 111 = .ok (.goto 4, 3) := by decide +kernel
theorem dX10_within_114 : decode cX10_within 114 = .ok (.iconst 0, 1) := by decide +kernel
theorem dX10_within_115 : decode cX10_within 115 = .ok (.invokestatic 159, 3) := by decide +kernel
theorem dX10_within_118 : decode cX10_within 118 = .ok (.ireturn, 1) := by decide +kernel
theorem dX10_sixth_0 : decode cX10_sixth 0 = .ok (.aload_n 0, 1) := by decide +kernel
theorem dX10_sixth_1 : decode cX10_sixth 1 = .ok (.getfield 28, 3) := by decide +kernel
theorem dX10_sixth_4 : decode cX10_sixth 4 = .ok (.iload_n 1, 1) := by decide +kernel
theorem dX10_sixth_5 : decode cX10_sixth 5 = .ok (.iload_n 2, 1) := by decide +kernel
theorem dX10_sixth_6 : decode cX10_sixth 6 = .ok (.iload_n 3, 1) := by decide +kernel
theorem dX10_sixth_7 : decode cX10_sixth 7 = .ok (.iload 4, 2) := by decide +kernel
theorem dX10_sixth_9 : decode cX10_sixth 9 = .ok (.invokevirtual 163, 3) := by decide +kernel
theorem dX10_sixth_12 : decode cX10_sixth 12 = .ok (.ifCond .eq 14, 3) := by decide +kernel
theorem dX10_sixth_15 : decode cX10_sixth 15 = .ok (.iload 5, 2) := by decide +kernel
theorem dX10_sixth_17 : decode cX10_sixth 17 = .ok (.ifCond .lt 9, 3) := by decide +kernel
theorem dX10_sixth_20 : decode cX10_sixth 20 = .ok (.iload 5, 2) := by decide +kernel
theorem dX10_sixth_22 : decode cX10_sixth 22 = .ok (.iconst 4, 1) := by decide +kernel
theorem dX10_sixth_23 : decode cX10_sixth 23 = .ok (.if_icmp .le 7, 3) := by decide +kernel
theorem dX10_sixth_26 : decode cX10_sixth 26 = .ok (.ldc2_w 145, 3) := by decide +kernel
theorem dX10_sixth_29 : decode cX10_sixth 29 = .ok (.lreturn, 1) := by decide +kernel
theorem dX10_sixth_30 : decode cX10_sixth 30 = .ok (.aload_n 0, 1) := by decide +kernel
theorem dX10_sixth_31 : decode cX10_sixth 31 = .ok (.getfield 28, 3) := by decide +kernel
theorem dX10_sixth_34 : decode cX10_sixth 34 = .ok (.iload_n 1, 1) := by decide +kernel
theorem dX10_sixth_35 : decode cX10_sixth 35 = .ok (.iload_n 3, 1) := by decide +kernel
theorem dX10_sixth_36 : decode cX10_sixth 36 = .ok (.iload 4, 2) := by decide +kernel
theorem dX10_sixth_38 : decode cX10_sixth 38 = .ok (.invokevirtual 147, 3) := by decide +kernel
theorem dX10_sixth_41 : decode cX10_sixth 41 = .ok (.ifCond .eq 45, 3) := by decide +kernel
theorem dX10_sixth_44 : decode cX10_sixth 44 = .ok (.aload_n 0, 1) := by decide +kernel
theorem dX10_sixth_45 : decode cX10_sixth 45 = .ok (.getfield 28, 3) := by decide +kernel
theorem dX10_sixth_48 : decode cX10_sixth 48 = .ok (.iload_n 2, 1) := by decide +kernel
theorem dX10_sixth_49 : decode cX10_sixth 49 = .ok (.iload_n 3, 1) := by decide +kernel
theorem dX10_sixth_50 : decode cX10_sixth 50 = .ok (.iload 4, 2) := by decide +kernel
theorem dX10_sixth_52 : decode cX10_sixth 52 = .ok (.invokevirtual 147, 3) := by decide +kernel
theorem dX10_sixth_55 : decode cX10_sixth 55 = .ok (.ifCond .eq 31, 3) := by decide +kernel
theorem dX10_sixth_58 : decode cX10_sixth 58 = .ok (.aload_n 0, 1) := by decide +kernel
theorem dX10_sixth_59 : decode cX10_sixth 59 = .ok (.getfield 28, 3) := by decide +kernel
theorem dX10_sixth_62 : decode cX10_sixth 62 = .ok (.iload_n 1, 1) := by decide +kernel
theorem dX10_sixth_63 : decode cX10_sixth 63 = .ok (.iload_n 3, 1) := by decide +kernel
theorem dX10_sixth_64 : decode cX10_sixth 64 = .ok (.iload 4, 2) := by decide +kernel
theorem dX10_sixth_66 : decode cX10_sixth 66 = .ok (.invokevirtual 156, 3) := by decide +kernel
theorem dX10_sixth_69 : decode cX10_sixth 69 = .ok (.ifCond .eq 17, 3) := by decide +kernel
theorem dX10_sixth_72 : decode cX10_sixth 72 = .ok (.aload_n 0, 1) := by decide +kernel
theorem dX10_sixth_73 : decode cX10_sixth 73 = .ok (.getfield 28, 3) := by decide +kernel
theorem dX10_sixth_76 : decode cX10_sixth 76 = .ok (.iload_n 2, 1) := by decide +kernel
theorem dX10_sixth_77 : decode cX10_sixth 77 = .ok (.iload_n 3, 1) := by decide +kernel
theorem dX10_sixth_78 : decode cX10_sixth 78 = .ok (.iload 4, 2) := by decide +kernel
theorem dX10_sixth_80 : decode cX10_sixth 80 = .ok (.invokevirtual 156, 3) := by decide +kernel
theorem dX10_sixth_83 : decode cX10_sixth 83 = .ok (.ifCond .ne 7, 3) := by decide +kernel
theorem dX10_sixth_86 : decode cX10_sixth 86 = .ok (.ldc2_w 154, 3) := by decide +kernel
theorem dX10_sixth_89 : decode cX10_sixth 89 = .ok (.lreturn, 1) := by decide +kernel
theorem dX10_sixth_90 : decode cX10_sixth 90 = .ok (.aload_n 0, 1) := by decide +kernel
theorem dX10_sixth_91 : decode cX10_sixth 91 = .ok (.getfield 63, 3) := by decide +kernel
theorem dX10_sixth_94 : decode cX10_sixth 94 = .ok (.aload_n 0, 1) := by decide +kernel
theorem dX10_sixth_95 : decode cX10_sixth 95 = .ok (.getfield 28, 3) := by decide +kernel
theorem dX10_sixth_98 : decode cX10_sixth 98 = .ok (.iload_n 1, 1) := by decide +kernel
theorem dX10_sixth_99 : decode cX10_sixth 99 = .ok (.iload_n 2, 1) := by decide +kernel
theorem dX10_sixth_100 : decode cX10_sixth 100 = .ok (.iload_n 3, 1) := by decide +kernel
theorem dX10_sixth_101 : decode cX10_sixth 101 = .ok (.iload 4, 2) := by decide +kernel
theorem dX10_sixth_103 : decode cX10_sixth 103 = .ok (.invokevirtual 226, 3) := by decide +kernel
theorem dX10_sixth_106 : decode cX10_sixth 106 = .ok (.iload 5, 2) := by decide +kernel
theorem dX10_sixth_108 : decode cX10_sixth 108 = .ok (.tableswitch 52 0 2 #[28, 36, 44], 28) := by decide +kernel
theorem dX10_sixth_136 : decode cX10_sixth 136 = .ok (.aload_n 0, 1) := by decide +kernel
theorem dX10_sixth_137 : decode cX10_sixth 137 = .ok (.getfield 63, 3) := by decide +kernel
theorem dX10_sixth_140 : decode cX10_sixth 140 = .ok (.getfield 230, 3) := by decide +kernel
theorem dX10_sixth_143 : decode cX10_sixth 143 = .ok (.lreturn, 1) := by decide +kernel
theorem dX10_sixth_144 : decode cX10_sixth 144 = .ok (.aload_n 0, 1) := by decide +kernel
theorem dX10_sixth_145 : decode cX10_sixth 145 = .ok (.getfield 63, 3) := by decide +kernel
theorem dX10_sixth_148 : decode cX10_sixth 148 = .ok (.getfield 234, 3) := by decide +kernel
theorem dX10_sixth_151 : decode cX10_sixth 151 = .ok (.lreturn, 1) := by decide +kernel
theorem dX10_sixth_152 : decode cX10_sixth 152 = .ok (.aload_n 0, 1) := by decide +kernel
theorem dX10_sixth_153 : decode cX10_sixth 153 = .ok (.getfield 63, 3) := by decide +kernel
theorem dX10_sixth_156 : decode cX10_sixth 156 = .ok (.getfield 237, 3) := by decide +kernel
theorem dX10_sixth_159 : decode cX10_sixth 159 = .ok (.lreturn, 1) := by decide +kernel
theorem dX10_sixth_160 : decode cX10_sixth 160 = .ok (.aload_n 0, 1) := by decide +kernel
theorem dX10_sixth_161 : decode cX10_sixth 161 = .ok (.getfield 63, 3) := by decide +kernel
theorem dX10_sixth_164 : decode cX10_sixth 164 = .ok (.iload 5, 2) := by decide +kernel
theorem dX10_sixth_166 : decode cX10_sixth 166 = .ok (.iconst 3, 1) := by decide +kernel
theorem dX10_sixth_167 : decode cX10_sixth 167 = .ok (.if_icmp .ne 7, 3) := by decide +kernel
theorem dX10_sixth_170 : decode cX10_sixth 170 = .ok (.iconst 1, 1) := by decide +kernel
theorem dX10_sixth_171 : decode cX10_sixth 171 = .ok (.goto 4, 3) := by decide +kernel
theorem dX10_sixth_174 : decode cX10_sixth 174 = .ok (.iconst 0, 1) := by decide +kernel
theorem dX10_sixth_175 : decode cX10_sixth 175 = .ok (.invokevirtual 240, 3) := by decide +kernel
theorem dX10_sixth_178 : decode cX10_sixth 178 = .ok (.lreturn, 1) := by decide +kernel
theorem dX10_ends_0 : decode cX10_ends 0 = .ok (.aload_n 0, 1) := by decide +kernel
theorem dX10_ends_1 : decode cX10_ends 1 = .ok (.getfield 28, 3) := by decide +kernel
theorem dX10_ends_4 : decode cX10_ends 4 = .ok (.iload_n 1, 1) := by decide +kernel
theorem dX10_ends_5 : decode cX10_ends 5 = .ok (.iload_n 2, 1) := by decide +kernel
theorem dX10_ends_6 : decode cX10_ends 6 = .ok (.invokevirtual 122, 3) := by decide +kernel
theorem dX10_ends_9 : decode cX10_ends 9 = .ok (.ifCond .eq 12, 3) := by decide +kernel
theorem dX10_ends_12 : decode cX10_ends 12 = .ok (.iload_n 3, 1) := by decide +kernel
theorem dX10_ends_13 : decode cX10_ends 13 = .ok (.ifCond .lt 8, 3) := by decide +kernel
theorem dX10_ends_16 : decode cX10_ends 16 = .ok (.iload_n 3, 1) := by decide +kernel
theorem dX10_ends_17 : decode cX10_ends 17 = .ok (.iconst 1, 1) := by decide +kernel
theorem dX10_ends_18 : decode cX10_ends 18 = .ok (.if_icmp .le 5, 3) := by decide +kernel
theorem dX10_ends_21 : decode cX10_ends 21 = .ok (.iconst (-1), 1) := by decide +kernel
theorem dX10_ends_22 : decode cX10_ends 22 = .ok (.ireturn, 1) := by decide +kernel
theorem dX10_ends_23 : decode cX10_ends 23 = .ok (.iconst 0, 1) := by decide +kernel
theorem dX10_ends_24 : decode cX10_ends 24 = .ok (.istore 4, 2) := by decide +kernel
theorem dX10_ends_26 : decode cX10_ends 26 = .ok (.ldc 244, 2) := by decide +kernel
theorem dX10_ends_28 : decode cX10_ends 28 = .ok (.istore 5, 2) := by decide +kernel
theorem dX10_ends_30 : decode cX10_ends 30 = .ok (.iconst 0, 1) := by decide +kernel
theorem dX10_ends_31 : decode cX10_ends 31 = .ok (.istore 6, 2) := by decide +kernel
theorem dX10_ends_33 : decode cX10_ends 33 = .ok (.iload 6, 2) := by decide +kernel
theorem dX10_ends_35 : decode cX10_ends 35 = .ok (.aload_n 0, 1) := by decide +kernel
theorem dX10_ends_36 : decode cX10_ends 36 = .ok (.getfield 28, 3) := by decide +kernel
theorem dX10_ends_39 : decode cX10_ends 39 = .ok (.getfield 245, 3) := by decide +kernel
theorem dX10_ends_42 : decode cX10_ends 42 = .ok (.if_icmp .ge 90, 3) := by decide +kernel
theorem dX10_ends_45 : decode cX10_ends 45 = .ok (.aload_n 0, 1) := by decide +kernel
theorem dX10_ends_46 : decode cX10_ends 46 = .ok (.getfield 28, 3) := by decide +kernel
theorem dX10_ends_49 : decode cX10_ends 49 = .ok (.iload_n 1, 1) := by decide +kernel
theorem dX10_ends_50 : decode cX10_ends 50 = .ok (.iload 6, 2) := by decide +kernel
theorem dX10_ends_52 : decode cX10_ends 52 = .ok (.invokevirtual 213, 3) := by decide +kernel
theorem dX10_ends_55 : decode cX10_ends 55 = .ok (.istore 7, 2) := by decide +kernel
theorem dX10_ends_57 : decode cX10_ends 57 = .ok (.aload_n 0, 1) := by decide +kernel
theorem dX10_ends_58 : decode cX10_ends 58 = .ok (.getfield 28, 3) := by decide +kernel
theorem dX10_ends_61 : decode cX10_ends 61 = .ok (.iload_n 2, 1) := by decide +kernel
theorem dX10_ends_62 : decode cX10_ends 62 = .ok (.iload 6, 2) := by decide +kernel
theorem dX10_ends_64 : decode cX10_ends 64 = .ok (.invokevirtual 213, 3) := by decide +kernel
theorem dX10_ends_67 : decode cX10_ends 67 = .ok (.istore 8, 2) := by decide +kernel
theorem dX10_ends_69 : decode cX10_ends 69 = .ok (.iload 7, 2) := by decide +kernel
theorem dX10_ends_71 : decode cX10_ends 71 = .ok (.ifCond .le 55, 3) := by decide +kernel
theorem dX10_ends_74 : decode cX10_ends 74 = .ok (.iload 8, 2) := by decide +kernel
theorem dX10_ends_76 : decode cX10_ends 76 = .ok (.ifCond .le 50, 3) := by decide +kernel
theorem dX10_ends_79 : decode cX10_ends 79 = .ok (.ldc2_w 220, 3) := by decide +kernel
theorem dX10_ends_82 : decode cX10_ends 82 = .ok (.iload 7, 2) := by decide +kernel
theorem dX10_ends_84 : decode cX10_ends 84 = .ok (.i2l, 1) := by decide +kernel
theorem dX10_ends_85 : decode cX10_ends 85 = .ok (.lmul, 1) := by decide +kernel
theorem dX10_ends_86 : decode cX10_ends 86 = .ok (.iload 8, 2) := by decide +kernel
theorem dX10_ends_88 : decode cX10_ends 88 = .ok (.i2l, 1) := by decide +kernel
theorem dX10_ends_89 : decode cX10_ends 89 = .ok (.lmul, 1) := by decide +kernel
theorem dX10_ends_90 : decode cX10_ends 90 = .ok (.invokestatic 248, 3) := by decide +kernel
theorem dX10_ends_93 : decode cX10_ends 93 = .ok (.l2i, 1) := by decide +kernel
theorem dX10_ends_94 : decode cX10_ends 94 = .ok (.istore 9, 2) := by decide +kernel
theorem dX10_ends_96 : decode cX10_ends 96 = .ok (.iload 4, 2) := by decide +kernel
theorem dX10_ends_98 : decode cX10_ends 98 = .ok (.iload 7, 2) := by decide +kernel
theorem dX10_ends_100 : decode cX10_ends 100 = .ok (.iload 8, 2) := by decide +kernel
theorem dX10_ends_102 : decode cX10_ends 102 = .ok (.iadd, 1) := by decide +kernel
theorem dX10_ends_103 : decode cX10_ends 103 = .ok (.iload 9, 2) := by decide +kernel
theorem dX10_ends_105 : decode cX10_ends 105 = .ok (.isub, 1) := by decide +kernel
theorem dX10_ends_106 : decode cX10_ends 106 = .ok (.invokestatic 252, 3) := by decide +kernel
theorem dX10_ends_109 : decode cX10_ends 109 = .ok (.istore 4, 2) := by decide +kernel
theorem dX10_ends_111 : decode cX10_ends 111 = .ok (.iload 5, 2) := by decide +kernel
theorem dX10_ends_113 : decode cX10_ends 113 = .ok (.iload 7, 2) := by decide +kernel
theorem dX10_ends_115 : decode cX10_ends 115 = .ok (.iload 8, 2) := by decide +kernel
theorem dX10_ends_117 : decode cX10_ends 117 = .ok (.iadd, 1) := by decide +kernel
theorem dX10_ends_118 : decode cX10_ends 118 = .ok (.iload 9, 2) := by decide +kernel
theorem dX10_ends_120 : decode cX10_ends 120 = .ok (.iadd, 1) := by decide +kernel
theorem dX10_ends_121 : decode cX10_ends 121 = .ok (.invokestatic 257, 3) := by decide +kernel
theorem dX10_ends_124 : decode cX10_ends 124 = .ok (.istore 5, 2) := by decide +kernel
theorem dX10_ends_126 : decode cX10_ends 126 = .ok (.iinc 6 1, 3) := by decide +kernel
theorem dX10_ends_129 : decode cX10_ends 129 = .ok (.goto (-96), 3) := by decide +kernel
theorem dX10_ends_132 : decode cX10_ends 132 = .ok (.iload_n 3, 1) := by decide +kernel
theorem dX10_ends_133 : decode cX10_ends 133 = .ok (.ifCond .ne 8, 3) := by decide +kernel
theorem dX10_ends_136 : decode cX10_ends 136 = .ok (.iload 4, 2) := by decide +kernel
theorem dX10_ends_138 : decode cX10_ends 138 = .ok (.goto 5, 3) := by decide +kernel
theorem dX10_ends_141 : decode cX10_ends 141 = .ok (.iload 5, 2) := by decide +kernel
theorem dX10_ends_143 : decode cX10_ends 143 = .ok (.ireturn, 1) := by decide +kernel
theorem dX10_drawings_0 : decode cX10_drawings 0 = .ok (.aload_n 0, 1) := by decide +kernel
theorem dX10_drawings_1 : decode cX10_drawings 1 = .ok (.getfield 28, 3) := by decide +kernel
theorem dX10_drawings_4 : decode cX10_drawings 4 = .ok (.iload_n 3, 1) := by decide +kernel
theorem dX10_drawings_5 : decode cX10_drawings 5 = .ok (.bipush 10, 2) := by decide +kernel
theorem dX10_drawings_7 : decode cX10_drawings 7 = .ok (.isub, 1) := by decide +kernel
theorem dX10_drawings_8 : decode cX10_drawings 8 = .ok (.invokevirtual 260, 3) := by decide +kernel
theorem dX10_drawings_11 : decode cX10_drawings 11 = .ok (.istore 4, 2) := by decide +kernel
theorem dX10_drawings_13 : decode cX10_drawings 13 = .ok (.aload_n 0, 1) := by decide +kernel
theorem dX10_drawings_14 : decode cX10_drawings 14 = .ok (.getfield 28, 3) := by decide +kernel
theorem dX10_drawings_17 : decode cX10_drawings 17 = .ok (.iload_n 1, 1) := by decide +kernel
theorem dX10_drawings_18 : decode cX10_drawings 18 = .ok (.iload_n 2, 1) := by decide +kernel
theorem dX10_drawings_19 : decode cX10_drawings 19 = .ok (.invokevirtual 122, 3) := by decide +kernel
theorem dX10_drawings_22 : decode cX10_drawings 22 = .ok (.ifCond .eq 17, 3) := by decide +kernel
theorem dX10_drawings_25 : decode cX10_drawings 25 = .ok (.iload 4, 2) := by decide +kernel
theorem dX10_drawings_27 : decode cX10_drawings 27 = .ok (.ifCond .ne 14, 3) := by decide +kernel
theorem dX10_drawings_30 : decode cX10_drawings 30 = .ok (.iload_n 3, 1) := by decide +kernel
theorem dX10_drawings_31 : decode cX10_drawings 31 = .ok (.ifCond .lt 8, 3) := by decide +kernel
theorem dX10_drawings_34 : decode cX10_drawings 34 = .ok (.iload_n 3, 1) := by decide +kernel
theorem dX10_drawings_35 : decode cX10_drawings 35 = .ok (.iconst 3, 1) := by decide +kernel
theorem dX10_drawings_36 : decode cX10_drawings 36 = .ok (.if_icmp .le 5, 3) := by decide +kernel
theorem dX10_drawings_39 : decode cX10_drawings 39 = .ok (.iconst (-1), 1) := by decide +kernel
theorem dX10_drawings_40 : decode cX10_drawings 40 = .ok (.ireturn, 1) := by decide +kernel
theorem dX10_drawings_41 : decode cX10_drawings 41 = .ok (.aload_n 0, 1) := by decide +kernel
theorem dX10_drawings_42 : decode cX10_drawings 42 = .ok (.getfield 28, 3) := by decide +kernel
theorem dX10_drawings_45 : decode cX10_drawings 45 = .ok (.iload_n 1, 1) := by decide +kernel
theorem dX10_drawings_46 : decode cX10_drawings 46 = .ok (.iload_n 2, 1) := by decide +kernel
theorem dX10_drawings_47 : decode cX10_drawings 47 = .ok (.invokevirtual 213, 3) := by decide +kernel
theorem dX10_drawings_50 : decode cX10_drawings 50 = .ok (.ifCond .ne 6, 3) := by decide +kernel
theorem dX10_drawings_53 : decode cX10_drawings 53 = .ok (.bipush (-2), 2) := by decide +kernel
theorem dX10_drawings_55 : decode cX10_drawings 55 = .ok (.ireturn, 1) := by decide +kernel
theorem dX10_drawings_56 : decode cX10_drawings 56 = .ok (.aload_n 0, 1) := by decide +kernel
theorem dX10_drawings_57 : decode cX10_drawings 57 = .ok (.getfield 72, 3) := by decide +kernel
theorem dX10_drawings_60 : decode cX10_drawings 60 = .ok (.iload_n 1, 1) := by decide +kernel
theorem dX10_drawings_61 : decode cX10_drawings 61 = .ok (.iload_n 2, 1) := by decide +kernel
theorem dX10_drawings_62 : decode cX10_drawings 62 = .ok (.iconst (-1), 1) := by decide +kernel
theorem dX10_drawings_63 : decode cX10_drawings 63 = .ok (.invokevirtual 263, 3) := by decide +kernel
theorem dX10_drawings_66 : decode cX10_drawings 66 = .ok (.iload_n 3, 1) := by decide +kernel
theorem dX10_drawings_67 : decode cX10_drawings 67 = .ok (.tableswitch 82 0 3 #[29, 37, 45, 53], 29) := by decide +kernel
theorem dX10_drawings_96 : decode cX10_drawings 96 = .ok (.aload_n 0, 1) := by decide +kernel
theorem dX10_drawings_97 : decode cX10_drawings 97 = .ok (.getfield 72, 3) := by decide +kernel
theorem dX10_drawings_100 : decode cX10_drawings 100 = .ok (.invokevirtual 266, 3) := by decide +kernel
theorem dX10_drawings_103 : decode cX10_drawings 103 = .ok (.ireturn, 1) := by decide +kernel
theorem dX10_drawings_104 : decode cX10_drawings 104 = .ok (.aload_n 0, 1) := by decide +kernel
theorem dX10_drawings_105 : decode cX10_drawings 105 = .ok (.getfield 72, 3) := by decide +kernel
theorem dX10_drawings_108 : decode cX10_drawings 108 = .ok (.getfield 269, 3) := by decide +kernel
theorem dX10_drawings_111 : decode cX10_drawings 111 = .ok (.ireturn, 1) := by decide +kernel
theorem dX10_drawings_112 : decode cX10_drawings 112 = .ok (.aload_n 0, 1) := by decide +kernel
theorem dX10_drawings_113 : decode cX10_drawings 113 = .ok (.getfield 72, 3) := by decide +kernel
theorem dX10_drawings_116 : decode cX10_drawings 116 = .ok (.getfield 272, 3) := by decide +kernel
theorem dX10_drawings_119 : decode cX10_drawings 119 = .ok (.ireturn, 1) := by decide +kernel
theorem dX10_drawings_120 : decode cX10_drawings 120 = .ok (.aload_n 0, 1) := by decide +kernel
theorem dX10_drawings_121 : decode cX10_drawings 121 = .ok (.getfield 72, 3) := by decide +kernel
theorem dX10_drawings_124 : decode cX10_drawings 124 = .ok (.getfield 275, 3) := by decide +kernel
theorem dX10_drawings_127 : decode cX10_drawings 127 = .ok (.ifCond .eq 19, 3) := by decide +kernel
theorem dX10_drawings_130 : decode cX10_drawings 130 = .ok (.iconst 0, 1) := by decide +kernel
theorem dX10_drawings_131 : decode cX10_drawings 131 = .ok (.aload_n 0, 1) := by decide +kernel
theorem dX10_drawings_132 : decode cX10_drawings 132 = .ok (.getfield 72, 3) := by decide +kernel
theorem dX10_drawings_135 : decode cX10_drawings 135 = .ok (.getfield 272, 3) := by decide +kernel
theorem dX10_drawings_138 : decode cX10_drawings 138 = .ok (.iconst 1, 1) := by decide +kernel
theorem dX10_drawings_139 : decode cX10_drawings 139 = .ok (.isub, 1) := by decide +kernel
theorem dX10_drawings_140 : decode cX10_drawings 140 = .ok (.invokestatic 252, 3) := by decide +kernel
theorem dX10_drawings_143 : decode cX10_drawings 143 = .ok (.goto 5, 3) := by decide +kernel
theorem dX10_drawings_146 : decode cX10_drawings 146 = .ok (.bipush (-4), 2) := by decide +kernel
theorem dX10_drawings_148 : decode cX10_drawings 148 = .ok (.ireturn, 1) := by decide +kernel
theorem dX10_drawings_149 : decode cX10_drawings 149 = .ok (.aload_n 0, 1) := by decide +kernel
theorem dX10_drawings_150 : decode cX10_drawings 150 = .ok (.getfield 72, 3) := by decide +kernel
theorem dX10_drawings_153 : decode cX10_drawings 153 = .ok (.getfield 275, 3) := by decide +kernel
theorem dX10_drawings_156 : decode cX10_drawings 156 = .ok (.ifCond .eq 31, 3) := by decide +kernel
theorem dX10_drawings_159 : decode cX10_drawings 159 = .ok (.aload_n 0, 1) := by decide +kernel
theorem dX10_drawings_160 : decode cX10_drawings 160 = .ok (.getfield 72, 3) := by decide +kernel
theorem dX10_drawings_163 : decode cX10_drawings 163 = .ok (.iload_n 3, 1) := by decide +kernel
theorem dX10_drawings_164 : decode cX10_drawings 164 = .ok (.bipush 10, 2) := by decide +kernel
theorem dX10_drawings_166 : decode cX10_drawings 166 = .ok (.isub, 1) := by decide +kernel
theorem dX10_drawings_167 : decode cX10_drawings 167 = .ok (.invokevirtual 278, 3) := by decide +kernel
theorem dX10_drawings_170 : decode cX10_drawings 170 = .ok (.ifCond .eq 17, 3) := by decide +kernel
theorem dX10_drawings_173 : decode cX10_drawings 173 = .ok (.aload_n 0, 1) := by decide +kernel
theorem dX10_drawings_174 : decode cX10_drawings 174 = .ok (.getfield 72, 3) := by decide +kernel
theorem dX10_drawings_177 : decode cX10_drawings 177 = .ok (.iload_n 3, 1) := by decide +kernel
theorem dX10_drawings_178 : decode cX10_drawings 178 = .ok (.bipush 10, 2) := by decide +kernel
theorem dX10_drawings_180 : decode cX10_drawings 180 = .ok (.isub, 1) := by decide +kernel
theorem dX10_drawings_181 : decode cX10_drawings 181 = .ok (.invokevirtual 281, 3) := by decide +kernel
theorem dX10_drawings_184 : decode cX10_drawings 184 = .ok (.goto 5, 3) := by decide +kernel
theorem dX10_drawings_187 : decode cX10_drawings 187 = .ok (.bipush (-4), 2) := by decide +kernel
theorem dX10_drawings_189 : decode cX10_drawings 189 = .ok (.ireturn, 1) := by decide +kernel
theorem dX10_spare_0 : decode cX10_spare 0 = .ok (.aload_n 0, 1) := by decide +kernel
theorem dX10_spare_1 : decode cX10_spare 1 = .ok (.getfield 28, 3) := by decide +kernel
theorem dX10_spare_4 : decode cX10_spare 4 = .ok (.iload_n 1, 1) := by decide +kernel
theorem dX10_spare_5 : decode cX10_spare 5 = .ok (.iload_n 2, 1) := by decide +kernel
theorem dX10_spare_6 : decode cX10_spare 6 = .ok (.invokevirtual 122, 3) := by decide +kernel
theorem dX10_spare_9 : decode cX10_spare 9 = .ok (.ifCond .eq 16, 3) := by decide +kernel
theorem dX10_spare_12 : decode cX10_spare 12 = .ok (.aload_n 0, 1) := by decide +kernel
theorem dX10_spare_13 : decode cX10_spare 13 = .ok (.getfield 28, 3) := by decide +kernel
theorem dX10_spare_16 : decode cX10_spare 16 = .ok (.iload_n 3, 1) := by decide +kernel
theorem dX10_spare_17 : decode cX10_spare 17 = .ok (.iload 4, 2) := by decide +kernel
theorem dX10_spare_19 : decode cX10_spare 19 = .ok (.invokevirtual 122, 3) := by decide +kernel
theorem dX10_spare_22 : decode cX10_spare 22 = .ok (.ifCond .ne 5, 3) := by decide +kernel
theorem dX10_spare_25 : decode cX10_spare 25 = .ok (.iconst (-1), 1) := by decide +kernel
theorem dX10_spare_26 : decode cX10_spare 26 = .ok (.ireturn, 1) := by decide +kernel
theorem dX10_spare_27 : decode cX10_spare 27 = .ok (.aload_n 0, 1) := by decide +kernel
theorem dX10_spare_28 : decode cX10_spare 28 = .ok (.getfield 28, 3) := by decide +kernel
theorem dX10_spare_31 : decode cX10_spare 31 = .ok (.iload_n 1, 1) := by decide +kernel
theorem dX10_spare_32 : decode cX10_spare 32 = .ok (.iload_n 2, 1) := by decide +kernel
theorem dX10_spare_33 : decode cX10_spare 33 = .ok (.invokevirtual 213, 3) := by decide +kernel
theorem dX10_spare_36 : decode cX10_spare 36 = .ok (.ifCond .ne 6, 3) := by decide +kernel
theorem dX10_spare_39 : decode cX10_spare 39 = .ok (.bipush (-2), 2) := by decide +kernel
theorem dX10_spare_41 : decode cX10_spare 41 = .ok (.ireturn, 1) := by decide +kernel
theorem dX10_spare_42 : decode cX10_spare 42 = .ok (.aload_n 0, 1) := by decide +kernel
theorem dX10_spare_43 : decode cX10_spare 43 = .ok (.getfield 72, 3) := by decide +kernel
theorem dX10_spare_46 : decode cX10_spare 46 = .ok (.iload_n 1, 1) := by decide +kernel
theorem dX10_spare_47 : decode cX10_spare 47 = .ok (.iload_n 2, 1) := by decide +kernel
theorem dX10_spare_48 : decode cX10_spare 48 = .ok (.iconst (-1), 1) := by decide +kernel
theorem dX10_spare_49 : decode cX10_spare 49 = .ok (.invokevirtual 263, 3) := by decide +kernel
theorem dX10_spare_52 : decode cX10_spare 52 = .ok (.aload_n 0, 1) := by decide +kernel
theorem dX10_spare_53 : decode cX10_spare 53 = .ok (.getfield 72, 3) := by decide +kernel
theorem dX10_spare_56 : decode cX10_spare 56 = .ok (.iload_n 3, 1) := by decide +kernel
theorem dX10_spare_57 : decode cX10_spare 57 = .ok (.invokevirtual 278, 3) := by decide +kernel
theorem dX10_spare_60 : decode cX10_spare 60 = .ok (.ifCond .eq 28, 3) := by decide +kernel
theorem dX10_spare_63 : decode cX10_spare 63 = .ok (.aload_n 0, 1) := by decide +kernel
theorem dX10_spare_64 : decode cX10_spare 64 = .ok (.getfield 72, 3) := by decide +kernel
theorem dX10_spare_67 : decode cX10_spare 67 = .ok (.iload 4, 2) := by decide +kernel
theorem dX10_spare_69 : decode cX10_spare 69 = .ok (.invokevirtual 278, 3) := by decide +kernel
theorem dX10_spare_72 : decode cX10_spare 72 = .ok (.ifCond .eq 16, 3) := by decide +kernel
theorem dX10_spare_75 : decode cX10_spare 75 = .ok (.aload_n 0, 1) := by decide +kernel
theorem dX10_spare_76 : decode cX10_spare 76 = .ok (.getfield 28, 3) := by decide +kernel
theorem dX10_spare_79 : decode cX10_spare 79 = .ok (.iload_n 3, 1) := by decide +kernel
theorem dX10_spare_80 : decode cX10_spare 80 = .ok (.iload 4, 2) := by decide +kernel
theorem dX10_spare_82 : decode cX10_spare 82 = .ok (.invokevirtual 213, 3) := by decide +kernel
theorem dX10_spare_85 : decode cX10_spare 85 = .ok (.ifCond .ne 6, 3) := by decide +kernel
theorem dX10_spare_88 : decode cX10_spare 88 = .ok (.bipush (-4), 2) := by decide +kernel
theorem dX10_spare_90 : decode cX10_spare 90 = .ok (.ireturn, 1) := by decide +kernel
theorem dX10_spare_91 : decode cX10_spare 91 = .ok (.aload_n 0, 1) := by decide +kernel
theorem dX10_spare_92 : decode cX10_spare 92 = .ok (.getfield 72, 3) := by decide +kernel
theorem dX10_spare_95 : decode cX10_spare 95 = .ok (.invokevirtual 266, 3) := by decide +kernel
theorem dX10_spare_98 : decode cX10_spare 98 = .ok (.istore 5, 2) := by decide +kernel
theorem dX10_spare_100 : decode cX10_spare 100 = .ok (.aload_n 0, 1) := by decide +kernel
theorem dX10_spare_101 : decode cX10_spare 101 = .ok (.getfield 72, 3) := by decide +kernel
theorem dX10_spare_104 : decode cX10_spare 104 = .ok (.iload_n 1, 1) := by decide +kernel
theorem dX10_spare_105 : decode cX10_spare 105 = .ok (.iload_n 2, 1) := by decide +kernel
theorem dX10_spare_106 : decode cX10_spare 106 = .ok (.iload_n 3, 1) := by decide +kernel
theorem dX10_spare_107 : decode cX10_spare 107 = .ok (.iload 4, 2) := by decide +kernel
theorem dX10_spare_109 : decode cX10_spare 109 = .ok (.invokestatic 138, 3) := by decide +kernel
theorem dX10_spare_112 : decode cX10_spare 112 = .ok (.invokevirtual 263, 3) := by decide +kernel
theorem dX10_spare_115 : decode cX10_spare 115 = .ok (.aload_n 0, 1) := by decide +kernel
theorem dX10_spare_116 : decode cX10_spare 116 = .ok (.getfield 72, 3) := by decide +kernel
theorem dX10_spare_119 : decode cX10_spare 119 = .ok (.invokevirtual 266, 3) := by decide +kernel
theorem dX10_spare_122 : decode cX10_spare 122 = .ok (.iload 5, 2) := by decide +kernel
theorem dX10_spare_124 : decode cX10_spare 124 = .ok (.if_icmp .ne 7, 3) := by decide +kernel
theorem dX10_spare_127 : decode cX10_spare 127 = .ok (.iconst 1, 1) := by decide +kernel
theorem dX10_spare_128 : decode cX10_spare 128 = .ok (.goto 4, 3) := by decide +kernel
theorem dX10_spare_131 : decode cX10_spare 131 = .ok (.iconst 0, 1) := by decide +kernel
theorem dX10_spare_132 : decode cX10_spare 132 = .ok (.invokestatic 159, 3) := by decide +kernel
theorem dX10_spare_135 : decode cX10_spare 135 = .ok (.ireturn, 1) := by decide +kernel
theorem dX10_base_0 : decode cX10_base 0 = .ok (.bipush (-4), 2) := by decide +kernel
theorem dX10_base_2 : decode cX10_base 2 = .ok (.istore_n 1, 1) := by decide +kernel
theorem dX10_base_3 : decode cX10_base 3 = .ok (.iconst 0, 1) := by decide +kernel
theorem dX10_base_4 : decode cX10_base 4 = .ok (.istore_n 2, 1) := by decide +kernel
theorem dX10_base_5 : decode cX10_base 5 = .ok (.iconst 0, 1) := by decide +kernel
theorem dX10_base_6 : decode cX10_base 6 = .ok (.istore_n 3, 1) := by decide +kernel
theorem dX10_base_7 : decode cX10_base 7 = .ok (.iconst 1, 1) := by decide +kernel
theorem dX10_base_8 : decode cX10_base 8 = .ok (.istore 4, 2) := by decide +kernel
theorem dX10_base_10 : decode cX10_base 10 = .ok (.iload 4, 2) := by decide +kernel
theorem dX10_base_12 : decode cX10_base 12 = .ok (.aload_n 0, 1) := by decide +kernel
theorem dX10_base_13 : decode cX10_base 13 = .ok (.getfield 28, 3) := by decide +kernel
theorem dX10_base_16 : decode cX10_base 16 = .ok (.getfield 245, 3) := by decide +kernel
theorem dX10_base_19 : decode cX10_base 19 = .ok (.if_icmp .ge 130, 3) := by decide +kernel
theorem dX10_base_22 : decode cX10_base 22 = .ok (.iconst 0, 1) := by decide +kernel
theorem dX10_base_23 : decode cX10_base 23 = .ok (.istore 5, 2) := by decide +kernel
theorem dX10_base_25 : decode cX10_base 25 = .ok (.iload 5, 2) := by decide +kernel
theorem dX10_base_27 : decode cX10_base 27 = .ok (.iload 4, 2) := by decide +kernel
theorem dX10_base_29 : decode cX10_base 29 = .ok (.if_icmp .ge 114, 3) := by decide +kernel
theorem dX10_base_32 : decode cX10_base 32 = .ok (.aload_n 0, 1) := by decide +kernel
theorem dX10_base_33 : decode cX10_base 33 = .ok (.getfield 28, 3) := by decide +kernel
theorem dX10_base_36 : decode cX10_base 36 = .ok (.iload 5, 2) := by decide +kernel
theorem dX10_base_38 : decode cX10_base 38 = .ok (.iload 4, 2) := by decide +kernel
theorem dX10_base_40 : decode cX10_base 40 = .ok (.invokevirtual 213, 3) := by decide +kernel
theorem dX10_base_43 : decode cX10_base 43 = .ok (.ifCond .ne 6, 3) := by decide +kernel
theorem dX10_base_46 : decode cX10_base 46 = .ok (.goto 91, 3) := by decide +kernel
theorem dX10_base_49 : decode cX10_base 49 = .ok (.aload_n 0, 1) := by decide +kernel
theorem dX10_base_50 : decode cX10_base 50 = .ok (.getfield 72, 3) := by decide +kernel
theorem dX10_base_53 : decode cX10_base 53 = .ok (.iload 5, 2) := by decide +kernel
theorem dX10_base_55 : decode cX10_base 55 = .ok (.iload 4, 2) := by decide +kernel
theorem dX10_base_57 : decode cX10_base 57 = .ok (.iconst (-1), 1) := by decide +kernel
theorem dX10_base_58 : decode cX10_base 58 = .ok (.invokevirtual 263, 3) := by decide +kernel
theorem dX10_base_61 : decode cX10_base 61 = .ok (.aload_n 0, 1) := by decide +kernel
theorem dX10_base_62 : decode cX10_base 62 = .ok (.getfield 72, 3) := by decide +kernel
theorem dX10_base_65 : decode cX10_base 65 = .ok (.getfield 269, 3) := by decide +kernel
theorem dX10_base_68 : decode cX10_base 68 = .ok (.invokestatic 192, 3) := by decide +kernel
theorem dX10_base_71 : decode cX10_base 71 = .ok (.istore 6, 2) := by decide +kernel
