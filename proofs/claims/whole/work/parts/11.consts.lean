/-! small constants, as the instructions spell them -/
theorem bp_m20 : (Int8.ofInt (-20)).toInt32 = (-20 : Int32) := by decide
theorem bp_m14 : (Int8.ofInt (-14)).toInt32 = (-14 : Int32) := by decide
theorem bp_m12 : (Int8.ofInt (-12)).toInt32 = (-12 : Int32) := by decide
theorem bp_m11 : (Int8.ofInt (-11)).toInt32 = (-11 : Int32) := by decide
theorem bp_m10 : (Int8.ofInt (-10)).toInt32 = (-10 : Int32) := by decide
theorem bp_m5 : (Int8.ofInt (-5)).toInt32 = (-5 : Int32) := by decide
theorem bp_m4 : (Int8.ofInt (-4)).toInt32 = (-4 : Int32) := by decide
theorem bp_m3 : (Int8.ofInt (-3)).toInt32 = (-3 : Int32) := by decide
theorem bp_m2 : (Int8.ofInt (-2)).toInt32 = (-2 : Int32) := by decide
theorem bp_6 : (Int8.ofInt (6)).toInt32 = (6 : Int32) := by decide
theorem bp_7 : (Int8.ofInt (7)).toInt32 = (7 : Int32) := by decide
theorem bp_8 : (Int8.ofInt (8)).toInt32 = (8 : Int32) := by decide
theorem bp_9 : (Int8.ofInt (9)).toInt32 = (9 : Int32) := by decide
theorem bp_10 : (Int8.ofInt (10)).toInt32 = (10 : Int32) := by decide
theorem bp_13 : (Int8.ofInt (13)).toInt32 = (13 : Int32) := by decide
theorem bp_16 : (Int8.ofInt (16)).toInt32 = (16 : Int32) := by decide
theorem bp_21 : (Int8.ofInt (21)).toInt32 = (21 : Int32) := by decide
theorem bp_22 : (Int8.ofInt (22)).toInt32 = (22 : Int32) := by decide
theorem bp_24 : (Int8.ofInt (24)).toInt32 = (24 : Int32) := by decide
theorem bp_30 : (Int8.ofInt (30)).toInt32 = (30 : Int32) := by decide
theorem bp_32 : (Int8.ofInt (32)).toInt32 = (32 : Int32) := by decide
theorem bp_40 : (Int8.ofInt (40)).toInt32 = (40 : Int32) := by decide
theorem bp_48 : (Int8.ofInt (48)).toInt32 = (48 : Int32) := by decide
theorem bp_49 : (Int8.ofInt (49)).toInt32 = (49 : Int32) := by decide
theorem bp_56 : (Int8.ofInt (56)).toInt32 = (56 : Int32) := by decide
theorem bp_57 : (Int8.ofInt (57)).toInt32 = (57 : Int32) := by decide
theorem bp_59 : (Int8.ofInt (59)).toInt32 = (59 : Int32) := by decide
theorem bp_63 : (Int8.ofInt (63)).toInt32 = (63 : Int32) := by decide
theorem bp_70 : (Int8.ofInt (70)).toInt32 = (70 : Int32) := by decide
theorem bp_96 : (Int8.ofInt (96)).toInt32 = (96 : Int32) := by decide
theorem bp_97 : (Int8.ofInt (97)).toInt32 = (97 : Int32) := by decide
theorem bp_99 : (Int8.ofInt (99)).toInt32 = (99 : Int32) := by decide
theorem bp_101 : (Int8.ofInt (101)).toInt32 = (101 : Int32) := by decide
theorem bp_102 : (Int8.ofInt (102)).toInt32 = (102 : Int32) := by decide
theorem bp_108 : (Int8.ofInt (108)).toInt32 = (108 : Int32) := by decide
theorem bp_112 : (Int8.ofInt (112)).toInt32 = (112 : Int32) := by decide
theorem bp_114 : (Int8.ofInt (114)).toInt32 = (114 : Int32) := by decide
theorem bp_115 : (Int8.ofInt (115)).toInt32 = (115 : Int32) := by decide
theorem bp_122 : (Int8.ofInt (122)).toInt32 = (122 : Int32) := by decide
theorem cl_0 : (0 : Int32).toNatClampNeg = 0 := by decide
theorem cl_1 : (1 : Int32).toNatClampNeg = 1 := by decide
theorem cl_2 : (2 : Int32).toNatClampNeg = 2 := by decide
theorem cl_3 : (3 : Int32).toNatClampNeg = 3 := by decide
theorem cl_4 : (4 : Int32).toNatClampNeg = 4 := by decide
theorem cl_5 : (5 : Int32).toNatClampNeg = 5 := by decide
theorem cl_6 : (6 : Int32).toNatClampNeg = 6 := by decide
theorem cl_7 : (7 : Int32).toNatClampNeg = 7 := by decide
theorem cl_8 : (8 : Int32).toNatClampNeg = 8 := by decide
theorem cl_21 : (21 : Int32).toNatClampNeg = 21 := by decide
theorem cl_30 : (30 : Int32).toNatClampNeg = 30 := by decide
theorem ic_m8 : Int32.ofInt (-8) = (-8 : Int32) := by decide
theorem ic_m1 : Int32.ofInt (-1) = (-1 : Int32) := by decide
theorem ic_0 : Int32.ofInt (0) = (0 : Int32) := by decide
theorem ic_1 : Int32.ofInt (1) = (1 : Int32) := by decide
theorem ic_2 : Int32.ofInt (2) = (2 : Int32) := by decide
theorem ic_3 : Int32.ofInt (3) = (3 : Int32) := by decide
theorem ic_4 : Int32.ofInt (4) = (4 : Int32) := by decide
theorem ic_5 : Int32.ofInt (5) = (5 : Int32) := by decide
theorem lc_0 : Int64.ofNat ((0 : Fin 2) : Nat) = (0 : Int64) := by decide
theorem lc_1 : Int64.ofNat ((1 : Fin 2) : Nat) = (1 : Int64) := by decide
theorem sp_160 : (Int16.ofInt (160)).toInt32 = (160 : Int32) := by decide
theorem sp_200 : (Int16.ofInt (200)).toInt32 = (200 : Int32) := by decide
theorem sp_255 : (Int16.ofInt (255)).toInt32 = (255 : Int32) := by decide
theorem sp_312 : (Int16.ofInt (312)).toInt32 = (312 : Int32) := by decide
theorem sp_320 : (Int16.ofInt (320)).toInt32 = (320 : Int32) := by decide
theorem sp_9999 : (Int16.ofInt (9999)).toInt32 = (9999 : Int32) := by decide
theorem hn_X10_62 : (RX10, 62, yX7_init, "OnlyFar") ∈ nsL := by decide +kernel
theorem hn_X0_17 : (RX0, 17, yX7_init, "OnlyFar") ∈ nsL := by decide +kernel
theorem hn_X0_43 : (RX0, 43, yX10_pairOf, "OnlyFar") ∈ nsL := by decide +kernel
theorem hn_X0_68 : (RX0, 68, yX10_hasBit, "OnlyFar") ∈ nsL := by decide +kernel
theorem hn_X1_63 : (RX1, 63, yX10_pairOf, "OnlyFar") ∈ nsL := by decide +kernel
theorem hn_X1_67 : (RX1, 67, yX10_hasBit, "OnlyFar") ∈ nsL := by decide +kernel
theorem hn_X1_71 : (RX1, 71, yX10_bit, "OnlyFar") ∈ nsL := by decide +kernel
theorem hn_X3_51 : (RX3, 51, yX10_hasBit, "OnlyFar") ∈ nsL := by decide +kernel
theorem hn_X7_36 : (RX7, 36, yX10_rootOf, "OnlyFar") ∈ nsL := by decide +kernel
theorem hn_X8_47 : (RX8, 47, yX10_bit, "OnlyFar") ∈ nsL := by decide +kernel
theorem hn_X8_54 : (RX8, 54, yX10_wideOfSquares, "OnlyFar") ∈ nsL := by decide +kernel
theorem hn_X8_80 : (RX8, 80, yX10_hasBit, "OnlyFar") ∈ nsL := by decide +kernel
