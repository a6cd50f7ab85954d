set_option maxRecDepth 20000 in
theorem wd_0 : Cond.selects "OnlyFar$Reader" yX4_readToken yX4_readToken ∈ Com := com_0 0 (by decide +kernel) (by decide +kernel)
set_option maxRecDepth 20000 in
theorem wd_1 : Cond.selects "OnlyFar$Reader" yX4_kindAt yX4_kindAt ∈ Com := com_0 1 (by decide +kernel) (by decide +kernel)
set_option maxRecDepth 20000 in
theorem wd_2 : Cond.selects "OnlyFar$Reader" yX4_refuse yX4_refuse ∈ Com := com_0 2 (by decide +kernel) (by decide +kernel)
set_option maxRecDepth 20000 in
theorem wd_3 : Cond.selects "OnlyFar$Reader" yX4_readLine yX4_readLine ∈ Com := com_0 3 (by decide +kernel) (by decide +kernel)
set_option maxRecDepth 20000 in
theorem wd_4 : Cond.selects "OnlyFar$Reader" yX4_isName yX4_isName ∈ Com := com_0 4 (by decide +kernel) (by decide +kernel)
set_option maxRecDepth 20000 in
theorem wd_5 : Cond.selects "OnlyFar$Reader" yX4_readPlaces yX4_readPlaces ∈ Com := com_0 5 (by decide +kernel) (by decide +kernel)
set_option maxRecDepth 20000 in
theorem wd_6 : Cond.selects "OnlyFar$Reader" yX4_readNumber yX4_readNumber ∈ Com := com_0 6 (by decide +kernel) (by decide +kernel)
set_option maxRecDepth 20000 in
theorem wd_7 : Cond.selects "OnlyFar$Reader" yX4_readSign yX4_readSign ∈ Com := com_0 7 (by decide +kernel) (by decide +kernel)
set_option maxRecDepth 20000 in
theorem wd_8 : Cond.selects "OnlyFar$Reader" yX4_readFar yX4_readFar ∈ Com := com_0 8 (by decide +kernel) (by decide +kernel)
set_option maxRecDepth 20000 in
theorem wd_9 : Cond.selects "OnlyFar$Table" yX8_isFlatFour yX8_isFlatFour ∈ Com := com_0 9 (by decide +kernel) (by decide +kernel)
set_option maxRecDepth 20000 in
theorem wd_10 : Cond.selects "OnlyFar$Flaws" yX1_lookAtThree yX1_lookAtThree ∈ Com := com_0 10 (by decide +kernel) (by decide +kernel)
set_option maxRecDepth 20000 in
theorem wd_11 : Cond.selects "OnlyFar$Flaws" yX1_add yX1_add ∈ Com := com_0 11 (by decide +kernel) (by decide +kernel)
set_option maxRecDepth 20000 in
theorem wd_12 : Cond.selects "OnlyFar$Flaws" yX1_leaveOut yX1_leaveOut ∈ Com := com_0 12 (by decide +kernel) (by decide +kernel)
set_option maxRecDepth 20000 in
theorem wd_13 : Cond.selects "OnlyFar$Flaws" yX1_firstFlawWithout yX1_firstFlawWithout ∈ Com := com_0 13 (by decide +kernel) (by decide +kernel)
set_option maxRecDepth 20000 in
theorem wd_14 : Cond.selects "OnlyFar$Flaws" yX1_isBetter yX1_isBetter ∈ Com := com_0 14 (by decide +kernel) (by decide +kernel)
set_option maxRecDepth 20000 in
theorem wd_15 : Cond.selects "OnlyFar" yX10_refusalOfThree yX10_refusalOfThree ∈ Com := com_0 15 (by decide +kernel) (by decide +kernel)
set_option maxRecDepth 20000 in
theorem wd_16 : Cond.selects "OnlyFar$Drawing" yX0_layPlaces yX0_layPlaces ∈ Com := com_0 16 (by decide +kernel) (by decide +kernel)
set_option maxRecDepth 20000 in
theorem wd_17 : Cond.selects "OnlyFar$Drawing" yX0_bondOf yX0_bondOf ∈ Com := com_0 17 (by decide +kernel) (by decide +kernel)
set_option maxRecDepth 20000 in
theorem wd_18 : Cond.selects "OnlyFar$Drawing" yX0_findGroups yX0_findGroups ∈ Com := com_0 18 (by decide +kernel) (by decide +kernel)
set_option maxRecDepth 20000 in
theorem wd_19 : Cond.selects "OnlyFar$Drawing" yX0_spreadSides yX0_spreadSides ∈ Com := com_0 19 (by decide +kernel) (by decide +kernel)
set_option maxRecDepth 20000 in
theorem wd_20 : Cond.selects "OnlyFar$Drawing" yX0_holds yX0_holds ∈ Com := com_0 20 (by decide +kernel) (by decide +kernel)
set_option maxRecDepth 20000 in
theorem wd_21 : Cond.selects "OnlyFar$Table" yX8_isAlikeSeenFrom yX8_isAlikeSeenFrom ∈ Com := com_0 21 (by decide +kernel) (by decide +kernel)
set_option maxRecDepth 20000 in
theorem wd_22 : Cond.selects "OnlyFar$Naming" yX3_nameFrom yX3_nameFrom ∈ Com := com_0 22 (by decide +kernel) (by decide +kernel)
set_option maxRecDepth 20000 in
theorem wd_23 : Cond.selects "OnlyFar$Naming" yX3_fits yX3_fits ∈ Com := com_0 23 (by decide +kernel) (by decide +kernel)
set_option maxRecDepth 20000 in
theorem wd_24 : Cond.selects "OnlyFar" yX10_isGoodLength yX10_isGoodLength ∈ Com := com_0 24 (by decide +kernel) (by decide +kernel)
set_option maxRecDepth 20000 in
theorem wd_25 : Cond.selects "OnlyFarModel" yX11_step yX11_step ∈ Com := com_0 25 (by decide +kernel) (by decide +kernel)
set_option maxRecDepth 20000 in
theorem wd_26 : Cond.selects "OnlyFarModel" yX11_byteAt yX11_byteAt ∈ Com := com_0 26 (by decide +kernel) (by decide +kernel)
set_option maxRecDepth 20000 in
theorem wd_27 : Cond.selects "OnlyFarModel" yX11_fails yX11_fails ∈ Com := com_0 27 (by decide +kernel) (by decide +kernel)
set_option maxRecDepth 20000 in
theorem wd_28 : Cond.selects "OnlyFarModel" yX11_readLine yX11_readLine ∈ Com := com_0 28 (by decide +kernel) (by decide +kernel)
set_option maxRecDepth 20000 in
theorem wd_29 : Cond.selects "OnlyFarModel" yX11_isName yX11_isName ∈ Com := com_0 29 (by decide +kernel) (by decide +kernel)
set_option maxRecDepth 20000 in
theorem wd_30 : Cond.selects "OnlyFarModel" yX11_number yX11_number ∈ Com := com_0 30 (by decide +kernel) (by decide +kernel)
set_option maxRecDepth 20000 in
theorem wd_31 : Cond.selects "OnlyFarModel" yX11_looks yX11_looks ∈ Com := com_0 31 (by decide +kernel) (by decide +kernel)
set_option maxRecDepth 20000 in
theorem wd_32 : Cond.selects "OnlyFarModel" yX11_readFar yX11_readFar ∈ Com := com_0 32 (by decide +kernel) (by decide +kernel)
set_option maxRecDepth 20000 in
theorem wd_33 : Cond.selects "OnlyFarModel" yX11_areTwo yX11_areTwo ∈ Com := com_0 33 (by decide +kernel) (by decide +kernel)
set_option maxRecDepth 20000 in
theorem wd_34 : Cond.selects "OnlyFarModel" yX11_isPlace yX11_isPlace ∈ Com := com_0 34 (by decide +kernel) (by decide +kernel)
set_option maxRecDepth 20000 in
theorem wd_35 : Cond.selects "OnlyFarModel" yX11_awake yX11_awake ∈ Com := com_0 35 (by decide +kernel) (by decide +kernel)
set_option maxRecDepth 20000 in
theorem wd_36 : Cond.selects "OnlyFarModel" yX11_sq yX11_sq ∈ Com := com_0 36 (by decide +kernel) (by decide +kernel)
set_option maxRecDepth 20000 in
theorem wd_37 : Cond.selects "OnlyFarModel" yX11_tells2 yX11_tells2 ∈ Com := com_0 37 (by decide +kernel) (by decide +kernel)
set_option maxRecDepth 20000 in
theorem wd_38 : Cond.selects "OnlyFarModel" yX11_areThree yX11_areThree ∈ Com := com_0 38 (by decide +kernel) (by decide +kernel)
set_option maxRecDepth 20000 in
theorem wd_39 : Cond.selects "OnlyFarModel" yX11_areTold yX11_areTold ∈ Com := com_0 39 (by decide +kernel) (by decide +kernel)
set_option maxRecDepth 20000 in
theorem wd_40 : Cond.selects "OnlyFarModel" yX11_wideOf yX11_wideOf ∈ Com := com_0 40 (by decide +kernel) (by decide +kernel)
set_option maxRecDepth 20000 in
theorem wd_41 : Cond.selects "OnlyFarModel" yX11_canBe yX11_canBe ∈ Com := com_0 41 (by decide +kernel) (by decide +kernel)
set_option maxRecDepth 20000 in
theorem wd_42 : Cond.selects "OnlyFarModel" yX11_areFour yX11_areFour ∈ Com := com_0 42 (by decide +kernel) (by decide +kernel)
set_option maxRecDepth 20000 in
theorem wd_43 : Cond.selects "OnlyFarModel" yX11_allTold yX11_allTold ∈ Com := com_0 43 (by decide +kernel) (by decide +kernel)
set_option maxRecDepth 20000 in
theorem wd_44 : Cond.selects "OnlyFarModel" yX11_canFour yX11_canFour ∈ Com := com_0 44 (by decide +kernel) (by decide +kernel)
set_option maxRecDepth 20000 in
theorem wd_45 : Cond.selects "OnlyFarModel" yX11_dot yX11_dot ∈ Com := com_0 45 (by decide +kernel) (by decide +kernel)
set_option maxRecDepth 20000 in
theorem wd_46 : Cond.selects "OnlyFarModel" yX11_layWrong yX11_layWrong ∈ Com := com_0 46 (by decide +kernel) (by decide +kernel)
set_option maxRecDepth 20000 in
theorem wd_47 : Cond.selects "OnlyFarModel" yX11_falseBits yX11_falseBits ∈ Com := com_0 47 (by decide +kernel) (by decide +kernel)
set_option maxRecDepth 20000 in
theorem wd_48 : Cond.selects "OnlyFarModel" yX11_isSet yX11_isSet ∈ Com := com_0 48 (by decide +kernel) (by decide +kernel)
set_option maxRecDepth 20000 in
theorem wd_49 : Cond.selects "OnlyFarModel" yX11_isRightWithout yX11_isRightWithout ∈ Com := com_0 49 (by decide +kernel) (by decide +kernel)
set_option maxRecDepth 20000 in
theorem wd_50 : Cond.selects "OnlyFarModel" yX11_areRight yX11_areRight ∈ Com := com_0 50 (by decide +kernel) (by decide +kernel)
set_option maxRecDepth 20000 in
theorem wd_51 : Cond.selects "OnlyFarModel" yX11_hinders yX11_hinders ∈ Com := com_0 51 (by decide +kernel) (by decide +kernel)
set_option maxRecDepth 20000 in
theorem wd_52 : Cond.selects "OnlyFarModel" yX11_isWhole yX11_isWhole ∈ Com := com_0 52 (by decide +kernel) (by decide +kernel)
set_option maxRecDepth 20000 in
theorem wd_53 : Cond.selects "OnlyFarModel" yX11_sideOf yX11_sideOf ∈ Com := com_0 53 (by decide +kernel) (by decide +kernel)
set_option maxRecDepth 20000 in
theorem wd_54 : Cond.selects "OnlyFarModel" yX11_across yX11_across ∈ Com := com_0 54 (by decide +kernel) (by decide +kernel)
set_option maxRecDepth 20000 in
theorem wd_55 : Cond.selects "OnlyFarModel" yX11_under yX11_under ∈ Com := com_0 55 (by decide +kernel) (by decide +kernel)
set_option maxRecDepth 20000 in
theorem wd_56 : Cond.selects "OnlyFarModel" yX11_layDrawings yX11_layDrawings ∈ Com := com_0 56 (by decide +kernel) (by decide +kernel)
set_option maxRecDepth 20000 in
theorem wd_57 : Cond.selects "OnlyFarModel" yX11_layGroups yX11_layGroups ∈ Com := com_0 57 (by decide +kernel) (by decide +kernel)
set_option maxRecDepth 20000 in
theorem wd_58 : Cond.selects "OnlyFarModel" yX11_relation yX11_relation ∈ Com := com_0 58 (by decide +kernel) (by decide +kernel)
set_option maxRecDepth 20000 in
theorem wd_59 : Cond.selects "OnlyFarModel" yX11_isLaid yX11_isLaid ∈ Com := com_0 59 (by decide +kernel) (by decide +kernel)
set_option maxRecDepth 20000 in
theorem wd_60 : Cond.selects "OnlyFarModel" yX11_drawingMany yX11_drawingMany ∈ Com := com_0 60 (by decide +kernel) (by decide +kernel)
set_option maxRecDepth 20000 in
theorem wd_61 : Cond.selects "OnlyFarModel" yX11_areSome yX11_areSome ∈ Com := com_0 61 (by decide +kernel) (by decide +kernel)
set_option maxRecDepth 20000 in
theorem wd_62 : Cond.selects "OnlyFarModel" yX11_isTold yX11_isTold ∈ Com := com_0 62 (by decide +kernel) (by decide +kernel)
set_option maxRecDepth 20000 in
theorem wd_63 : Cond.selects "OnlyFarModel" yX11_isAt yX11_isAt ∈ Com := com_0 63 (by decide +kernel) (by decide +kernel)
set_option maxRecDepth 20000 in
theorem wd_64 : Cond.selects "OnlyFarModel" yX11_layMaps yX11_layMaps ∈ Com := com_0 64 (by decide +kernel) (by decide +kernel)
set_option maxRecDepth 20000 in
theorem wd_65 : Cond.selects "OnlyFarModel" yX11_isLike yX11_isLike ∈ Com := com_0 65 (by decide +kernel) (by decide +kernel)
set_option maxRecDepth 20000 in
theorem wd_66 : Cond.selects "OnlyFarModel" yX11_nearest yX11_nearest ∈ Com := com_0 66 (by decide +kernel) (by decide +kernel)
set_option maxRecDepth 20000 in
theorem wd_67 : Cond.selects "OnlyFarModel" yX11_farthest yX11_farthest ∈ Com := com_0 67 (by decide +kernel) (by decide +kernel)
set_option maxRecDepth 20000 in
theorem wd_68 : Cond.selects "OnlyFarModel" yX11_lengthMany yX11_lengthMany ∈ Com := com_0 68 (by decide +kernel) (by decide +kernel)
set_option maxRecDepth 20000 in
theorem wd_69 : Cond.initialized "OnlyFarLaw" ∈ Com := com_1 0 (by decide +kernel) (by decide +kernel)
set_option maxRecDepth 20000 in
theorem wd_70 : Cond.initialized "OnlyFar" ∈ Com := com_1 1 (by decide +kernel) (by decide +kernel)
set_option maxRecDepth 20000 in
theorem wd_71 : Cond.initialized "OnlyFar$Tape" ∈ Com := com_1 2 (by decide +kernel) (by decide +kernel)
set_option maxRecDepth 20000 in
theorem wd_72 : Cond.initialized "OnlyFar$Reader" ∈ Com := com_1 3 (by decide +kernel) (by decide +kernel)
set_option maxRecDepth 20000 in
theorem wd_73 : Cond.initialized "OnlyFar$Table" ∈ Com := com_1 4 (by decide +kernel) (by decide +kernel)
set_option maxRecDepth 20000 in
theorem wd_74 : Cond.initialized "OnlyFar$Road" ∈ Com := com_1 5 (by decide +kernel) (by decide +kernel)
set_option maxRecDepth 20000 in
theorem wd_75 : Cond.initialized "OnlyFar$Image" ∈ Com := com_1 6 (by decide +kernel) (by decide +kernel)
set_option maxRecDepth 20000 in
theorem wd_76 : Cond.initialized "OnlyFar$Sheet" ∈ Com := com_1 7 (by decide +kernel) (by decide +kernel)
set_option maxRecDepth 20000 in
theorem wd_77 : Cond.initialized "OnlyFar$Flaws" ∈ Com := com_1 8 (by decide +kernel) (by decide +kernel)
set_option maxRecDepth 20000 in
theorem wd_78 : Cond.initialized "OnlyFar$Sixth" ∈ Com := com_1 9 (by decide +kernel) (by decide +kernel)
set_option maxRecDepth 20000 in
theorem wd_79 : Cond.initialized "OnlyFar$Drawing" ∈ Com := com_1 10 (by decide +kernel) (by decide +kernel)
set_option maxRecDepth 20000 in
theorem wd_80 : Cond.initialized "OnlyFar$Naming" ∈ Com := com_1 11 (by decide +kernel) (by decide +kernel)
set_option maxRecDepth 20000 in
theorem wd_81 : Cond.initialized "OnlyFarModel" ∈ Com := com_1 12 (by decide +kernel) (by decide +kernel)
set_option maxRecDepth 20000 in
theorem wd_82 : Cond.initialized "java/util/Arrays" ∈ Com := com_1 13 (by decide +kernel) (by decide +kernel)
set_option maxRecDepth 20000 in
theorem wd_83 : Cond.initialized "java/lang/String" ∈ Com := com_1 14 (by decide +kernel) (by decide +kernel)
set_option maxRecDepth 20000 in
theorem wd_84 : Cond.initialized "java/lang/StringLatin1" ∈ Com := com_1 15 (by decide +kernel) (by decide +kernel)
set_option maxRecDepth 20000 in
theorem wd_85 : Cond.initialized "jdk/internal/util/Preconditions" ∈ Com := com_1 16 (by decide +kernel) (by decide +kernel)
set_option maxRecDepth 20000 in
theorem wd_86 : Cond.initialized "java/lang/StringUTF16" ∈ Com := com_1 17 (by decide +kernel) (by decide +kernel)
set_option maxRecDepth 20000 in
theorem wd_87 : Cond.initialized "java/lang/Math" ∈ Com := com_1 18 (by decide +kernel) (by decide +kernel)
set_option maxRecDepth 20000 in
theorem wd_88 : Cond.initialized "java/lang/System" ∈ Com := com_1 19 (by decide +kernel) (by decide +kernel)
set_option maxRecDepth 20000 in
theorem wd_89 : Cond.initialized "java/lang/Integer" ∈ Com := com_1 20 (by decide +kernel) (by decide +kernel)
set_option maxRecDepth 20000 in
theorem wd_90 : Cond.initialized "java/lang/Long" ∈ Com := com_1 21 (by decide +kernel) (by decide +kernel)
set_option maxRecDepth 20000 in
theorem wd_91 : Cond.classLink "OnlyFarLaw" 7 "OnlyFar" ∈ Com := com_1 22 (by decide +kernel) (by decide +kernel)
set_option maxRecDepth 20000 in
theorem wd_92 : Cond.instantiable "OnlyFar" 12 ∈ Com := com_1 23 (by decide +kernel) (by decide +kernel)
set_option maxRecDepth 20000 in
theorem wd_93 : Cond.methodLink "OnlyFarLaw" 9 yX10_init ∈ Com := com_1 24 (by decide +kernel) (by decide +kernel)
set_option maxRecDepth 20000 in
theorem wd_94 : Cond.instanceMethod yX10_init ∈ Com := com_1 25 (by decide +kernel) (by decide +kernel)
set_option maxRecDepth 20000 in
theorem wd_95 : Cond.code yX10_init prog_1_method_1_code 2 none ∈ Com := com_1 26 (by decide +kernel) (by decide +kernel)
set_option maxRecDepth 20000 in
theorem wd_96 : Cond.methodLink "OnlyFar" 1 objectInit ∈ Com := com_1 27 (by decide +kernel) (by decide +kernel)
set_option maxRecDepth 20000 in
theorem wd_97 : Cond.instanceMethod objectInit ∈ Com := com_1 28 (by decide +kernel) (by decide +kernel)
set_option maxRecDepth 20000 in
theorem wd_98 : Cond.code objectInit ⟨#[0xb1]⟩ 1 none ∈ Com := com_1 29 (by decide +kernel) (by decide +kernel)
set_option maxRecDepth 20000 in
theorem wd_99 : Cond.classLink "OnlyFar" 7 "OnlyFar$Tape" ∈ Com := com_1 30 (by decide +kernel) (by decide +kernel)
set_option maxRecDepth 20000 in
theorem wd_100 : Cond.instantiable "OnlyFar$Tape" 2 ∈ Com := com_1 31 (by decide +kernel) (by decide +kernel)
set_option maxRecDepth 20000 in
theorem wd_101 : Cond.methodLink "OnlyFar" 9 yX9_init ∈ Com := com_1 32 (by decide +kernel) (by decide +kernel)
set_option maxRecDepth 20000 in
theorem wd_102 : Cond.instanceMethod yX9_init ∈ Com := com_1 33 (by decide +kernel) (by decide +kernel)
set_option maxRecDepth 20000 in
theorem wd_103 : Cond.code yX9_init prog_11_method_1_code 1 none ∈ Com := com_1 34 (by decide +kernel) (by decide +kernel)
set_option maxRecDepth 20000 in
theorem wd_104 : Cond.methodLink "OnlyFar$Tape" 3 objectInit ∈ Com := com_1 35 (by decide +kernel) (by decide +kernel)
set_option maxRecDepth 20000 in
theorem wd_105 : Cond.fieldLink "OnlyFar$Tape" 9 "OnlyFar$Tape" "length" "I" ∈ Com := com_1 36 (by decide +kernel) (by decide +kernel)
set_option maxRecDepth 20000 in
theorem wd_106 : Cond.fieldLink "OnlyFar" 94 "OnlyFar$Tape" "length" "I" ∈ Com := com_1 37 (by decide +kernel) (by decide +kernel)
set_option maxRecDepth 20000 in
theorem wd_107 : Cond.fieldLink "OnlyFar$Reader" 58 "OnlyFar$Tape" "length" "I" ∈ Com := com_1 38 (by decide +kernel) (by decide +kernel)
set_option maxRecDepth 20000 in
theorem wd_108 : Cond.fieldLink "OnlyFar$Tape" 15 "OnlyFar$Tape" "bytes" "[B" ∈ Com := com_1 39 (by decide +kernel) (by decide +kernel)
set_option maxRecDepth 20000 in
theorem wd_109 : Cond.fieldLink "OnlyFar$Reader" 112 "OnlyFar$Tape" "bytes" "[B" ∈ Com := com_1 40 (by decide +kernel) (by decide +kernel)
set_option maxRecDepth 20000 in
theorem wd_110 : Cond.lays "OnlyFar$Tape" "OnlyFar$Tape" "length" "I" ∈ Com := com_1 41 (by decide +kernel) (by decide +kernel)
set_option maxRecDepth 20000 in
theorem wd_112 : Cond.laysFinal "OnlyFar$Tape" "OnlyFar$Tape" "bytes" "[B" ∈ Com := com_1 43 (by decide +kernel) (by decide +kernel)
set_option maxRecDepth 20000 in
theorem wd_114 : Cond.superclass "OnlyFar$Tape" "java/lang/Object" ∈ Com := com_1 45 (by decide +kernel) (by decide +kernel)
set_option maxRecDepth 20000 in
theorem wd_115 : Cond.arrayClass .byte ∈ Com := com_1 46 (by decide +kernel) (by decide +kernel)
set_option maxRecDepth 20000 in
theorem wd_116 : Cond.classLink "OnlyFar" 16 "OnlyFar$Reader" ∈ Com := com_1 47 (by decide +kernel) (by decide +kernel)
set_option maxRecDepth 20000 in
theorem wd_117 : Cond.instantiable "OnlyFar$Reader" 11 ∈ Com := com_1 48 (by decide +kernel) (by decide +kernel)
set_option maxRecDepth 20000 in
theorem wd_118 : Cond.methodLink "OnlyFar" 18 yX4_init ∈ Com := com_1 49 (by decide +kernel) (by decide +kernel)
set_option maxRecDepth 20000 in
theorem wd_119 : Cond.instanceMethod yX4_init ∈ Com := com_1 50 (by decide +kernel) (by decide +kernel)
set_option maxRecDepth 20000 in
theorem wd_120 : Cond.code yX4_init prog_6_method_1_code 2 none ∈ Com := com_1 51 (by decide +kernel) (by decide +kernel)
set_option maxRecDepth 20000 in
theorem wd_121 : Cond.methodLink "OnlyFar$Reader" 3 objectInit ∈ Com := com_1 52 (by decide +kernel) (by decide +kernel)
set_option maxRecDepth 20000 in
theorem wd_122 : Cond.classLink "OnlyFar$Reader" 15 "OnlyFar$Table" ∈ Com := com_1 53 (by decide +kernel) (by decide +kernel)
set_option maxRecDepth 20000 in
theorem wd_123 : Cond.instantiable "OnlyFar$Table" 2 ∈ Com := com_1 54 (by decide +kernel) (by decide +kernel)
set_option maxRecDepth 20000 in
theorem wd_124 : Cond.methodLink "OnlyFar$Reader" 17 yX8_init ∈ Com := com_1 55 (by decide +kernel) (by decide +kernel)
set_option maxRecDepth 20000 in
theorem wd_125 : Cond.instanceMethod yX8_init ∈ Com := com_1 56 (by decide +kernel) (by decide +kernel)
set_option maxRecDepth 20000 in
theorem wd_126 : Cond.code yX8_init prog_10_method_1_code 1 none ∈ Com := com_1 57 (by decide +kernel) (by decide +kernel)
set_option maxRecDepth 20000 in
theorem wd_127 : Cond.methodLink "OnlyFar$Table" 3 objectInit ∈ Com := com_1 58 (by decide +kernel) (by decide +kernel)
set_option maxRecDepth 20000 in
theorem wd_128 : Cond.fieldLink "OnlyFar$Table" 9 "OnlyFar$Table" "places" "I" ∈ Com := com_1 59 (by decide +kernel) (by decide +kernel)
set_option maxRecDepth 20000 in
theorem wd_129 : Cond.fieldLink "OnlyFar$Naming" 36 "OnlyFar$Table" "places" "I" ∈ Com := com_1 60 (by decide +kernel) (by decide +kernel)
set_option maxRecDepth 20000 in
theorem wd_130 : Cond.fieldLink "OnlyFar$Flaws" 31 "OnlyFar$Table" "places" "I" ∈ Com := com_1 61 (by decide +kernel) (by decide +kernel)
set_option maxRecDepth 20000 in
theorem wd_131 : Cond.fieldLink "OnlyFar$Reader" 55 "OnlyFar$Table" "places" "I" ∈ Com := com_1 62 (by decide +kernel) (by decide +kernel)
set_option maxRecDepth 20000 in
theorem wd_132 : Cond.fieldLink "OnlyFar$Drawing" 74 "OnlyFar$Table" "places" "I" ∈ Com := com_1 63 (by decide +kernel) (by decide +kernel)
set_option maxRecDepth 20000 in
theorem wd_133 : Cond.fieldLink "OnlyFar" 245 "OnlyFar$Table" "places" "I" ∈ Com := com_1 64 (by decide +kernel) (by decide +kernel)
set_option maxRecDepth 20000 in
theorem wd_134 : Cond.fieldLink "OnlyFar$Table" 15 "OnlyFar$Table" "squares" "[I" ∈ Com := com_1 65 (by decide +kernel) (by decide +kernel)
set_option maxRecDepth 20000 in
theorem wd_135 : Cond.lays "OnlyFar$Table" "OnlyFar$Table" "places" "I" ∈ Com := com_1 66 (by decide +kernel) (by decide +kernel)
set_option maxRecDepth 20000 in
theorem wd_137 : Cond.laysFinal "OnlyFar$Table" "OnlyFar$Table" "squares" "[I" ∈ Com := com_1 68 (by decide +kernel) (by decide +kernel)
set_option maxRecDepth 20000 in
theorem wd_139 : Cond.superclass "OnlyFar$Table" "java/lang/Object" ∈ Com := com_1 70 (by decide +kernel) (by decide +kernel)
set_option maxRecDepth 20000 in
theorem wd_140 : Cond.arrayClass .int ∈ Com := com_1 71 (by decide +kernel) (by decide +kernel)
set_option maxRecDepth 20000 in
theorem wd_141 : Cond.fieldLink "OnlyFar$Reader" 18 "OnlyFar$Reader" "draft" "LOnlyFar$Table;" ∈ Com := com_1 72 (by decide +kernel) (by decide +kernel)
set_option maxRecDepth 20000 in
theorem wd_142 : Cond.fieldLink "OnlyFar" 106 "OnlyFar$Reader" "draft" "LOnlyFar$Table;" ∈ Com := com_1 73 (by decide +kernel) (by decide +kernel)
set_option maxRecDepth 20000 in
theorem wd_143 : Cond.fieldLink "OnlyFar$Reader" 25 "OnlyFar$Reader" "lines" "I" ∈ Com := com_1 74 (by decide +kernel) (by decide +kernel)
set_option maxRecDepth 20000 in
theorem wd_144 : Cond.fieldLink "OnlyFar" 119 "OnlyFar$Reader" "lines" "I" ∈ Com := com_1 75 (by decide +kernel) (by decide +kernel)
set_option maxRecDepth 20000 in
theorem wd_145 : Cond.fieldLink "OnlyFar$Reader" 29 "OnlyFar$Reader" "fault" "I" ∈ Com := com_1 76 (by decide +kernel) (by decide +kernel)
set_option maxRecDepth 20000 in
theorem wd_146 : Cond.fieldLink "OnlyFar" 100 "OnlyFar$Reader" "fault" "I" ∈ Com := com_1 77 (by decide +kernel) (by decide +kernel)
set_option maxRecDepth 20000 in
theorem wd_147 : Cond.fieldLink "OnlyFar$Reader" 32 "OnlyFar$Reader" "faultAt" "I" ∈ Com := com_1 78 (by decide +kernel) (by decide +kernel)
set_option maxRecDepth 20000 in
theorem wd_148 : Cond.fieldLink "OnlyFar" 103 "OnlyFar$Reader" "faultAt" "I" ∈ Com := com_1 79 (by decide +kernel) (by decide +kernel)
set_option maxRecDepth 20000 in
theorem wd_149 : Cond.fieldLink "OnlyFar$Reader" 9 "OnlyFar$Reader" "tape" "LOnlyFar$Tape;" ∈ Com := com_1 80 (by decide +kernel) (by decide +kernel)
set_option maxRecDepth 20000 in
theorem wd_150 : Cond.fieldLink "OnlyFar$Reader" 35 "OnlyFar$Reader" "placesTold" "Z" ∈ Com := com_1 81 (by decide +kernel) (by decide +kernel)
set_option maxRecDepth 20000 in
theorem wd_151 : Cond.fieldLink "OnlyFar$Reader" 39 "OnlyFar$Reader" "greatestPlace" "I" ∈ Com := com_1 82 (by decide +kernel) (by decide +kernel)
set_option maxRecDepth 20000 in
theorem wd_152 : Cond.fieldLink "OnlyFar$Reader" 42 "OnlyFar$Reader" "next" "I" ∈ Com := com_1 83 (by decide +kernel) (by decide +kernel)
set_option maxRecDepth 20000 in
theorem wd_153 : Cond.fieldLink "OnlyFar$Reader" 49 "OnlyFar$Reader" "kind" "I" ∈ Com := com_1 84 (by decide +kernel) (by decide +kernel)
set_option maxRecDepth 20000 in
theorem wd_154 : Cond.fieldLink "OnlyFar$Reader" 83 "OnlyFar$Reader" "start" "I" ∈ Com := com_1 85 (by decide +kernel) (by decide +kernel)
set_option maxRecDepth 20000 in
theorem wd_155 : Cond.fieldLink "OnlyFar$Reader" 89 "OnlyFar$Reader" "value" "I" ∈ Com := com_1 86 (by decide +kernel) (by decide +kernel)
set_option maxRecDepth 20000 in
theorem wd_156 : Cond.laysFinal "OnlyFar$Reader" "OnlyFar$Reader" "draft" "LOnlyFar$Table;" ∈ Com := com_1 87 (by decide +kernel) (by decide +kernel)
set_option maxRecDepth 20000 in
theorem wd_158 : Cond.lays "OnlyFar$Reader" "OnlyFar$Reader" "lines" "I" ∈ Com := com_1 89 (by decide +kernel) (by decide +kernel)
set_option maxRecDepth 20000 in
theorem wd_160 : Cond.lays "OnlyFar$Reader" "OnlyFar$Reader" "fault" "I" ∈ Com := com_1 91 (by decide +kernel) (by decide +kernel)
set_option maxRecDepth 20000 in
theorem wd_162 : Cond.lays "OnlyFar$Reader" "OnlyFar$Reader" "faultAt" "I" ∈ Com := com_1 93 (by decide +kernel) (by decide +kernel)
set_option maxRecDepth 20000 in
theorem wd_164 : Cond.laysFinal "OnlyFar$Reader" "OnlyFar$Reader" "tape" "LOnlyFar$Tape;" ∈ Com := com_1 95 (by decide +kernel) (by decide +kernel)
set_option maxRecDepth 20000 in
theorem wd_166 : Cond.lays "OnlyFar$Reader" "OnlyFar$Reader" "placesTold" "Z" ∈ Com := com_1 97 (by decide +kernel) (by decide +kernel)
set_option maxRecDepth 20000 in
theorem wd_168 : Cond.lays "OnlyFar$Reader" "OnlyFar$Reader" "greatestPlace" "I" ∈ Com := com_1 99 (by decide +kernel) (by decide +kernel)
set_option maxRecDepth 20000 in
theorem wd_170 : Cond.lays "OnlyFar$Reader" "OnlyFar$Reader" "next" "I" ∈ Com := com_1 101 (by decide +kernel) (by decide +kernel)
set_option maxRecDepth 20000 in
theorem wd_172 : Cond.lays "OnlyFar$Reader" "OnlyFar$Reader" "kind" "I" ∈ Com := com_1 103 (by decide +kernel) (by decide +kernel)
set_option maxRecDepth 20000 in
theorem wd_174 : Cond.lays "OnlyFar$Reader" "OnlyFar$Reader" "start" "I" ∈ Com := com_1 105 (by decide +kernel) (by decide +kernel)
set_option maxRecDepth 20000 in
theorem wd_176 : Cond.lays "OnlyFar$Reader" "OnlyFar$Reader" "value" "I" ∈ Com := com_1 107 (by decide +kernel) (by decide +kernel)
set_option maxRecDepth 20000 in
theorem wd_178 : Cond.superclass "OnlyFar$Reader" "java/lang/Object" ∈ Com := com_1 109 (by decide +kernel) (by decide +kernel)
set_option maxRecDepth 20000 in
theorem wd_179 : Cond.classLink "OnlyFar" 25 "OnlyFar$Table" ∈ Com := com_1 110 (by decide +kernel) (by decide +kernel)
set_option maxRecDepth 20000 in
theorem wd_180 : Cond.methodLink "OnlyFar" 27 yX8_init ∈ Com := com_1 111 (by decide +kernel) (by decide +kernel)
set_option maxRecDepth 20000 in
theorem wd_181 : Cond.classLink "OnlyFar" 32 "OnlyFar$Road" ∈ Com := com_1 112 (by decide +kernel) (by decide +kernel)
set_option maxRecDepth 20000 in
theorem wd_182 : Cond.instantiable "OnlyFar$Road" 2 ∈ Com := com_1 113 (by decide +kernel) (by decide +kernel)
set_option maxRecDepth 20000 in
theorem wd_183 : Cond.methodLink "OnlyFar" 34 yX5_init ∈ Com := com_1 114 (by decide +kernel) (by decide +kernel)
set_option maxRecDepth 20000 in
theorem wd_184 : Cond.instanceMethod yX5_init ∈ Com := com_1 115 (by decide +kernel) (by decide +kernel)
set_option maxRecDepth 20000 in
theorem wd_185 : Cond.code yX5_init prog_7_method_1_code 1 none ∈ Com := com_1 116 (by decide +kernel) (by decide +kernel)
set_option maxRecDepth 20000 in
theorem wd_186 : Cond.methodLink "OnlyFar$Road" 3 objectInit ∈ Com := com_1 117 (by decide +kernel) (by decide +kernel)
set_option maxRecDepth 20000 in
theorem wd_187 : Cond.fieldLink "OnlyFar$Road" 9 "OnlyFar$Road" "parts" "I" ∈ Com := com_1 118 (by decide +kernel) (by decide +kernel)
set_option maxRecDepth 20000 in
theorem wd_188 : Cond.fieldLink "OnlyFar" 112 "OnlyFar$Road" "parts" "I" ∈ Com := com_1 119 (by decide +kernel) (by decide +kernel)
set_option maxRecDepth 20000 in
theorem wd_189 : Cond.fieldLink "OnlyFar$Road" 15 "OnlyFar$Road" "lengths" "[I" ∈ Com := com_1 120 (by decide +kernel) (by decide +kernel)
set_option maxRecDepth 20000 in
theorem wd_190 : Cond.lays "OnlyFar$Road" "OnlyFar$Road" "parts" "I" ∈ Com := com_1 121 (by decide +kernel) (by decide +kernel)
set_option maxRecDepth 20000 in
theorem wd_192 : Cond.laysFinal "OnlyFar$Road" "OnlyFar$Road" "lengths" "[I" ∈ Com := com_1 123 (by decide +kernel) (by decide +kernel)
set_option maxRecDepth 20000 in
theorem wd_194 : Cond.superclass "OnlyFar$Road" "java/lang/Object" ∈ Com := com_1 125 (by decide +kernel) (by decide +kernel)
set_option maxRecDepth 20000 in
theorem wd_195 : Cond.classLink "OnlyFar" 39 "OnlyFar$Image" ∈ Com := com_1 126 (by decide +kernel) (by decide +kernel)
set_option maxRecDepth 20000 in
theorem wd_197 : Cond.instantiable "OnlyFar$Image" 3 ∈ Com := com_1 128 (by decide +kernel) (by decide +kernel)
set_option maxRecDepth 20000 in
theorem wd_198 : Cond.methodLink "OnlyFar" 45 yX2_init ∈ Com := com_1 129 (by decide +kernel) (by decide +kernel)
set_option maxRecDepth 20000 in
theorem wd_199 : Cond.instanceMethod yX2_init ∈ Com := com_1 130 (by decide +kernel) (by decide +kernel)
set_option maxRecDepth 20000 in
theorem wd_200 : Cond.code yX2_init prog_4_method_1_code 1 none ∈ Com := com_1 131 (by decide +kernel) (by decide +kernel)
set_option maxRecDepth 20000 in
theorem wd_201 : Cond.methodLink "OnlyFar$Image" 1 objectInit ∈ Com := com_1 132 (by decide +kernel) (by decide +kernel)
set_option maxRecDepth 20000 in
theorem wd_202 : Cond.classLink "OnlyFar$Image" 13 "OnlyFar$Table" ∈ Com := com_1 133 (by decide +kernel) (by decide +kernel)
set_option maxRecDepth 20000 in
theorem wd_203 : Cond.methodLink "OnlyFar$Image" 15 yX8_init ∈ Com := com_1 134 (by decide +kernel) (by decide +kernel)
set_option maxRecDepth 20000 in
theorem wd_204 : Cond.classLink "OnlyFar$Image" 20 "OnlyFar$Road" ∈ Com := com_1 135 (by decide +kernel) (by decide +kernel)
set_option maxRecDepth 20000 in
theorem wd_205 : Cond.methodLink "OnlyFar$Image" 22 yX5_init ∈ Com := com_1 136 (by decide +kernel) (by decide +kernel)
set_option maxRecDepth 20000 in
theorem wd_206 : Cond.fieldLink "OnlyFar$Image" 7 "OnlyFar$Image" "kept" "Z" ∈ Com := com_1 137 (by decide +kernel) (by decide +kernel)
set_option maxRecDepth 20000 in
theorem wd_207 : Cond.fieldLink "OnlyFar" 115 "OnlyFar$Image" "kept" "Z" ∈ Com := com_1 138 (by decide +kernel) (by decide +kernel)
set_option maxRecDepth 20000 in
theorem wd_208 : Cond.fieldLink "OnlyFar$Image" 16 "OnlyFar$Image" "table" "LOnlyFar$Table;" ∈ Com := com_1 139 (by decide +kernel) (by decide +kernel)
set_option maxRecDepth 20000 in
theorem wd_209 : Cond.fieldLink "OnlyFar" 303 "OnlyFar$Image" "table" "LOnlyFar$Table;" ∈ Com := com_1 140 (by decide +kernel) (by decide +kernel)
set_option maxRecDepth 20000 in
theorem wd_210 : Cond.fieldLink "OnlyFar$Image" 23 "OnlyFar$Image" "way" "LOnlyFar$Road;" ∈ Com := com_1 141 (by decide +kernel) (by decide +kernel)
set_option maxRecDepth 20000 in
theorem wd_211 : Cond.fieldLink "OnlyFar" 322 "OnlyFar$Image" "way" "LOnlyFar$Road;" ∈ Com := com_1 142 (by decide +kernel) (by decide +kernel)
set_option maxRecDepth 20000 in
theorem wd_212 : Cond.lays "OnlyFar$Image" "OnlyFar$Image" "kept" "Z" ∈ Com := com_1 143 (by decide +kernel) (by decide +kernel)
set_option maxRecDepth 20000 in
theorem wd_214 : Cond.laysFinal "OnlyFar$Image" "OnlyFar$Image" "table" "LOnlyFar$Table;" ∈ Com := com_1 145 (by decide +kernel) (by decide +kernel)
set_option maxRecDepth 20000 in
theorem wd_216 : Cond.laysFinal "OnlyFar$Image" "OnlyFar$Image" "way" "LOnlyFar$Road;" ∈ Com := com_1 147 (by decide +kernel) (by decide +kernel)
set_option maxRecDepth 20000 in
theorem wd_218 : Cond.superclass "OnlyFar$Image" "java/lang/Object" ∈ Com := com_1 149 (by decide +kernel) (by decide +kernel)
set_option maxRecDepth 20000 in
theorem wd_219 : Cond.classLink "OnlyFar" 46 "OnlyFar$Sheet" ∈ Com := com_1 150 (by decide +kernel) (by decide +kernel)
set_option maxRecDepth 20000 in
theorem wd_221 : Cond.instantiable "OnlyFar$Sheet" 3 ∈ Com := com_1 152 (by decide +kernel) (by decide +kernel)
set_option maxRecDepth 20000 in
theorem wd_222 : Cond.methodLink "OnlyFar" 52 yX6_init ∈ Com := com_1 153 (by decide +kernel) (by decide +kernel)
set_option maxRecDepth 20000 in
theorem wd_223 : Cond.instanceMethod yX6_init ∈ Com := com_1 154 (by decide +kernel) (by decide +kernel)
set_option maxRecDepth 20000 in
theorem wd_224 : Cond.code yX6_init prog_8_method_1_code 1 none ∈ Com := com_1 155 (by decide +kernel) (by decide +kernel)
set_option maxRecDepth 20000 in
theorem wd_225 : Cond.methodLink "OnlyFar$Sheet" 3 objectInit ∈ Com := com_1 156 (by decide +kernel) (by decide +kernel)
set_option maxRecDepth 20000 in
theorem wd_226 : Cond.fieldLink "OnlyFar$Sheet" 9 "OnlyFar$Sheet" "lane" "I" ∈ Com := com_1 157 (by decide +kernel) (by decide +kernel)
set_option maxRecDepth 20000 in
theorem wd_227 : Cond.fieldLink "OnlyFar" 355 "OnlyFar$Sheet" "lane" "I" ∈ Com := com_1 158 (by decide +kernel) (by decide +kernel)
set_option maxRecDepth 20000 in
theorem wd_228 : Cond.fieldLink "OnlyFar$Sheet" 15 "OnlyFar$Sheet" "size" "I" ∈ Com := com_1 159 (by decide +kernel) (by decide +kernel)
set_option maxRecDepth 20000 in
theorem wd_229 : Cond.fieldLink "OnlyFar" 358 "OnlyFar$Sheet" "size" "I" ∈ Com := com_1 160 (by decide +kernel) (by decide +kernel)
set_option maxRecDepth 20000 in
theorem wd_230 : Cond.fieldLink "OnlyFar$Sheet" 18 "OnlyFar$Sheet" "cells" "[I" ∈ Com := com_1 161 (by decide +kernel) (by decide +kernel)
set_option maxRecDepth 20000 in
theorem wd_231 : Cond.lays "OnlyFar$Sheet" "OnlyFar$Sheet" "lane" "I" ∈ Com := com_1 162 (by decide +kernel) (by decide +kernel)
set_option maxRecDepth 20000 in
theorem wd_233 : Cond.lays "OnlyFar$Sheet" "OnlyFar$Sheet" "size" "I" ∈ Com := com_1 164 (by decide +kernel) (by decide +kernel)
set_option maxRecDepth 20000 in
theorem wd_235 : Cond.laysFinal "OnlyFar$Sheet" "OnlyFar$Sheet" "cells" "[I" ∈ Com := com_1 166 (by decide +kernel) (by decide +kernel)
set_option maxRecDepth 20000 in
theorem wd_237 : Cond.superclass "OnlyFar$Sheet" "java/lang/Object" ∈ Com := com_1 168 (by decide +kernel) (by decide +kernel)
set_option maxRecDepth 20000 in
theorem wd_238 : Cond.classLink "OnlyFar" 53 "OnlyFar$Flaws" ∈ Com := com_1 169 (by decide +kernel) (by decide +kernel)
set_option maxRecDepth 20000 in
theorem wd_239 : Cond.instantiable "OnlyFar$Flaws" 7 ∈ Com := com_1 170 (by decide +kernel) (by decide +kernel)
set_option maxRecDepth 20000 in
theorem wd_240 : Cond.methodLink "OnlyFar" 55 yX1_init ∈ Com := com_1 171 (by decide +kernel) (by decide +kernel)
set_option maxRecDepth 20000 in
theorem wd_241 : Cond.instanceMethod yX1_init ∈ Com := com_1 172 (by decide +kernel) (by decide +kernel)
set_option maxRecDepth 20000 in
theorem wd_242 : Cond.code yX1_init prog_3_method_1_code 1 none ∈ Com := com_1 173 (by decide +kernel) (by decide +kernel)
set_option maxRecDepth 20000 in
theorem wd_243 : Cond.methodLink "OnlyFar$Flaws" 3 objectInit ∈ Com := com_1 174 (by decide +kernel) (by decide +kernel)
set_option maxRecDepth 20000 in
theorem wd_244 : Cond.fieldLink "OnlyFar$Flaws" 15 "OnlyFar$Flaws" "badThrees" "I" ∈ Com := com_1 175 (by decide +kernel) (by decide +kernel)
set_option maxRecDepth 20000 in
theorem wd_245 : Cond.fieldLink "OnlyFar" 176 "OnlyFar$Flaws" "badThrees" "I" ∈ Com := com_1 176 (by decide +kernel) (by decide +kernel)
set_option maxRecDepth 20000 in
theorem wd_246 : Cond.fieldLink "OnlyFar$Flaws" 19 "OnlyFar$Flaws" "badFours" "I" ∈ Com := com_1 177 (by decide +kernel) (by decide +kernel)
set_option maxRecDepth 20000 in
theorem wd_247 : Cond.fieldLink "OnlyFar" 179 "OnlyFar$Flaws" "badFours" "I" ∈ Com := com_1 178 (by decide +kernel) (by decide +kernel)
set_option maxRecDepth 20000 in
theorem wd_248 : Cond.fieldLink "OnlyFar$Flaws" 22 "OnlyFar$Flaws" "flatThrees" "I" ∈ Com := com_1 179 (by decide +kernel) (by decide +kernel)
set_option maxRecDepth 20000 in
theorem wd_249 : Cond.fieldLink "OnlyFar" 182 "OnlyFar$Flaws" "flatThrees" "I" ∈ Com := com_1 180 (by decide +kernel) (by decide +kernel)
set_option maxRecDepth 20000 in
theorem wd_250 : Cond.fieldLink "OnlyFar$Flaws" 25 "OnlyFar$Flaws" "toldThrees" "I" ∈ Com := com_1 181 (by decide +kernel) (by decide +kernel)
set_option maxRecDepth 20000 in
theorem wd_251 : Cond.fieldLink "OnlyFar" 185 "OnlyFar$Flaws" "toldThrees" "I" ∈ Com := com_1 182 (by decide +kernel) (by decide +kernel)
set_option maxRecDepth 20000 in
theorem wd_252 : Cond.fieldLink "OnlyFar$Flaws" 11 "OnlyFar$Flaws" "flaws" "[I" ∈ Com := com_1 183 (by decide +kernel) (by decide +kernel)
set_option maxRecDepth 20000 in
theorem wd_253 : Cond.fieldLink "OnlyFar$Flaws" 28 "OnlyFar$Flaws" "size" "I" ∈ Com := com_1 184 (by decide +kernel) (by decide +kernel)
set_option maxRecDepth 20000 in
theorem wd_254 : Cond.fieldLink "OnlyFar$Flaws" 79 "OnlyFar$Flaws" "fewest" "I" ∈ Com := com_1 185 (by decide +kernel) (by decide +kernel)
set_option maxRecDepth 20000 in
theorem wd_255 : Cond.lays "OnlyFar$Flaws" "OnlyFar$Flaws" "badThrees" "I" ∈ Com := com_1 186 (by decide +kernel) (by decide +kernel)
set_option maxRecDepth 20000 in
theorem wd_257 : Cond.lays "OnlyFar$Flaws" "OnlyFar$Flaws" "badFours" "I" ∈ Com := com_1 188 (by decide +kernel) (by decide +kernel)
set_option maxRecDepth 20000 in
theorem wd_259 : Cond.lays "OnlyFar$Flaws" "OnlyFar$Flaws" "flatThrees" "I" ∈ Com := com_1 190 (by decide +kernel) (by decide +kernel)
set_option maxRecDepth 20000 in
theorem wd_261 : Cond.lays "OnlyFar$Flaws" "OnlyFar$Flaws" "toldThrees" "I" ∈ Com := com_1 192 (by decide +kernel) (by decide +kernel)
set_option maxRecDepth 20000 in
theorem wd_263 : Cond.laysFinal "OnlyFar$Flaws" "OnlyFar$Flaws" "flaws" "[I" ∈ Com := com_1 194 (by decide +kernel) (by decide +kernel)
set_option maxRecDepth 20000 in
theorem wd_265 : Cond.lays "OnlyFar$Flaws" "OnlyFar$Flaws" "size" "I" ∈ Com := com_1 196 (by decide +kernel) (by decide +kernel)
set_option maxRecDepth 20000 in
theorem wd_267 : Cond.lays "OnlyFar$Flaws" "OnlyFar$Flaws" "fewest" "I" ∈ Com := com_1 198 (by decide +kernel) (by decide +kernel)
set_option maxRecDepth 20000 in
theorem wd_269 : Cond.superclass "OnlyFar$Flaws" "java/lang/Object" ∈ Com := com_1 200 (by decide +kernel) (by decide +kernel)
set_option maxRecDepth 20000 in
theorem wd_270 : Cond.classLink "OnlyFar" 60 "OnlyFar$Sixth" ∈ Com := com_1 201 (by decide +kernel) (by decide +kernel)
set_option maxRecDepth 20000 in
theorem wd_271 : Cond.instantiable "OnlyFar$Sixth" 3 ∈ Com := com_1 202 (by decide +kernel) (by decide +kernel)
set_option maxRecDepth 20000 in
theorem wd_273 : Cond.instanceMethod yX7_init ∈ Com := com_1 204 (by decide +kernel) (by decide +kernel)
set_option maxRecDepth 20000 in
theorem wd_274 : Cond.code yX7_init prog_9_method_1_code 1 none ∈ Com := com_1 205 (by decide +kernel) (by decide +kernel)
set_option maxRecDepth 20000 in
theorem wd_275 : Cond.methodLink "OnlyFar$Sixth" 3 objectInit ∈ Com := com_1 206 (by decide +kernel) (by decide +kernel)
set_option maxRecDepth 20000 in
theorem wd_276 : Cond.fieldLink "OnlyFar$Sixth" 27 "OnlyFar$Sixth" "middle" "J" ∈ Com := com_1 207 (by decide +kernel) (by decide +kernel)
set_option maxRecDepth 20000 in
theorem wd_277 : Cond.fieldLink "OnlyFar$Drawing" 89 "OnlyFar$Sixth" "middle" "J" ∈ Com := com_1 208 (by decide +kernel) (by decide +kernel)
set_option maxRecDepth 20000 in
theorem wd_278 : Cond.fieldLink "OnlyFar" 230 "OnlyFar$Sixth" "middle" "J" ∈ Com := com_1 209 (by decide +kernel) (by decide +kernel)
set_option maxRecDepth 20000 in
theorem wd_279 : Cond.fieldLink "OnlyFar$Sixth" 33 "OnlyFar$Sixth" "spread" "J" ∈ Com := com_1 210 (by decide +kernel) (by decide +kernel)
set_option maxRecDepth 20000 in
theorem wd_280 : Cond.fieldLink "OnlyFar$Drawing" 96 "OnlyFar$Sixth" "spread" "J" ∈ Com := com_1 211 (by decide +kernel) (by decide +kernel)
set_option maxRecDepth 20000 in
theorem wd_281 : Cond.fieldLink "OnlyFar" 234 "OnlyFar$Sixth" "spread" "J" ∈ Com := com_1 212 (by decide +kernel) (by decide +kernel)
set_option maxRecDepth 20000 in
theorem wd_282 : Cond.fieldLink "OnlyFar$Sixth" 17 "OnlyFar$Sixth" "divisor" "J" ∈ Com := com_1 213 (by decide +kernel) (by decide +kernel)
set_option maxRecDepth 20000 in
theorem wd_283 : Cond.fieldLink "OnlyFar$Drawing" 93 "OnlyFar$Sixth" "divisor" "J" ∈ Com := com_1 214 (by decide +kernel) (by decide +kernel)
set_option maxRecDepth 20000 in
theorem wd_284 : Cond.fieldLink "OnlyFar" 237 "OnlyFar$Sixth" "divisor" "J" ∈ Com := com_1 215 (by decide +kernel) (by decide +kernel)
set_option maxRecDepth 20000 in
theorem wd_285 : Cond.lays "OnlyFar$Sixth" "OnlyFar$Sixth" "middle" "J" ∈ Com := com_1 216 (by decide +kernel) (by decide +kernel)
set_option maxRecDepth 20000 in
theorem wd_287 : Cond.lays "OnlyFar$Sixth" "OnlyFar$Sixth" "spread" "J" ∈ Com := com_1 218 (by decide +kernel) (by decide +kernel)
set_option maxRecDepth 20000 in
theorem wd_289 : Cond.lays "OnlyFar$Sixth" "OnlyFar$Sixth" "divisor" "J" ∈ Com := com_1 220 (by decide +kernel) (by decide +kernel)
set_option maxRecDepth 20000 in
theorem wd_291 : Cond.superclass "OnlyFar$Sixth" "java/lang/Object" ∈ Com := com_1 222 (by decide +kernel) (by decide +kernel)
set_option maxRecDepth 20000 in
theorem wd_292 : Cond.classLink "OnlyFar" 67 "OnlyFar$Drawing" ∈ Com := com_1 223 (by decide +kernel) (by decide +kernel)
set_option maxRecDepth 20000 in
theorem wd_293 : Cond.instantiable "OnlyFar$Drawing" 8 ∈ Com := com_1 224 (by decide +kernel) (by decide +kernel)
set_option maxRecDepth 20000 in
theorem wd_294 : Cond.methodLink "OnlyFar" 69 yX0_init ∈ Com := com_1 225 (by decide +kernel) (by decide +kernel)
set_option maxRecDepth 20000 in
theorem wd_295 : Cond.instanceMethod yX0_init ∈ Com := com_1 226 (by decide +kernel) (by decide +kernel)
set_option maxRecDepth 20000 in
theorem wd_296 : Cond.code yX0_init prog_2_method_1_code 2 none ∈ Com := com_1 227 (by decide +kernel) (by decide +kernel)
set_option maxRecDepth 20000 in
theorem wd_297 : Cond.methodLink "OnlyFar$Drawing" 3 objectInit ∈ Com := com_1 228 (by decide +kernel) (by decide +kernel)
set_option maxRecDepth 20000 in
theorem wd_298 : Cond.classLink "OnlyFar$Drawing" 15 "OnlyFar$Sixth" ∈ Com := com_1 229 (by decide +kernel) (by decide +kernel)
set_option maxRecDepth 20000 in
theorem wd_300 : Cond.fieldLink "OnlyFar$Drawing" 65 "OnlyFar$Drawing" "laid" "I" ∈ Com := com_1 231 (by decide +kernel) (by decide +kernel)
set_option maxRecDepth 20000 in
theorem wd_301 : Cond.fieldLink "OnlyFar" 269 "OnlyFar$Drawing" "laid" "I" ∈ Com := com_1 232 (by decide +kernel) (by decide +kernel)
set_option maxRecDepth 20000 in
theorem wd_302 : Cond.fieldLink "OnlyFar$Drawing" 61 "OnlyFar$Drawing" "groups" "I" ∈ Com := com_1 233 (by decide +kernel) (by decide +kernel)
set_option maxRecDepth 20000 in
theorem wd_303 : Cond.fieldLink "OnlyFar" 272 "OnlyFar$Drawing" "groups" "I" ∈ Com := com_1 234 (by decide +kernel) (by decide +kernel)
set_option maxRecDepth 20000 in
theorem wd_304 : Cond.fieldLink "OnlyFar$Drawing" 53 "OnlyFar$Drawing" "stands" "Z" ∈ Com := com_1 235 (by decide +kernel) (by decide +kernel)
set_option maxRecDepth 20000 in
theorem wd_305 : Cond.fieldLink "OnlyFar" 275 "OnlyFar$Drawing" "stands" "Z" ∈ Com := com_1 236 (by decide +kernel) (by decide +kernel)
set_option maxRecDepth 20000 in
theorem wd_306 : Cond.fieldLink "OnlyFar$Drawing" 9 "OnlyFar$Drawing" "table" "LOnlyFar$Table;" ∈ Com := com_1 237 (by decide +kernel) (by decide +kernel)
set_option maxRecDepth 20000 in
theorem wd_307 : Cond.fieldLink "OnlyFar$Drawing" 18 "OnlyFar$Drawing" "sixthOf" "LOnlyFar$Sixth;" ∈ Com := com_1 238 (by decide +kernel) (by decide +kernel)
set_option maxRecDepth 20000 in
theorem wd_308 : Cond.fieldLink "OnlyFar$Drawing" 22 "OnlyFar$Drawing" "sides" "[I" ∈ Com := com_1 239 (by decide +kernel) (by decide +kernel)
set_option maxRecDepth 20000 in
theorem wd_309 : Cond.fieldLink "OnlyFar$Drawing" 26 "OnlyFar$Drawing" "bonds" "[I" ∈ Com := com_2 0 (by decide +kernel) (by decide +kernel)
set_option maxRecDepth 20000 in
theorem wd_310 : Cond.fieldLink "OnlyFar$Drawing" 71 "OnlyFar$Drawing" "offLine" "I" ∈ Com := com_2 1 (by decide +kernel) (by decide +kernel)
set_option maxRecDepth 20000 in
theorem wd_311 : Cond.lays "OnlyFar$Drawing" "OnlyFar$Drawing" "laid" "I" ∈ Com := com_2 2 (by decide +kernel) (by decide +kernel)
set_option maxRecDepth 20000 in
theorem wd_313 : Cond.lays "OnlyFar$Drawing" "OnlyFar$Drawing" "groups" "I" ∈ Com := com_2 4 (by decide +kernel) (by decide +kernel)
set_option maxRecDepth 20000 in
theorem wd_315 : Cond.lays "OnlyFar$Drawing" "OnlyFar$Drawing" "stands" "Z" ∈ Com := com_2 6 (by decide +kernel) (by decide +kernel)
set_option maxRecDepth 20000 in
theorem wd_317 : Cond.laysFinal "OnlyFar$Drawing" "OnlyFar$Drawing" "table" "LOnlyFar$Table;" ∈ Com := com_2 8 (by decide +kernel) (by decide +kernel)
set_option maxRecDepth 20000 in
theorem wd_319 : Cond.laysFinal "OnlyFar$Drawing" "OnlyFar$Drawing" "sixthOf" "LOnlyFar$Sixth;" ∈ Com := com_2 10 (by decide +kernel) (by decide +kernel)
set_option maxRecDepth 20000 in
theorem wd_321 : Cond.laysFinal "OnlyFar$Drawing" "OnlyFar$Drawing" "sides" "[I" ∈ Com := com_2 12 (by decide +kernel) (by decide +kernel)
set_option maxRecDepth 20000 in
theorem wd_323 : Cond.laysFinal "OnlyFar$Drawing" "OnlyFar$Drawing" "bonds" "[I" ∈ Com := com_2 14 (by decide +kernel) (by decide +kernel)
set_option maxRecDepth 20000 in
theorem wd_325 : Cond.lays "OnlyFar$Drawing" "OnlyFar$Drawing" "offLine" "I" ∈ Com := com_2 16 (by decide +kernel) (by decide +kernel)
set_option maxRecDepth 20000 in
theorem wd_327 : Cond.superclass "OnlyFar$Drawing" "java/lang/Object" ∈ Com := com_2 18 (by decide +kernel) (by decide +kernel)
set_option maxRecDepth 20000 in
theorem wd_328 : Cond.classLink "OnlyFar" 76 "OnlyFar$Naming" ∈ Com := com_2 19 (by decide +kernel) (by decide +kernel)
set_option maxRecDepth 20000 in
theorem wd_329 : Cond.instantiable "OnlyFar$Naming" 7 ∈ Com := com_2 20 (by decide +kernel) (by decide +kernel)
set_option maxRecDepth 20000 in
theorem wd_330 : Cond.methodLink "OnlyFar" 78 yX3_init ∈ Com := com_2 21 (by decide +kernel) (by decide +kernel)
set_option maxRecDepth 20000 in
theorem wd_331 : Cond.instanceMethod yX3_init ∈ Com := com_2 22 (by decide +kernel) (by decide +kernel)
set_option maxRecDepth 20000 in
theorem wd_332 : Cond.code yX3_init prog_5_method_1_code 2 none ∈ Com := com_2 23 (by decide +kernel) (by decide +kernel)
set_option maxRecDepth 20000 in
theorem wd_333 : Cond.methodLink "OnlyFar$Naming" 3 objectInit ∈ Com := com_2 24 (by decide +kernel) (by decide +kernel)
set_option maxRecDepth 20000 in
theorem wd_334 : Cond.fieldLink "OnlyFar$Naming" 29 "OnlyFar$Naming" "found" "I" ∈ Com := com_2 25 (by decide +kernel) (by decide +kernel)
set_option maxRecDepth 20000 in
theorem wd_335 : Cond.fieldLink "OnlyFar" 308 "OnlyFar$Naming" "found" "I" ∈ Com := com_2 26 (by decide +kernel) (by decide +kernel)
set_option maxRecDepth 20000 in
theorem wd_336 : Cond.fieldLink "OnlyFar$Naming" 9 "OnlyFar$Naming" "from" "LOnlyFar$Table;" ∈ Com := com_2 27 (by decide +kernel) (by decide +kernel)
set_option maxRecDepth 20000 in
theorem wd_337 : Cond.fieldLink "OnlyFar$Naming" 15 "OnlyFar$Naming" "to" "LOnlyFar$Table;" ∈ Com := com_2 28 (by decide +kernel) (by decide +kernel)
set_option maxRecDepth 20000 in
theorem wd_338 : Cond.fieldLink "OnlyFar$Naming" 18 "OnlyFar$Naming" "first" "[I" ∈ Com := com_2 29 (by decide +kernel) (by decide +kernel)
set_option maxRecDepth 20000 in
theorem wd_339 : Cond.fieldLink "OnlyFar$Naming" 22 "OnlyFar$Naming" "trial" "[I" ∈ Com := com_2 30 (by decide +kernel) (by decide +kernel)
set_option maxRecDepth 20000 in
theorem wd_340 : Cond.fieldLink "OnlyFar$Naming" 33 "OnlyFar$Naming" "used" "I" ∈ Com := com_2 31 (by decide +kernel) (by decide +kernel)
set_option maxRecDepth 20000 in
theorem wd_341 : Cond.fieldLink "OnlyFar$Naming" 25 "OnlyFar$Naming" "firstOnly" "Z" ∈ Com := com_2 32 (by decide +kernel) (by decide +kernel)
set_option maxRecDepth 20000 in
theorem wd_342 : Cond.lays "OnlyFar$Naming" "OnlyFar$Naming" "found" "I" ∈ Com := com_2 33 (by decide +kernel) (by decide +kernel)
set_option maxRecDepth 20000 in
theorem wd_344 : Cond.laysFinal "OnlyFar$Naming" "OnlyFar$Naming" "from" "LOnlyFar$Table;" ∈ Com := com_2 35 (by decide +kernel) (by decide +kernel)
set_option maxRecDepth 20000 in
theorem wd_346 : Cond.lays "OnlyFar$Naming" "OnlyFar$Naming" "to" "LOnlyFar$Table;" ∈ Com := com_2 37 (by decide +kernel) (by decide +kernel)
set_option maxRecDepth 20000 in
theorem wd_348 : Cond.laysFinal "OnlyFar$Naming" "OnlyFar$Naming" "first" "[I" ∈ Com := com_2 39 (by decide +kernel) (by decide +kernel)
set_option maxRecDepth 20000 in
theorem wd_350 : Cond.laysFinal "OnlyFar$Naming" "OnlyFar$Naming" "trial" "[I" ∈ Com := com_2 41 (by decide +kernel) (by decide +kernel)
set_option maxRecDepth 20000 in
theorem wd_352 : Cond.lays "OnlyFar$Naming" "OnlyFar$Naming" "used" "I" ∈ Com := com_2 43 (by decide +kernel) (by decide +kernel)
set_option maxRecDepth 20000 in
theorem wd_354 : Cond.lays "OnlyFar$Naming" "OnlyFar$Naming" "firstOnly" "Z" ∈ Com := com_2 45 (by decide +kernel) (by decide +kernel)
set_option maxRecDepth 20000 in
theorem wd_356 : Cond.superclass "OnlyFar$Naming" "java/lang/Object" ∈ Com := com_2 47 (by decide +kernel) (by decide +kernel)
set_option maxRecDepth 20000 in
theorem wd_357 : Cond.fieldLink "OnlyFar" 10 "OnlyFar" "tape" "LOnlyFar$Tape;" ∈ Com := com_2 48 (by decide +kernel) (by decide +kernel)
set_option maxRecDepth 20000 in
theorem wd_358 : Cond.fieldLink "OnlyFar" 21 "OnlyFar" "reader" "LOnlyFar$Reader;" ∈ Com := com_2 49 (by decide +kernel) (by decide +kernel)
set_option maxRecDepth 20000 in
theorem wd_359 : Cond.fieldLink "OnlyFar" 28 "OnlyFar" "table" "LOnlyFar$Table;" ∈ Com := com_2 50 (by decide +kernel) (by decide +kernel)
set_option maxRecDepth 20000 in
theorem wd_360 : Cond.fieldLink "OnlyFar" 35 "OnlyFar" "way" "LOnlyFar$Road;" ∈ Com := com_2 51 (by decide +kernel) (by decide +kernel)
set_option maxRecDepth 20000 in
theorem wd_361 : Cond.fieldLink "OnlyFar" 41 "OnlyFar" "images" "[LOnlyFar$Image;" ∈ Com := com_2 52 (by decide +kernel) (by decide +kernel)
set_option maxRecDepth 20000 in
theorem wd_362 : Cond.fieldLink "OnlyFar" 48 "OnlyFar" "sheets" "[LOnlyFar$Sheet;" ∈ Com := com_2 53 (by decide +kernel) (by decide +kernel)
set_option maxRecDepth 20000 in
theorem wd_363 : Cond.fieldLink "OnlyFar" 56 "OnlyFar" "flaws" "LOnlyFar$Flaws;" ∈ Com := com_2 54 (by decide +kernel) (by decide +kernel)
set_option maxRecDepth 20000 in
theorem wd_364 : Cond.fieldLink "OnlyFar" 63 "OnlyFar" "sixthOf" "LOnlyFar$Sixth;" ∈ Com := com_2 55 (by decide +kernel) (by decide +kernel)
set_option maxRecDepth 20000 in
theorem wd_365 : Cond.fieldLink "OnlyFar" 72 "OnlyFar" "drawing" "LOnlyFar$Drawing;" ∈ Com := com_2 56 (by decide +kernel) (by decide +kernel)
set_option maxRecDepth 20000 in
theorem wd_366 : Cond.fieldLink "OnlyFar" 79 "OnlyFar" "naming" "LOnlyFar$Naming;" ∈ Com := com_2 57 (by decide +kernel) (by decide +kernel)
set_option maxRecDepth 20000 in
theorem wd_367 : Cond.fieldLink "OnlyFar" 83 "OnlyFar" "lastFault" "I" ∈ Com := com_2 58 (by decide +kernel) (by decide +kernel)
set_option maxRecDepth 20000 in
theorem wd_368 : Cond.fieldLink "OnlyFar" 87 "OnlyFar" "lastTear" "I" ∈ Com := com_2 59 (by decide +kernel) (by decide +kernel)
set_option maxRecDepth 20000 in
theorem wd_369 : Cond.laysFinal "OnlyFar" "OnlyFar" "tape" "LOnlyFar$Tape;" ∈ Com := com_2 60 (by decide +kernel) (by decide +kernel)
set_option maxRecDepth 20000 in
theorem wd_371 : Cond.laysFinal "OnlyFar" "OnlyFar" "reader" "LOnlyFar$Reader;" ∈ Com := com_2 62 (by decide +kernel) (by decide +kernel)
set_option maxRecDepth 20000 in
theorem wd_373 : Cond.laysFinal "OnlyFar" "OnlyFar" "table" "LOnlyFar$Table;" ∈ Com := com_2 64 (by decide +kernel) (by decide +kernel)
set_option maxRecDepth 20000 in
theorem wd_375 : Cond.laysFinal "OnlyFar" "OnlyFar" "way" "LOnlyFar$Road;" ∈ Com := com_2 66 (by decide +kernel) (by decide +kernel)
set_option maxRecDepth 20000 in
theorem wd_377 : Cond.laysFinal "OnlyFar" "OnlyFar" "images" "[LOnlyFar$Image;" ∈ Com := com_2 68 (by decide +kernel) (by decide +kernel)
set_option maxRecDepth 20000 in
theorem wd_379 : Cond.laysFinal "OnlyFar" "OnlyFar" "sheets" "[LOnlyFar$Sheet;" ∈ Com := com_2 70 (by decide +kernel) (by decide +kernel)
set_option maxRecDepth 20000 in
theorem wd_381 : Cond.laysFinal "OnlyFar" "OnlyFar" "flaws" "LOnlyFar$Flaws;" ∈ Com := com_2 72 (by decide +kernel) (by decide +kernel)
set_option maxRecDepth 20000 in
theorem wd_383 : Cond.laysFinal "OnlyFar" "OnlyFar" "sixthOf" "LOnlyFar$Sixth;" ∈ Com := com_2 74 (by decide +kernel) (by decide +kernel)
set_option maxRecDepth 20000 in
theorem wd_385 : Cond.laysFinal "OnlyFar" "OnlyFar" "drawing" "LOnlyFar$Drawing;" ∈ Com := com_2 76 (by decide +kernel) (by decide +kernel)
set_option maxRecDepth 20000 in
theorem wd_387 : Cond.laysFinal "OnlyFar" "OnlyFar" "naming" "LOnlyFar$Naming;" ∈ Com := com_2 78 (by decide +kernel) (by decide +kernel)
set_option maxRecDepth 20000 in
theorem wd_389 : Cond.lays "OnlyFar" "OnlyFar" "lastFault" "I" ∈ Com := com_2 80 (by decide +kernel) (by decide +kernel)
set_option maxRecDepth 20000 in
theorem wd_391 : Cond.lays "OnlyFar" "OnlyFar" "lastTear" "I" ∈ Com := com_2 82 (by decide +kernel) (by decide +kernel)
set_option maxRecDepth 20000 in
theorem wd_393 : Cond.superclass "OnlyFar" "java/lang/Object" ∈ Com := com_2 84 (by decide +kernel) (by decide +kernel)
set_option maxRecDepth 20000 in
theorem wd_394 : Cond.methodLink "OnlyFarLaw" 15 yX10_feed ∈ Com := com_2 85 (by decide +kernel) (by decide +kernel)
set_option maxRecDepth 20000 in
theorem wd_395 : Cond.instanceMethod yX10_feed ∈ Com := com_2 86 (by decide +kernel) (by decide +kernel)
set_option maxRecDepth 20000 in
theorem wd_396 : Cond.selects "OnlyFar" yX10_feed yX10_feed ∈ Com := com_2 87 (by decide +kernel) (by decide +kernel)
set_option maxRecDepth 20000 in
theorem wd_397 : Cond.code yX10_feed prog_1_method_2_code 3 (some .int) ∈ Com := com_2 88 (by decide +kernel) (by decide +kernel)
set_option maxRecDepth 20000 in
theorem wd_398 : Cond.methodLink "OnlyFar" 90 yX9_add ∈ Com := com_2 89 (by decide +kernel) (by decide +kernel)
set_option maxRecDepth 20000 in
theorem wd_399 : Cond.instanceMethod yX9_add ∈ Com := com_2 90 (by decide +kernel) (by decide +kernel)
set_option maxRecDepth 20000 in
theorem wd_400 : Cond.selects "OnlyFar$Tape" yX9_add yX9_add ∈ Com := com_2 91 (by decide +kernel) (by decide +kernel)
set_option maxRecDepth 20000 in
theorem wd_401 : Cond.code yX9_add prog_11_method_2_code 4 (some .boolean) ∈ Com := com_2 92 (by decide +kernel) (by decide +kernel)
set_option maxRecDepth 20000 in
theorem wd_402 : Cond.methodLink "OnlyFarLaw" 20 yX10_end ∈ Com := com_2 93 (by decide +kernel) (by decide +kernel)
set_option maxRecDepth 20000 in
theorem wd_403 : Cond.instanceMethod yX10_end ∈ Com := com_2 94 (by decide +kernel) (by decide +kernel)
set_option maxRecDepth 20000 in
theorem wd_404 : Cond.selects "OnlyFar" yX10_end yX10_end ∈ Com := com_2 95 (by decide +kernel) (by decide +kernel)
set_option maxRecDepth 20000 in
theorem wd_405 : Cond.code yX10_end prog_1_method_3_code 3 (some .int) ∈ Com := com_2 96 (by decide +kernel) (by decide +kernel)
set_option maxRecDepth 20000 in
theorem wd_406 : Cond.methodLink "OnlyFarLaw" 25 yX10_land ∈ Com := com_2 97 (by decide +kernel) (by decide +kernel)
set_option maxRecDepth 20000 in
theorem wd_407 : Cond.instanceMethod yX10_land ∈ Com := com_2 98 (by decide +kernel) (by decide +kernel)
set_option maxRecDepth 20000 in
theorem wd_408 : Cond.selects "OnlyFar" yX10_land yX10_land ∈ Com := com_2 99 (by decide +kernel) (by decide +kernel)
set_option maxRecDepth 20000 in
theorem wd_409 : Cond.code yX10_land prog_1_method_4_code 2 (some .int) ∈ Com := com_2 100 (by decide +kernel) (by decide +kernel)
set_option maxRecDepth 20000 in
theorem wd_410 : Cond.methodLink "OnlyFar" 97 yX4_readAll ∈ Com := com_2 101 (by decide +kernel) (by decide +kernel)
set_option maxRecDepth 20000 in
theorem wd_411 : Cond.instanceMethod yX4_readAll ∈ Com := com_2 102 (by decide +kernel) (by decide +kernel)
set_option maxRecDepth 20000 in
theorem wd_412 : Cond.selects "OnlyFar$Reader" yX4_readAll yX4_readAll ∈ Com := com_2 103 (by decide +kernel) (by decide +kernel)
set_option maxRecDepth 20000 in
theorem wd_413 : Cond.code yX4_readAll prog_6_method_2_code 2 none ∈ Com := com_2 104 (by decide +kernel) (by decide +kernel)
set_option maxRecDepth 20000 in
theorem wd_414 : Cond.methodLink "OnlyFar$Reader" 22 yX8_reset ∈ Com := com_2 105 (by decide +kernel) (by decide +kernel)
set_option maxRecDepth 20000 in
theorem wd_415 : Cond.instanceMethod yX8_reset ∈ Com := com_2 106 (by decide +kernel) (by decide +kernel)
set_option maxRecDepth 20000 in
theorem wd_416 : Cond.selects "OnlyFar$Table" yX8_reset yX8_reset ∈ Com := com_2 107 (by decide +kernel) (by decide +kernel)
set_option maxRecDepth 20000 in
theorem wd_417 : Cond.code yX8_reset prog_10_method_2_code 1 none ∈ Com := com_2 108 (by decide +kernel) (by decide +kernel)
set_option maxRecDepth 20000 in
theorem wd_418 : Cond.methodLink "OnlyFar$Table" 19 yJ7_fill_53178 ∈ Com := com_2 109 (by decide +kernel) (by decide +kernel)
set_option maxRecDepth 20000 in
theorem wd_419 : Cond.static yJ7_fill_53178 ∈ Com := com_2 110 (by decide +kernel) (by decide +kernel)
set_option maxRecDepth 20000 in
theorem wd_420 : Cond.code yJ7_fill_53178 prog_21_method_103_code 4 none ∈ Com := com_2 111 (by decide +kernel) (by decide +kernel)
set_option maxRecDepth 20000 in
theorem wd_421 : Cond.methodLink "OnlyFar$Reader" 45 yX4_readToken ∈ Com := com_2 112 (by decide +kernel) (by decide +kernel)
set_option maxRecDepth 20000 in
theorem wd_423 : Cond.instanceMethod yX4_readToken ∈ Com := com_2 114 (by decide +kernel) (by decide +kernel)
set_option maxRecDepth 20000 in
theorem wd_424 : Cond.code yX4_readToken prog_6_method_8_code 1 (some .boolean) ∈ Com := com_2 115 (by decide +kernel) (by decide +kernel)
set_option maxRecDepth 20000 in
theorem wd_425 : Cond.methodLink "OnlyFar$Reader" 105 yX4_kindAt ∈ Com := com_2 116 (by decide +kernel) (by decide +kernel)
set_option maxRecDepth 20000 in
theorem wd_427 : Cond.instanceMethod yX4_kindAt ∈ Com := com_2 118 (by decide +kernel) (by decide +kernel)
set_option maxRecDepth 20000 in
theorem wd_428 : Cond.code yX4_kindAt prog_6_method_9_code 3 (some .int) ∈ Com := com_2 119 (by decide +kernel) (by decide +kernel)
set_option maxRecDepth 20000 in
theorem wd_429 : Cond.methodLink "OnlyFar$Reader" 63 yX4_refuse ∈ Com := com_2 120 (by decide +kernel) (by decide +kernel)
set_option maxRecDepth 20000 in
theorem wd_431 : Cond.instanceMethod yX4_refuse ∈ Com := com_2 122 (by decide +kernel) (by decide +kernel)
set_option maxRecDepth 20000 in
theorem wd_432 : Cond.code yX4_refuse prog_6_method_11_code 3 (some .boolean) ∈ Com := com_2 123 (by decide +kernel) (by decide +kernel)
set_option maxRecDepth 20000 in
theorem wd_433 : Cond.methodLink "OnlyFar$Reader" 109 yX9_byteAt ∈ Com := com_2 124 (by decide +kernel) (by decide +kernel)
set_option maxRecDepth 20000 in
theorem wd_434 : Cond.instanceMethod yX9_byteAt ∈ Com := com_2 125 (by decide +kernel) (by decide +kernel)
set_option maxRecDepth 20000 in
theorem wd_435 : Cond.selects "OnlyFar$Tape" yX9_byteAt yX9_byteAt ∈ Com := com_2 126 (by decide +kernel) (by decide +kernel)
set_option maxRecDepth 20000 in
theorem wd_436 : Cond.code yX9_byteAt prog_11_method_3_code 2 (some .int) ∈ Com := com_2 127 (by decide +kernel) (by decide +kernel)
set_option maxRecDepth 20000 in
theorem wd_437 : Cond.methodLink "OnlyFar$Reader" 52 yX4_readLine ∈ Com := com_2 128 (by decide +kernel) (by decide +kernel)
set_option maxRecDepth 20000 in
theorem wd_439 : Cond.instanceMethod yX4_readLine ∈ Com := com_2 130 (by decide +kernel) (by decide +kernel)
set_option maxRecDepth 20000 in
theorem wd_440 : Cond.code yX4_readLine prog_6_method_3_code 1 (some .boolean) ∈ Com := com_2 131 (by decide +kernel) (by decide +kernel)
set_option maxRecDepth 20000 in
theorem wd_442 : Cond.methodLink "OnlyFar$Reader" 68 yX4_isName ∈ Com := com_2 133 (by decide +kernel) (by decide +kernel)
set_option maxRecDepth 20000 in
theorem wd_444 : Cond.instanceMethod yX4_isName ∈ Com := com_2 135 (by decide +kernel) (by decide +kernel)
set_option maxRecDepth 20000 in
theorem wd_445 : Cond.code yX4_isName prog_6_method_10_code 3 (some .boolean) ∈ Com := com_2 136 (by decide +kernel) (by decide +kernel)
set_option maxRecDepth 20000 in
theorem wd_446 : Cond.methodLink "OnlyFar$Reader" 116 yJ0_length_8abf5 ∈ Com := com_2 137 (by decide +kernel) (by decide +kernel)
set_option maxRecDepth 20000 in
theorem wd_447 : Cond.instanceMethod yJ0_length_8abf5 ∈ Com := com_2 138 (by decide +kernel) (by decide +kernel)
set_option maxRecDepth 20000 in
theorem wd_448 : Cond.selects "java/lang/String" yJ0_length_8abf5 yJ0_length_8abf5 ∈ Com := com_2 139 (by decide +kernel) (by decide +kernel)
set_option maxRecDepth 20000 in
theorem wd_449 : Cond.code yJ0_length_8abf5 prog_17_method_54_code 1 (some .int) ∈ Com := com_2 140 (by decide +kernel) (by decide +kernel)
set_option maxRecDepth 20000 in
theorem wd_450 : Cond.methodLink "java/lang/String" 335 yJ0_coder_7d493 ∈ Com := com_2 141 (by decide +kernel) (by decide +kernel)
set_option maxRecDepth 20000 in
theorem wd_451 : Cond.instanceMethod yJ0_coder_7d493 ∈ Com := com_2 142 (by decide +kernel) (by decide +kernel)
set_option maxRecDepth 20000 in
theorem wd_452 : Cond.selects "java/lang/String" yJ0_coder_7d493 yJ0_coder_7d493 ∈ Com := com_2 143 (by decide +kernel) (by decide +kernel)
set_option maxRecDepth 20000 in
theorem wd_453 : Cond.code yJ0_coder_7d493 prog_17_method_152_code 1 (some .byte) ∈ Com := com_2 144 (by decide +kernel) (by decide +kernel)
set_option maxRecDepth 20000 in
theorem wd_454 : Cond.fieldLink "java/lang/String" 38 "java/lang/String" "COMPACT_STRINGS" "Z" ∈ Com := com_2 145 (by decide +kernel) (by decide +kernel)
set_option maxRecDepth 20000 in
theorem wd_456 : Cond.methodLink "OnlyFar$Reader" 121 yJ0_charAt_5068e ∈ Com := com_2 147 (by decide +kernel) (by decide +kernel)
set_option maxRecDepth 20000 in
theorem wd_457 : Cond.instanceMethod yJ0_charAt_5068e ∈ Com := com_2 148 (by decide +kernel) (by decide +kernel)
set_option maxRecDepth 20000 in
theorem wd_458 : Cond.selects "java/lang/String" yJ0_charAt_5068e yJ0_charAt_5068e ∈ Com := com_2 149 (by decide +kernel) (by decide +kernel)
set_option maxRecDepth 20000 in
theorem wd_459 : Cond.code yJ0_charAt_5068e prog_17_method_56_code 2 (some .char) ∈ Com := com_2 150 (by decide +kernel) (by decide +kernel)
set_option maxRecDepth 20000 in
theorem wd_460 : Cond.methodLink "java/lang/String" 492 yJ0_isLatin1_aae02 ∈ Com := com_2 151 (by decide +kernel) (by decide +kernel)
set_option maxRecDepth 20000 in
theorem wd_461 : Cond.instanceMethod yJ0_isLatin1_aae02 ∈ Com := com_2 152 (by decide +kernel) (by decide +kernel)
set_option maxRecDepth 20000 in
theorem wd_462 : Cond.selects "java/lang/String" yJ0_isLatin1_aae02 yJ0_isLatin1_aae02 ∈ Com := com_2 153 (by decide +kernel) (by decide +kernel)
set_option maxRecDepth 20000 in
theorem wd_463 : Cond.code yJ0_isLatin1_aae02 prog_17_method_154_code 1 (some .boolean) ∈ Com := com_2 154 (by decide +kernel) (by decide +kernel)
set_option maxRecDepth 20000 in
theorem wd_464 : Cond.methodLink "java/lang/String" 495 yJ1_charAt_3b067 ∈ Com := com_2 155 (by decide +kernel) (by decide +kernel)
set_option maxRecDepth 20000 in
theorem wd_465 : Cond.static yJ1_charAt_3b067 ∈ Com := com_2 156 (by decide +kernel) (by decide +kernel)
set_option maxRecDepth 20000 in
theorem wd_466 : Cond.code yJ1_charAt_3b067 prog_18_method_2_code 2 (some .char) ∈ Com := com_2 157 (by decide +kernel) (by decide +kernel)
set_option maxRecDepth 20000 in
theorem wd_467 : Cond.methodLink "java/lang/StringLatin1" 9 yJ0_checkIndex_df160 ∈ Com := com_2 158 (by decide +kernel) (by decide +kernel)
set_option maxRecDepth 20000 in
theorem wd_468 : Cond.static yJ0_checkIndex_df160 ∈ Com := com_2 159 (by decide +kernel) (by decide +kernel)
set_option maxRecDepth 20000 in
theorem wd_469 : Cond.code yJ0_checkIndex_df160 prog_17_method_155_code 2 none ∈ Com := com_2 160 (by decide +kernel) (by decide +kernel)
set_option maxRecDepth 20000 in
theorem wd_470 : Cond.fieldLink "java/lang/String" 1053 "jdk/internal/util/Preconditions" "SIOOBE_FORMATTER" "Ljava/util/function/BiFunction;" ∈ Com := com_2 161 (by decide +kernel) (by decide +kernel)
set_option maxRecDepth 20000 in
theorem wd_472 : Cond.methodLink "java/lang/String" 1059 yJ3_checkIndex_8e157 ∈ Com := com_2 163 (by decide +kernel) (by decide +kernel)
set_option maxRecDepth 20000 in
theorem wd_473 : Cond.static yJ3_checkIndex_8e157 ∈ Com := com_2 164 (by decide +kernel) (by decide +kernel)
set_option maxRecDepth 20000 in
theorem wd_474 : Cond.code yJ3_checkIndex_8e157 prog_22_method_11_code 3 (some .int) ∈ Com := com_2 165 (by decide +kernel) (by decide +kernel)
set_option maxRecDepth 20000 in
theorem wd_475 : Cond.methodLink "java/lang/String" 498 yJ2_charAt_3b067 ∈ Com := com_2 166 (by decide +kernel) (by decide +kernel)
set_option maxRecDepth 20000 in
theorem wd_476 : Cond.static yJ2_charAt_3b067 ∈ Com := com_2 167 (by decide +kernel) (by decide +kernel)
set_option maxRecDepth 20000 in
theorem wd_477 : Cond.code yJ2_charAt_3b067 prog_19_method_83_code 2 (some .char) ∈ Com := com_2 168 (by decide +kernel) (by decide +kernel)
set_option maxRecDepth 20000 in
theorem wd_478 : Cond.methodLink "java/lang/StringUTF16" 67 yJ2_checkIndex_2214a ∈ Com := com_2 169 (by decide +kernel) (by decide +kernel)
set_option maxRecDepth 20000 in
theorem wd_479 : Cond.static yJ2_checkIndex_2214a ∈ Com := com_2 170 (by decide +kernel) (by decide +kernel)
set_option maxRecDepth 20000 in
theorem wd_480 : Cond.code yJ2_checkIndex_2214a prog_19_method_91_code 2 none ∈ Com := com_2 171 (by decide +kernel) (by decide +kernel)
set_option maxRecDepth 20000 in
theorem wd_481 : Cond.methodLink "java/lang/StringUTF16" 48 yJ2_length_9d52b ∈ Com := com_2 172 (by decide +kernel) (by decide +kernel)
set_option maxRecDepth 20000 in
theorem wd_482 : Cond.static yJ2_length_9d52b ∈ Com := com_2 173 (by decide +kernel) (by decide +kernel)
set_option maxRecDepth 20000 in
theorem wd_483 : Cond.code yJ2_length_9d52b prog_19_method_6_code 1 (some .int) ∈ Com := com_2 174 (by decide +kernel) (by decide +kernel)
set_option maxRecDepth 20000 in
theorem wd_484 : Cond.methodLink "java/lang/StringUTF16" 414 yJ0_checkIndex_df160 ∈ Com := com_2 175 (by decide +kernel) (by decide +kernel)
set_option maxRecDepth 20000 in
theorem wd_485 : Cond.methodLink "java/lang/StringUTF16" 71 yJ2_getChar_3b067 ∈ Com := com_2 176 (by decide +kernel) (by decide +kernel)
set_option maxRecDepth 20000 in
theorem wd_486 : Cond.static yJ2_getChar_3b067 ∈ Com := com_2 177 (by decide +kernel) (by decide +kernel)
set_option maxRecDepth 20000 in
theorem wd_487 : Cond.code yJ2_getChar_3b067 prog_19_method_5_code 2 (some .char) ∈ Com := com_2 178 (by decide +kernel) (by decide +kernel)
set_option maxRecDepth 20000 in
theorem wd_488 : Cond.fieldLink "java/lang/StringUTF16" 44 "java/lang/StringUTF16" "$assertionsDisabled" "Z" ∈ Com := com_2 179 (by decide +kernel) (by decide +kernel)
set_option maxRecDepth 20000 in
theorem wd_490 : Cond.fieldLink "java/lang/StringUTF16" 59 "java/lang/StringUTF16" "HI_BYTE_SHIFT" "I" ∈ Com := com_2 181 (by decide +kernel) (by decide +kernel)
set_option maxRecDepth 20000 in
theorem wd_492 : Cond.fieldLink "java/lang/StringUTF16" 63 "java/lang/StringUTF16" "LO_BYTE_SHIFT" "I" ∈ Com := com_2 183 (by decide +kernel) (by decide +kernel)
set_option maxRecDepth 20000 in
theorem wd_494 : Cond.methodLink "OnlyFar$Reader" 72 yX4_readPlaces ∈ Com := com_2 185 (by decide +kernel) (by decide +kernel)
set_option maxRecDepth 20000 in
theorem wd_496 : Cond.instanceMethod yX4_readPlaces ∈ Com := com_2 187 (by decide +kernel) (by decide +kernel)
set_option maxRecDepth 20000 in
theorem wd_497 : Cond.code yX4_readPlaces prog_6_method_4_code 1 (some .boolean) ∈ Com := com_2 188 (by decide +kernel) (by decide +kernel)
set_option maxRecDepth 20000 in
theorem wd_498 : Cond.methodLink "OnlyFar$Reader" 86 yX4_readNumber ∈ Com := com_2 189 (by decide +kernel) (by decide +kernel)
set_option maxRecDepth 20000 in
theorem wd_500 : Cond.instanceMethod yX4_readNumber ∈ Com := com_2 191 (by decide +kernel) (by decide +kernel)
set_option maxRecDepth 20000 in
theorem wd_501 : Cond.code yX4_readNumber prog_6_method_6_code 3 (some .boolean) ∈ Com := com_2 192 (by decide +kernel) (by decide +kernel)
set_option maxRecDepth 20000 in
theorem wd_502 : Cond.methodLink "OnlyFar$Reader" 75 yX4_readSign ∈ Com := com_2 193 (by decide +kernel) (by decide +kernel)
set_option maxRecDepth 20000 in
theorem wd_504 : Cond.instanceMethod yX4_readSign ∈ Com := com_2 195 (by decide +kernel) (by decide +kernel)
set_option maxRecDepth 20000 in
theorem wd_505 : Cond.code yX4_readSign prog_6_method_7_code 1 (some .boolean) ∈ Com := com_2 196 (by decide +kernel) (by decide +kernel)
set_option maxRecDepth 20000 in
theorem wd_507 : Cond.methodLink "OnlyFar$Reader" 80 yX4_readFar ∈ Com := com_2 198 (by decide +kernel) (by decide +kernel)
set_option maxRecDepth 20000 in
theorem wd_509 : Cond.instanceMethod yX4_readFar ∈ Com := com_2 200 (by decide +kernel) (by decide +kernel)
set_option maxRecDepth 20000 in
theorem wd_510 : Cond.code yX4_readFar prog_6_method_5_code 3 (some .boolean) ∈ Com := com_2 201 (by decide +kernel) (by decide +kernel)
set_option maxRecDepth 20000 in
theorem wd_511 : Cond.methodLink "OnlyFar$Reader" 92 yX8_square ∈ Com := com_2 202 (by decide +kernel) (by decide +kernel)
set_option maxRecDepth 20000 in
theorem wd_512 : Cond.instanceMethod yX8_square ∈ Com := com_2 203 (by decide +kernel) (by decide +kernel)
set_option maxRecDepth 20000 in
theorem wd_513 : Cond.selects "OnlyFar$Table" yX8_square yX8_square ∈ Com := com_2 204 (by decide +kernel) (by decide +kernel)
set_option maxRecDepth 20000 in
theorem wd_514 : Cond.code yX8_square prog_10_method_8_code 3 (some .int) ∈ Com := com_2 205 (by decide +kernel) (by decide +kernel)
set_option maxRecDepth 20000 in
theorem wd_515 : Cond.methodLink "OnlyFar$Reader" 96 yX8_put ∈ Com := com_2 206 (by decide +kernel) (by decide +kernel)
set_option maxRecDepth 20000 in
theorem wd_516 : Cond.instanceMethod yX8_put ∈ Com := com_2 207 (by decide +kernel) (by decide +kernel)
set_option maxRecDepth 20000 in
theorem wd_517 : Cond.selects "OnlyFar$Table" yX8_put yX8_put ∈ Com := com_2 208 (by decide +kernel) (by decide +kernel)
set_option maxRecDepth 20000 in
theorem wd_518 : Cond.code yX8_put prog_10_method_10_code 4 none ∈ Com := com_2 209 (by decide +kernel) (by decide +kernel)
set_option maxRecDepth 20000 in
theorem wd_519 : Cond.methodLink "OnlyFar$Reader" 100 Lib.Math.max.name ∈ Com := com_2 210 (by decide +kernel) (by decide +kernel)
set_option maxRecDepth 20000 in
theorem wd_520 : Cond.static Lib.Math.max.name ∈ Com := com_2 211 (by decide +kernel) (by decide +kernel)
set_option maxRecDepth 20000 in
theorem wd_521 : Cond.code Lib.Math.max.name Lib.Math.max.code 2 (some .int) ∈ Com := com_2 212 (by decide +kernel) (by decide +kernel)
set_option maxRecDepth 20000 in
theorem wd_522 : Cond.methodLink "OnlyFar" 109 yX8_copyFrom ∈ Com := com_2 213 (by decide +kernel) (by decide +kernel)
set_option maxRecDepth 20000 in
theorem wd_523 : Cond.instanceMethod yX8_copyFrom ∈ Com := com_2 214 (by decide +kernel) (by decide +kernel)
set_option maxRecDepth 20000 in
theorem wd_524 : Cond.selects "OnlyFar$Table" yX8_copyFrom yX8_copyFrom ∈ Com := com_2 215 (by decide +kernel) (by decide +kernel)
set_option maxRecDepth 20000 in
theorem wd_525 : Cond.code yX8_copyFrom prog_10_method_3_code 2 none ∈ Com := com_2 216 (by decide +kernel) (by decide +kernel)
set_option maxRecDepth 20000 in
theorem wd_526 : Cond.methodLink "OnlyFar$Table" 25 arraycopyName ∈ Com := com_2 217 (by decide +kernel) (by decide +kernel)
set_option maxRecDepth 20000 in
theorem wd_527 : Cond.static arraycopyName ∈ Com := com_2 218 (by decide +kernel) (by decide +kernel)
set_option maxRecDepth 20000 in
theorem wd_528 : Cond.native arraycopyName ∈ Com := com_2 219 (by decide +kernel) (by decide +kernel)
set_option maxRecDepth 20000 in
theorem wd_529 : Cond.methodLink "OnlyFarLaw" 30 yX10_fault ∈ Com := com_2 220 (by decide +kernel) (by decide +kernel)
set_option maxRecDepth 20000 in
theorem wd_530 : Cond.instanceMethod yX10_fault ∈ Com := com_2 221 (by decide +kernel) (by decide +kernel)
set_option maxRecDepth 20000 in
theorem wd_531 : Cond.selects "OnlyFar" yX10_fault yX10_fault ∈ Com := com_2 222 (by decide +kernel) (by decide +kernel)
set_option maxRecDepth 20000 in
theorem wd_532 : Cond.code yX10_fault prog_1_method_5_code 1 (some .int) ∈ Com := com_2 223 (by decide +kernel) (by decide +kernel)
set_option maxRecDepth 20000 in
theorem wd_533 : Cond.methodLink "OnlyFarLaw" 34 yX10_far ∈ Com := com_2 224 (by decide +kernel) (by decide +kernel)
set_option maxRecDepth 20000 in
theorem wd_534 : Cond.instanceMethod yX10_far ∈ Com := com_2 225 (by decide +kernel) (by decide +kernel)
set_option maxRecDepth 20000 in
theorem wd_535 : Cond.selects "OnlyFar" yX10_far yX10_far ∈ Com := com_2 226 (by decide +kernel) (by decide +kernel)
set_option maxRecDepth 20000 in
theorem wd_536 : Cond.code yX10_far prog_1_method_6_code 3 (some .int) ∈ Com := com_2 227 (by decide +kernel) (by decide +kernel)
set_option maxRecDepth 20000 in
theorem wd_537 : Cond.methodLink "OnlyFar" 122 yX8_areTwo ∈ Com := com_2 228 (by decide +kernel) (by decide +kernel)
set_option maxRecDepth 20000 in
theorem wd_538 : Cond.instanceMethod yX8_areTwo ∈ Com := com_2 229 (by decide +kernel) (by decide +kernel)
set_option maxRecDepth 20000 in
theorem wd_539 : Cond.selects "OnlyFar$Table" yX8_areTwo yX8_areTwo ∈ Com := com_2 230 (by decide +kernel) (by decide +kernel)
set_option maxRecDepth 20000 in
theorem wd_540 : Cond.code yX8_areTwo prog_10_method_5_code 3 (some .boolean) ∈ Com := com_2 231 (by decide +kernel) (by decide +kernel)
set_option maxRecDepth 20000 in
theorem wd_541 : Cond.methodLink "OnlyFar$Table" 31 yX8_isPlace ∈ Com := com_2 232 (by decide +kernel) (by decide +kernel)
set_option maxRecDepth 20000 in
theorem wd_542 : Cond.instanceMethod yX8_isPlace ∈ Com := com_2 233 (by decide +kernel) (by decide +kernel)
set_option maxRecDepth 20000 in
theorem wd_543 : Cond.selects "OnlyFar$Table" yX8_isPlace yX8_isPlace ∈ Com := com_2 234 (by decide +kernel) (by decide +kernel)
set_option maxRecDepth 20000 in
theorem wd_544 : Cond.code yX8_isPlace prog_10_method_4_code 2 (some .boolean) ∈ Com := com_2 235 (by decide +kernel) (by decide +kernel)
set_option maxRecDepth 20000 in
theorem wd_545 : Cond.methodLink "OnlyFar" 126 yX8_toldOrNone ∈ Com := com_2 236 (by decide +kernel) (by decide +kernel)
set_option maxRecDepth 20000 in
theorem wd_546 : Cond.instanceMethod yX8_toldOrNone ∈ Com := com_2 237 (by decide +kernel) (by decide +kernel)
set_option maxRecDepth 20000 in
theorem wd_547 : Cond.selects "OnlyFar$Table" yX8_toldOrNone yX8_toldOrNone ∈ Com := com_2 238 (by decide +kernel) (by decide +kernel)
set_option maxRecDepth 20000 in
theorem wd_548 : Cond.code yX8_toldOrNone prog_10_method_9_code 4 (some .int) ∈ Com := com_2 239 (by decide +kernel) (by decide +kernel)
set_option maxRecDepth 20000 in
theorem wd_549 : Cond.methodLink "OnlyFar$Table" 43 yX8_square ∈ Com := com_3 0 (by decide +kernel) (by decide +kernel)
set_option maxRecDepth 20000 in
theorem wd_550 : Cond.methodLink "OnlyFarLaw" 39 yX10_tell ∈ Com := com_3 1 (by decide +kernel) (by decide +kernel)
set_option maxRecDepth 20000 in
theorem wd_551 : Cond.instanceMethod yX10_tell ∈ Com := com_3 2 (by decide +kernel) (by decide +kernel)
set_option maxRecDepth 20000 in
theorem wd_552 : Cond.selects "OnlyFar" yX10_tell yX10_tell ∈ Com := com_3 3 (by decide +kernel) (by decide +kernel)
set_option maxRecDepth 20000 in
theorem wd_553 : Cond.code yX10_tell prog_1_method_7_code 5 (some .int) ∈ Com := com_3 4 (by decide +kernel) (by decide +kernel)
set_option maxRecDepth 20000 in
theorem wd_554 : Cond.methodLink "OnlyFar" 130 yX10_isSquare ∈ Com := com_3 5 (by decide +kernel) (by decide +kernel)
set_option maxRecDepth 20000 in
theorem wd_555 : Cond.static yX10_isSquare ∈ Com := com_3 6 (by decide +kernel) (by decide +kernel)
set_option maxRecDepth 20000 in
theorem wd_556 : Cond.code yX10_isSquare prog_1_method_44_code 1 (some .boolean) ∈ Com := com_3 7 (by decide +kernel) (by decide +kernel)
set_option maxRecDepth 20000 in
theorem wd_557 : Cond.methodLink "OnlyFar" 134 yX8_put ∈ Com := com_3 8 (by decide +kernel) (by decide +kernel)
set_option maxRecDepth 20000 in
theorem wd_558 : Cond.methodLink "OnlyFarLaw" 44 yX10_pair ∈ Com := com_3 9 (by decide +kernel) (by decide +kernel)
set_option maxRecDepth 20000 in
theorem wd_559 : Cond.instanceMethod yX10_pair ∈ Com := com_3 10 (by decide +kernel) (by decide +kernel)
set_option maxRecDepth 20000 in
theorem wd_560 : Cond.selects "OnlyFar" yX10_pair yX10_pair ∈ Com := com_3 11 (by decide +kernel) (by decide +kernel)
set_option maxRecDepth 20000 in
theorem wd_561 : Cond.code yX10_pair prog_1_method_8_code 3 (some .int) ∈ Com := com_3 12 (by decide +kernel) (by decide +kernel)
set_option maxRecDepth 20000 in
theorem wd_562 : Cond.methodLink "OnlyFar" 138 yX10_pairOf ∈ Com := com_3 13 (by decide +kernel) (by decide +kernel)
set_option maxRecDepth 20000 in
theorem wd_563 : Cond.static yX10_pairOf ∈ Com := com_3 14 (by decide +kernel) (by decide +kernel)
set_option maxRecDepth 20000 in
theorem wd_564 : Cond.code yX10_pairOf prog_1_method_50_code 3 (some .int) ∈ Com := com_3 15 (by decide +kernel) (by decide +kernel)
set_option maxRecDepth 20000 in
theorem wd_565 : Cond.methodLink "OnlyFar" 252 Lib.Math.max.name ∈ Com := com_3 16 (by decide +kernel) (by decide +kernel)
set_option maxRecDepth 20000 in
theorem wd_566 : Cond.methodLink "OnlyFar" 257 Lib.Math.min.name ∈ Com := com_3 17 (by decide +kernel) (by decide +kernel)
set_option maxRecDepth 20000 in
theorem wd_567 : Cond.static Lib.Math.min.name ∈ Com := com_3 18 (by decide +kernel) (by decide +kernel)
set_option maxRecDepth 20000 in
theorem wd_568 : Cond.code Lib.Math.min.name Lib.Math.min.code 2 (some .int) ∈ Com := com_3 19 (by decide +kernel) (by decide +kernel)
set_option maxRecDepth 20000 in
theorem wd_569 : Cond.methodLink "OnlyFarLaw" 48 yX10_wide ∈ Com := com_3 20 (by decide +kernel) (by decide +kernel)
set_option maxRecDepth 20000 in
theorem wd_570 : Cond.instanceMethod yX10_wide ∈ Com := com_3 21 (by decide +kernel) (by decide +kernel)
set_option maxRecDepth 20000 in
theorem wd_571 : Cond.selects "OnlyFar" yX10_wide yX10_wide ∈ Com := com_3 22 (by decide +kernel) (by decide +kernel)
set_option maxRecDepth 20000 in
theorem wd_572 : Cond.code yX10_wide prog_1_method_9_code 4 (some .long) ∈ Com := com_3 23 (by decide +kernel) (by decide +kernel)
set_option maxRecDepth 20000 in
theorem wd_573 : Cond.methodLink "OnlyFar" 141 yX8_areThree ∈ Com := com_3 24 (by decide +kernel) (by decide +kernel)
set_option maxRecDepth 20000 in
theorem wd_574 : Cond.instanceMethod yX8_areThree ∈ Com := com_3 25 (by decide +kernel) (by decide +kernel)
set_option maxRecDepth 20000 in
theorem wd_575 : Cond.selects "OnlyFar$Table" yX8_areThree yX8_areThree ∈ Com := com_3 26 (by decide +kernel) (by decide +kernel)
set_option maxRecDepth 20000 in
theorem wd_576 : Cond.code yX8_areThree prog_10_method_6_code 4 (some .boolean) ∈ Com := com_3 27 (by decide +kernel) (by decide +kernel)
set_option maxRecDepth 20000 in
theorem wd_577 : Cond.methodLink "OnlyFar$Table" 35 yX8_areTwo ∈ Com := com_3 28 (by decide +kernel) (by decide +kernel)
set_option maxRecDepth 20000 in
theorem wd_578 : Cond.constantLong "OnlyFar" 145 (-9000000000) ∈ Com := com_3 29 (by decide +kernel) (by decide +kernel)
set_option maxRecDepth 20000 in
theorem wd_579 : Cond.methodLink "OnlyFar" 147 yX8_isToldThree ∈ Com := com_3 30 (by decide +kernel) (by decide +kernel)
set_option maxRecDepth 20000 in
theorem wd_580 : Cond.instanceMethod yX8_isToldThree ∈ Com := com_3 31 (by decide +kernel) (by decide +kernel)
set_option maxRecDepth 20000 in
theorem wd_581 : Cond.selects "OnlyFar$Table" yX8_isToldThree yX8_isToldThree ∈ Com := com_3 32 (by decide +kernel) (by decide +kernel)
set_option maxRecDepth 20000 in
theorem wd_582 : Cond.code yX8_isToldThree prog_10_method_12_code 4 (some .boolean) ∈ Com := com_3 33 (by decide +kernel) (by decide +kernel)
set_option maxRecDepth 20000 in
theorem wd_583 : Cond.methodLink "OnlyFar" 150 yX8_wideOf ∈ Com := com_3 34 (by decide +kernel) (by decide +kernel)
set_option maxRecDepth 20000 in
theorem wd_584 : Cond.instanceMethod yX8_wideOf ∈ Com := com_3 35 (by decide +kernel) (by decide +kernel)
set_option maxRecDepth 20000 in
theorem wd_585 : Cond.selects "OnlyFar$Table" yX8_wideOf yX8_wideOf ∈ Com := com_3 36 (by decide +kernel) (by decide +kernel)
set_option maxRecDepth 20000 in
theorem wd_586 : Cond.code yX8_wideOf prog_10_method_15_code 4 (some .long) ∈ Com := com_3 37 (by decide +kernel) (by decide +kernel)
set_option maxRecDepth 20000 in
theorem wd_588 : Cond.static yX10_wideOfSquares ∈ Com := com_3 39 (by decide +kernel) (by decide +kernel)
set_option maxRecDepth 20000 in
theorem wd_589 : Cond.code yX10_wideOfSquares prog_1_method_51_code 8 (some .long) ∈ Com := com_3 40 (by decide +kernel) (by decide +kernel)
set_option maxRecDepth 20000 in
theorem wd_590 : Cond.constantLong "OnlyFar" 220 4 ∈ Com := com_3 41 (by decide +kernel) (by decide +kernel)
set_option maxRecDepth 20000 in
theorem wd_591 : Cond.constantLong "OnlyFar" 154 (-9000000001) ∈ Com := com_3 42 (by decide +kernel) (by decide +kernel)
set_option maxRecDepth 20000 in
theorem wd_592 : Cond.methodLink "OnlyFarLaw" 53 yX10_three ∈ Com := com_3 43 (by decide +kernel) (by decide +kernel)
set_option maxRecDepth 20000 in
theorem wd_593 : Cond.instanceMethod yX10_three ∈ Com := com_3 44 (by decide +kernel) (by decide +kernel)
set_option maxRecDepth 20000 in
theorem wd_594 : Cond.selects "OnlyFar" yX10_three yX10_three ∈ Com := com_3 45 (by decide +kernel) (by decide +kernel)
set_option maxRecDepth 20000 in
theorem wd_595 : Cond.code yX10_three prog_1_method_10_code 4 (some .int) ∈ Com := com_3 46 (by decide +kernel) (by decide +kernel)
set_option maxRecDepth 20000 in
theorem wd_596 : Cond.methodLink "OnlyFar" 156 yX8_canBeThree ∈ Com := com_3 47 (by decide +kernel) (by decide +kernel)
set_option maxRecDepth 20000 in
theorem wd_597 : Cond.instanceMethod yX8_canBeThree ∈ Com := com_3 48 (by decide +kernel) (by decide +kernel)
set_option maxRecDepth 20000 in
theorem wd_598 : Cond.selects "OnlyFar$Table" yX8_canBeThree yX8_canBeThree ∈ Com := com_3 49 (by decide +kernel) (by decide +kernel)
set_option maxRecDepth 20000 in
theorem wd_599 : Cond.code yX8_canBeThree prog_10_method_16_code 4 (some .boolean) ∈ Com := com_3 50 (by decide +kernel) (by decide +kernel)
set_option maxRecDepth 20000 in
theorem wd_600 : Cond.methodLink "OnlyFar$Table" 58 yX8_wideOf ∈ Com := com_3 51 (by decide +kernel) (by decide +kernel)
set_option maxRecDepth 20000 in
theorem wd_601 : Cond.methodLink "OnlyFar" 159 yX10_bit ∈ Com := com_3 52 (by decide +kernel) (by decide +kernel)
set_option maxRecDepth 20000 in
theorem wd_602 : Cond.static yX10_bit ∈ Com := com_3 53 (by decide +kernel) (by decide +kernel)
set_option maxRecDepth 20000 in
theorem wd_603 : Cond.code yX10_bit prog_1_method_42_code 1 (some .int) ∈ Com := com_3 54 (by decide +kernel) (by decide +kernel)
set_option maxRecDepth 20000 in
theorem wd_604 : Cond.methodLink "OnlyFarLaw" 57 yX10_four ∈ Com := com_3 55 (by decide +kernel) (by decide +kernel)
set_option maxRecDepth 20000 in
theorem wd_605 : Cond.instanceMethod yX10_four ∈ Com := com_3 56 (by decide +kernel) (by decide +kernel)
set_option maxRecDepth 20000 in
theorem wd_606 : Cond.selects "OnlyFar" yX10_four yX10_four ∈ Com := com_3 57 (by decide +kernel) (by decide +kernel)
set_option maxRecDepth 20000 in
theorem wd_607 : Cond.code yX10_four prog_1_method_11_code 5 (some .int) ∈ Com := com_3 58 (by decide +kernel) (by decide +kernel)
set_option maxRecDepth 20000 in
theorem wd_608 : Cond.methodLink "OnlyFar" 163 yX8_areFour ∈ Com := com_3 59 (by decide +kernel) (by decide +kernel)
set_option maxRecDepth 20000 in
theorem wd_609 : Cond.instanceMethod yX8_areFour ∈ Com := com_3 60 (by decide +kernel) (by decide +kernel)
set_option maxRecDepth 20000 in
theorem wd_610 : Cond.selects "OnlyFar$Table" yX8_areFour yX8_areFour ∈ Com := com_3 61 (by decide +kernel) (by decide +kernel)
set_option maxRecDepth 20000 in
theorem wd_611 : Cond.code yX8_areFour prog_10_method_7_code 5 (some .boolean) ∈ Com := com_3 62 (by decide +kernel) (by decide +kernel)
set_option maxRecDepth 20000 in
theorem wd_612 : Cond.methodLink "OnlyFar$Table" 39 yX8_areThree ∈ Com := com_3 63 (by decide +kernel) (by decide +kernel)
set_option maxRecDepth 20000 in
theorem wd_613 : Cond.methodLink "OnlyFar" 167 yX8_isToldFour ∈ Com := com_3 64 (by decide +kernel) (by decide +kernel)
set_option maxRecDepth 20000 in
theorem wd_614 : Cond.instanceMethod yX8_isToldFour ∈ Com := com_3 65 (by decide +kernel) (by decide +kernel)
set_option maxRecDepth 20000 in
theorem wd_615 : Cond.selects "OnlyFar$Table" yX8_isToldFour yX8_isToldFour ∈ Com := com_3 66 (by decide +kernel) (by decide +kernel)
set_option maxRecDepth 20000 in
theorem wd_616 : Cond.code yX8_isToldFour prog_10_method_13_code 5 (some .boolean) ∈ Com := com_3 67 (by decide +kernel) (by decide +kernel)
set_option maxRecDepth 20000 in
theorem wd_617 : Cond.methodLink "OnlyFar$Table" 51 yX8_isToldThree ∈ Com := com_3 68 (by decide +kernel) (by decide +kernel)
set_option maxRecDepth 20000 in
theorem wd_618 : Cond.methodLink "OnlyFar" 170 yX8_canBeFour ∈ Com := com_3 69 (by decide +kernel) (by decide +kernel)
set_option maxRecDepth 20000 in
theorem wd_619 : Cond.instanceMethod yX8_canBeFour ∈ Com := com_3 70 (by decide +kernel) (by decide +kernel)
set_option maxRecDepth 20000 in
theorem wd_620 : Cond.selects "OnlyFar$Table" yX8_canBeFour yX8_canBeFour ∈ Com := com_3 71 (by decide +kernel) (by decide +kernel)
set_option maxRecDepth 20000 in
theorem wd_621 : Cond.code yX8_canBeFour prog_10_method_17_code 5 (some .boolean) ∈ Com := com_3 72 (by decide +kernel) (by decide +kernel)
set_option maxRecDepth 20000 in
theorem wd_622 : Cond.methodLink "OnlyFar$Table" 62 yX8_canBeThree ∈ Com := com_3 73 (by decide +kernel) (by decide +kernel)
set_option maxRecDepth 20000 in
theorem wd_623 : Cond.methodLink "OnlyFar$Table" 65 yX8_isFlatFour ∈ Com := com_3 74 (by decide +kernel) (by decide +kernel)
set_option maxRecDepth 20000 in
theorem wd_625 : Cond.instanceMethod yX8_isFlatFour ∈ Com := com_3 76 (by decide +kernel) (by decide +kernel)
set_option maxRecDepth 20000 in
theorem wd_626 : Cond.code yX8_isFlatFour prog_10_method_18_code 17 (some .boolean) ∈ Com := com_3 77 (by decide +kernel) (by decide +kernel)
set_option maxRecDepth 20000 in
theorem wd_627 : Cond.constantLong "OnlyFar$Table" 69 2 ∈ Com := com_3 78 (by decide +kernel) (by decide +kernel)
set_option maxRecDepth 20000 in
theorem wd_628 : Cond.methodLink "OnlyFar$Table" 71 yX8_leaning ∈ Com := com_3 79 (by decide +kernel) (by decide +kernel)
set_option maxRecDepth 20000 in
theorem wd_629 : Cond.instanceMethod yX8_leaning ∈ Com := com_3 80 (by decide +kernel) (by decide +kernel)
set_option maxRecDepth 20000 in
theorem wd_630 : Cond.selects "OnlyFar$Table" yX8_leaning yX8_leaning ∈ Com := com_3 81 (by decide +kernel) (by decide +kernel)
set_option maxRecDepth 20000 in
theorem wd_631 : Cond.code yX8_leaning prog_10_method_14_code 4 (some .long) ∈ Com := com_3 82 (by decide +kernel) (by decide +kernel)
set_option maxRecDepth 20000 in
theorem wd_632 : Cond.methodLink "OnlyFarLaw" 62 yX10_wrong ∈ Com := com_3 83 (by decide +kernel) (by decide +kernel)
set_option maxRecDepth 20000 in
theorem wd_633 : Cond.instanceMethod yX10_wrong ∈ Com := com_3 84 (by decide +kernel) (by decide +kernel)
set_option maxRecDepth 20000 in
theorem wd_634 : Cond.selects "OnlyFar" yX10_wrong yX10_wrong ∈ Com := com_3 85 (by decide +kernel) (by decide +kernel)
set_option maxRecDepth 20000 in
theorem wd_635 : Cond.code yX10_wrong prog_1_method_12_code 2 (some .int) ∈ Com := com_3 86 (by decide +kernel) (by decide +kernel)
set_option maxRecDepth 20000 in
theorem wd_636 : Cond.methodLink "OnlyFar" 173 yX1_lookAt ∈ Com := com_3 87 (by decide +kernel) (by decide +kernel)
set_option maxRecDepth 20000 in
theorem wd_637 : Cond.instanceMethod yX1_lookAt ∈ Com := com_3 88 (by decide +kernel) (by decide +kernel)
set_option maxRecDepth 20000 in
theorem wd_638 : Cond.selects "OnlyFar$Flaws" yX1_lookAt yX1_lookAt ∈ Com := com_3 89 (by decide +kernel) (by decide +kernel)
set_option maxRecDepth 20000 in
theorem wd_639 : Cond.code yX1_lookAt prog_3_method_2_code 5 none ∈ Com := com_3 90 (by decide +kernel) (by decide +kernel)
set_option maxRecDepth 20000 in
theorem wd_640 : Cond.methodLink "OnlyFar$Flaws" 36 yX1_lookAtThree ∈ Com := com_3 91 (by decide +kernel) (by decide +kernel)
set_option maxRecDepth 20000 in
theorem wd_642 : Cond.instanceMethod yX1_lookAtThree ∈ Com := com_3 93 (by decide +kernel) (by decide +kernel)
set_option maxRecDepth 20000 in
theorem wd_643 : Cond.code yX1_lookAtThree prog_3_method_3_code 8 none ∈ Com := com_3 94 (by decide +kernel) (by decide +kernel)
set_option maxRecDepth 20000 in
theorem wd_644 : Cond.methodLink "OnlyFar$Flaws" 40 yX8_isToldThree ∈ Com := com_3 95 (by decide +kernel) (by decide +kernel)
set_option maxRecDepth 20000 in
theorem wd_645 : Cond.methodLink "OnlyFar$Flaws" 44 yX8_wideOf ∈ Com := com_3 96 (by decide +kernel) (by decide +kernel)
set_option maxRecDepth 20000 in
theorem wd_646 : Cond.methodLink "OnlyFar$Flaws" 48 yX1_pairsOfThree ∈ Com := com_3 97 (by decide +kernel) (by decide +kernel)
set_option maxRecDepth 20000 in
theorem wd_647 : Cond.static yX1_pairsOfThree ∈ Com := com_3 98 (by decide +kernel) (by decide +kernel)
set_option maxRecDepth 20000 in
theorem wd_648 : Cond.code yX1_pairsOfThree prog_3_method_4_code 3 (some .int) ∈ Com := com_3 99 (by decide +kernel) (by decide +kernel)
set_option maxRecDepth 20000 in
theorem wd_650 : Cond.methodLink "OnlyFar$Flaws" 52 yX1_add ∈ Com := com_3 101 (by decide +kernel) (by decide +kernel)
set_option maxRecDepth 20000 in
theorem wd_652 : Cond.instanceMethod yX1_add ∈ Com := com_3 103 (by decide +kernel) (by decide +kernel)
set_option maxRecDepth 20000 in
theorem wd_653 : Cond.code yX1_add prog_3_method_5_code 2 none ∈ Com := com_3 104 (by decide +kernel) (by decide +kernel)
set_option maxRecDepth 20000 in
theorem wd_654 : Cond.methodLink "OnlyFar$Flaws" 56 yX8_isToldFour ∈ Com := com_3 105 (by decide +kernel) (by decide +kernel)
set_option maxRecDepth 20000 in
theorem wd_655 : Cond.methodLink "OnlyFar$Flaws" 60 yX8_canBeFour ∈ Com := com_3 106 (by decide +kernel) (by decide +kernel)
set_option maxRecDepth 20000 in
theorem wd_656 : Cond.methodLink "OnlyFarLaw" 66 yX10_falses ∈ Com := com_3 107 (by decide +kernel) (by decide +kernel)
set_option maxRecDepth 20000 in
theorem wd_657 : Cond.instanceMethod yX10_falses ∈ Com := com_3 108 (by decide +kernel) (by decide +kernel)
set_option maxRecDepth 20000 in
theorem wd_658 : Cond.selects "OnlyFar" yX10_falses yX10_falses ∈ Com := com_3 109 (by decide +kernel) (by decide +kernel)
set_option maxRecDepth 20000 in
theorem wd_659 : Cond.code yX10_falses prog_1_method_13_code 3 (some .int) ∈ Com := com_3 110 (by decide +kernel) (by decide +kernel)
set_option maxRecDepth 20000 in
theorem wd_660 : Cond.methodLink "OnlyFar" 188 yX1_fewestFalse ∈ Com := com_3 111 (by decide +kernel) (by decide +kernel)
set_option maxRecDepth 20000 in
theorem wd_661 : Cond.instanceMethod yX1_fewestFalse ∈ Com := com_3 112 (by decide +kernel) (by decide +kernel)
set_option maxRecDepth 20000 in
theorem wd_662 : Cond.selects "OnlyFar$Flaws" yX1_fewestFalse yX1_fewestFalse ∈ Com := com_3 113 (by decide +kernel) (by decide +kernel)
set_option maxRecDepth 20000 in
theorem wd_663 : Cond.code yX1_fewestFalse prog_3_method_8_code 1 (some .int) ∈ Com := com_3 114 (by decide +kernel) (by decide +kernel)
set_option maxRecDepth 20000 in
theorem wd_664 : Cond.methodLink "OnlyFar$Flaws" 82 yX1_leaveOut ∈ Com := com_3 115 (by decide +kernel) (by decide +kernel)
set_option maxRecDepth 20000 in
theorem wd_666 : Cond.instanceMethod yX1_leaveOut ∈ Com := com_3 117 (by decide +kernel) (by decide +kernel)
set_option maxRecDepth 20000 in
theorem wd_667 : Cond.code yX1_leaveOut prog_3_method_9_code 5 none ∈ Com := com_3 118 (by decide +kernel) (by decide +kernel)
set_option maxRecDepth 20000 in
theorem wd_668 : Cond.methodLink "OnlyFar$Flaws" 86 yX1_firstFlawWithout ∈ Com := com_3 119 (by decide +kernel) (by decide +kernel)
set_option maxRecDepth 20000 in
theorem wd_670 : Cond.instanceMethod yX1_firstFlawWithout ∈ Com := com_3 121 (by decide +kernel) (by decide +kernel)
set_option maxRecDepth 20000 in
theorem wd_671 : Cond.code yX1_firstFlawWithout prog_3_method_10_code 3 (some .int) ∈ Com := com_3 122 (by decide +kernel) (by decide +kernel)
set_option maxRecDepth 20000 in
theorem wd_672 : Cond.methodLink "OnlyFar$Flaws" 89 yX1_isBetter ∈ Com := com_3 123 (by decide +kernel) (by decide +kernel)
set_option maxRecDepth 20000 in
theorem wd_674 : Cond.instanceMethod yX1_isBetter ∈ Com := com_3 125 (by decide +kernel) (by decide +kernel)
set_option maxRecDepth 20000 in
theorem wd_675 : Cond.code yX1_isBetter prog_3_method_11_code 3 (some .boolean) ∈ Com := com_3 126 (by decide +kernel) (by decide +kernel)
set_option maxRecDepth 20000 in
theorem wd_676 : Cond.methodLink "OnlyFar$Flaws" 93 yJ6_bitCount_0f7a4 ∈ Com := com_3 127 (by decide +kernel) (by decide +kernel)
set_option maxRecDepth 20000 in
theorem wd_677 : Cond.static yJ6_bitCount_0f7a4 ∈ Com := com_3 128 (by decide +kernel) (by decide +kernel)
set_option maxRecDepth 20000 in
theorem wd_678 : Cond.code yJ6_bitCount_0f7a4 prog_14_method_49_code 1 (some .int) ∈ Com := com_3 129 (by decide +kernel) (by decide +kernel)
set_option maxRecDepth 20000 in
theorem wd_679 : Cond.constant "java/lang/Integer" 265 1431655765 ∈ Com := com_3 130 (by decide +kernel) (by decide +kernel)
set_option maxRecDepth 20000 in
theorem wd_680 : Cond.constant "java/lang/Integer" 266 858993459 ∈ Com := com_3 131 (by decide +kernel) (by decide +kernel)
set_option maxRecDepth 20000 in
theorem wd_681 : Cond.constant "java/lang/Integer" 267 252645135 ∈ Com := com_3 132 (by decide +kernel) (by decide +kernel)
set_option maxRecDepth 20000 in
theorem wd_683 : Cond.static yX10_hasBit ∈ Com := com_3 134 (by decide +kernel) (by decide +kernel)
set_option maxRecDepth 20000 in
theorem wd_684 : Cond.code yX10_hasBit prog_1_method_43_code 2 (some .boolean) ∈ Com := com_3 135 (by decide +kernel) (by decide +kernel)
set_option maxRecDepth 20000 in
theorem wd_685 : Cond.methodLink "OnlyFar" 192 yJ6_bitCount_0f7a4 ∈ Com := com_3 136 (by decide +kernel) (by decide +kernel)
set_option maxRecDepth 20000 in
theorem wd_686 : Cond.methodLink "OnlyFarLaw" 70 yX10_doubt ∈ Com := com_3 137 (by decide +kernel) (by decide +kernel)
set_option maxRecDepth 20000 in
theorem wd_687 : Cond.instanceMethod yX10_doubt ∈ Com := com_3 138 (by decide +kernel) (by decide +kernel)
set_option maxRecDepth 20000 in
theorem wd_688 : Cond.selects "OnlyFar" yX10_doubt yX10_doubt ∈ Com := com_3 139 (by decide +kernel) (by decide +kernel)
set_option maxRecDepth 20000 in
theorem wd_689 : Cond.code yX10_doubt prog_1_method_14_code 3 (some .int) ∈ Com := com_3 140 (by decide +kernel) (by decide +kernel)
set_option maxRecDepth 20000 in
theorem wd_690 : Cond.methodLink "OnlyFar" 198 yX1_mostDoubted ∈ Com := com_3 141 (by decide +kernel) (by decide +kernel)
set_option maxRecDepth 20000 in
theorem wd_691 : Cond.instanceMethod yX1_mostDoubted ∈ Com := com_3 142 (by decide +kernel) (by decide +kernel)
set_option maxRecDepth 20000 in
theorem wd_692 : Cond.selects "OnlyFar$Flaws" yX1_mostDoubted yX1_mostDoubted ∈ Com := com_3 143 (by decide +kernel) (by decide +kernel)
set_option maxRecDepth 20000 in
theorem wd_693 : Cond.code yX1_mostDoubted prog_3_method_7_code 5 (some .int) ∈ Com := com_3 144 (by decide +kernel) (by decide +kernel)
set_option maxRecDepth 20000 in
theorem wd_694 : Cond.methodLink "OnlyFar$Flaws" 75 yX1_flawsWith ∈ Com := com_3 145 (by decide +kernel) (by decide +kernel)
set_option maxRecDepth 20000 in
theorem wd_695 : Cond.instanceMethod yX1_flawsWith ∈ Com := com_3 146 (by decide +kernel) (by decide +kernel)
set_option maxRecDepth 20000 in
theorem wd_696 : Cond.selects "OnlyFar$Flaws" yX1_flawsWith yX1_flawsWith ∈ Com := com_3 147 (by decide +kernel) (by decide +kernel)
set_option maxRecDepth 20000 in
theorem wd_697 : Cond.code yX1_flawsWith prog_3_method_6_code 4 (some .int) ∈ Com := com_3 148 (by decide +kernel) (by decide +kernel)
set_option maxRecDepth 20000 in
theorem wd_699 : Cond.methodLink "OnlyFar" 201 yX1_flawsWith ∈ Com := com_3 150 (by decide +kernel) (by decide +kernel)
set_option maxRecDepth 20000 in
theorem wd_700 : Cond.methodLink "OnlyFarLaw" 74 yX10_bend ∈ Com := com_3 151 (by decide +kernel) (by decide +kernel)
set_option maxRecDepth 20000 in
theorem wd_701 : Cond.instanceMethod yX10_bend ∈ Com := com_3 152 (by decide +kernel) (by decide +kernel)
set_option maxRecDepth 20000 in
theorem wd_702 : Cond.selects "OnlyFar" yX10_bend yX10_bend ∈ Com := com_3 153 (by decide +kernel) (by decide +kernel)
set_option maxRecDepth 20000 in
theorem wd_703 : Cond.code yX10_bend prog_1_method_15_code 6 (some .int) ∈ Com := com_3 154 (by decide +kernel) (by decide +kernel)
set_option maxRecDepth 20000 in
theorem wd_704 : Cond.methodLink "OnlyFar" 204 yX8_leaning ∈ Com := com_3 155 (by decide +kernel) (by decide +kernel)
set_option maxRecDepth 20000 in
theorem wd_705 : Cond.methodLink "OnlyFarLaw" 78 yX10_foot ∈ Com := com_3 156 (by decide +kernel) (by decide +kernel)
set_option maxRecDepth 20000 in
theorem wd_706 : Cond.instanceMethod yX10_foot ∈ Com := com_3 157 (by decide +kernel) (by decide +kernel)
set_option maxRecDepth 20000 in
theorem wd_707 : Cond.selects "OnlyFar" yX10_foot yX10_foot ∈ Com := com_3 158 (by decide +kernel) (by decide +kernel)
set_option maxRecDepth 20000 in
theorem wd_708 : Cond.code yX10_foot prog_1_method_16_code 7 (some .long) ∈ Com := com_3 159 (by decide +kernel) (by decide +kernel)
set_option maxRecDepth 20000 in
theorem wd_709 : Cond.methodLink "OnlyFar" 207 yX10_refusalOfThree ∈ Com := com_3 160 (by decide +kernel) (by decide +kernel)
set_option maxRecDepth 20000 in
theorem wd_711 : Cond.instanceMethod yX10_refusalOfThree ∈ Com := com_3 162 (by decide +kernel) (by decide +kernel)
set_option maxRecDepth 20000 in
theorem wd_712 : Cond.code yX10_refusalOfThree prog_1_method_49_code 5 (some .long) ∈ Com := com_3 163 (by decide +kernel) (by decide +kernel)
set_option maxRecDepth 20000 in
theorem wd_713 : Cond.constantLong "OnlyFar" 211 2 ∈ Com := com_3 164 (by decide +kernel) (by decide +kernel)
set_option maxRecDepth 20000 in
theorem wd_714 : Cond.methodLink "OnlyFar" 213 yX8_square ∈ Com := com_3 165 (by decide +kernel) (by decide +kernel)
set_option maxRecDepth 20000 in
theorem wd_715 : Cond.methodLink "OnlyFar" 216 yX10_lowest ∈ Com := com_3 166 (by decide +kernel) (by decide +kernel)
set_option maxRecDepth 20000 in
theorem wd_716 : Cond.static yX10_lowest ∈ Com := com_3 167 (by decide +kernel) (by decide +kernel)
set_option maxRecDepth 20000 in
theorem wd_717 : Cond.code yX10_lowest prog_1_method_53_code 7 (some .long) ∈ Com := com_3 168 (by decide +kernel) (by decide +kernel)
set_option maxRecDepth 20000 in
theorem wd_718 : Cond.methodLink "OnlyFar" 361 Lib.MathLoose.abs_long.x ∈ Com := com_3 169 (by decide +kernel) (by decide +kernel)
set_option maxRecDepth 20000 in
theorem wd_719 : Cond.static Lib.MathLoose.abs_long.x ∈ Com := com_3 170 (by decide +kernel) (by decide +kernel)
set_option maxRecDepth 20000 in
theorem wd_720 : Cond.code Lib.MathLoose.abs_long.x Lib.MathLoose.abs_long.code 2 (some .long) ∈ Com := com_3 171 (by decide +kernel) (by decide +kernel)
set_option maxRecDepth 20000 in
theorem wd_721 : Cond.methodLink "OnlyFar" 364 yX10_commonDivisor ∈ Com := com_3 172 (by decide +kernel) (by decide +kernel)
set_option maxRecDepth 20000 in
theorem wd_722 : Cond.static yX10_commonDivisor ∈ Com := com_3 173 (by decide +kernel) (by decide +kernel)
set_option maxRecDepth 20000 in
theorem wd_723 : Cond.code yX10_commonDivisor prog_1_method_54_code 11 (some .long) ∈ Com := com_3 174 (by decide +kernel) (by decide +kernel)
set_option maxRecDepth 20000 in
theorem wd_724 : Cond.methodLink "OnlyFarLaw" 83 yX10_height ∈ Com := com_3 175 (by decide +kernel) (by decide +kernel)
set_option maxRecDepth 20000 in
theorem wd_725 : Cond.instanceMethod yX10_height ∈ Com := com_3 176 (by decide +kernel) (by decide +kernel)
set_option maxRecDepth 20000 in
theorem wd_726 : Cond.selects "OnlyFar" yX10_height yX10_height ∈ Com := com_3 177 (by decide +kernel) (by decide +kernel)
set_option maxRecDepth 20000 in
theorem wd_727 : Cond.code yX10_height prog_1_method_17_code 7 (some .long) ∈ Com := com_3 178 (by decide +kernel) (by decide +kernel)
set_option maxRecDepth 20000 in
theorem wd_728 : Cond.methodLink "OnlyFarLaw" 87 yX10_round ∈ Com := com_3 179 (by decide +kernel) (by decide +kernel)
set_option maxRecDepth 20000 in
theorem wd_729 : Cond.instanceMethod yX10_round ∈ Com := com_3 180 (by decide +kernel) (by decide +kernel)
set_option maxRecDepth 20000 in
theorem wd_730 : Cond.selects "OnlyFar" yX10_round yX10_round ∈ Com := com_3 181 (by decide +kernel) (by decide +kernel)
set_option maxRecDepth 20000 in
theorem wd_731 : Cond.code yX10_round prog_1_method_18_code 11 (some .long) ∈ Com := com_3 182 (by decide +kernel) (by decide +kernel)
set_option maxRecDepth 20000 in
theorem wd_732 : Cond.methodLink "OnlyFarLaw" 91 yX10_side ∈ Com := com_3 183 (by decide +kernel) (by decide +kernel)
set_option maxRecDepth 20000 in
theorem wd_733 : Cond.instanceMethod yX10_side ∈ Com := com_3 184 (by decide +kernel) (by decide +kernel)
set_option maxRecDepth 20000 in
theorem wd_734 : Cond.selects "OnlyFar" yX10_side yX10_side ∈ Com := com_3 185 (by decide +kernel) (by decide +kernel)
set_option maxRecDepth 20000 in
theorem wd_735 : Cond.code yX10_side prog_1_method_19_code 6 (some .int) ∈ Com := com_3 186 (by decide +kernel) (by decide +kernel)
set_option maxRecDepth 20000 in
theorem wd_736 : Cond.methodLink "OnlyFar" 222 yX8_sideSign ∈ Com := com_3 187 (by decide +kernel) (by decide +kernel)
set_option maxRecDepth 20000 in
theorem wd_737 : Cond.instanceMethod yX8_sideSign ∈ Com := com_3 188 (by decide +kernel) (by decide +kernel)
set_option maxRecDepth 20000 in
theorem wd_738 : Cond.selects "OnlyFar$Table" yX8_sideSign yX8_sideSign ∈ Com := com_3 189 (by decide +kernel) (by decide +kernel)
set_option maxRecDepth 20000 in
theorem wd_739 : Cond.code yX8_sideSign prog_10_method_19_code 5 (some .int) ∈ Com := com_3 190 (by decide +kernel) (by decide +kernel)
set_option maxRecDepth 20000 in
theorem wd_740 : Cond.methodLink "OnlyFar$Table" 74 yJ13_signum_95d88 ∈ Com := com_3 191 (by decide +kernel) (by decide +kernel)
set_option maxRecDepth 20000 in
theorem wd_741 : Cond.static yJ13_signum_95d88 ∈ Com := com_3 192 (by decide +kernel) (by decide +kernel)
set_option maxRecDepth 20000 in
theorem wd_742 : Cond.code yJ13_signum_95d88 prog_15_method_57_code 2 (some .int) ∈ Com := com_3 193 (by decide +kernel) (by decide +kernel)
set_option maxRecDepth 20000 in
theorem wd_743 : Cond.methodLink "OnlyFarLaw" 95 yX10_within ∈ Com := com_3 194 (by decide +kernel) (by decide +kernel)
set_option maxRecDepth 20000 in
theorem wd_744 : Cond.instanceMethod yX10_within ∈ Com := com_3 195 (by decide +kernel) (by decide +kernel)
set_option maxRecDepth 20000 in
theorem wd_745 : Cond.selects "OnlyFar" yX10_within yX10_within ∈ Com := com_3 196 (by decide +kernel) (by decide +kernel)
set_option maxRecDepth 20000 in
theorem wd_746 : Cond.code yX10_within prog_1_method_20_code 5 (some .int) ∈ Com := com_3 197 (by decide +kernel) (by decide +kernel)
set_option maxRecDepth 20000 in
theorem wd_747 : Cond.methodLink "OnlyFarLaw" 99 yX10_sixth ∈ Com := com_3 198 (by decide +kernel) (by decide +kernel)
set_option maxRecDepth 20000 in
theorem wd_748 : Cond.instanceMethod yX10_sixth ∈ Com := com_3 199 (by decide +kernel) (by decide +kernel)
set_option maxRecDepth 20000 in
theorem wd_749 : Cond.selects "OnlyFar" yX10_sixth yX10_sixth ∈ Com := com_3 200 (by decide +kernel) (by decide +kernel)
set_option maxRecDepth 20000 in
theorem wd_750 : Cond.code yX10_sixth prog_1_method_21_code 6 (some .long) ∈ Com := com_3 201 (by decide +kernel) (by decide +kernel)
set_option maxRecDepth 20000 in
theorem wd_751 : Cond.methodLink "OnlyFar" 226 yX7_take ∈ Com := com_3 202 (by decide +kernel) (by decide +kernel)
set_option maxRecDepth 20000 in
theorem wd_752 : Cond.instanceMethod yX7_take ∈ Com := com_3 203 (by decide +kernel) (by decide +kernel)
set_option maxRecDepth 20000 in
theorem wd_753 : Cond.selects "OnlyFar$Sixth" yX7_take yX7_take ∈ Com := com_3 204 (by decide +kernel) (by decide +kernel)
set_option maxRecDepth 20000 in
theorem wd_754 : Cond.code yX7_take prog_9_method_2_code 6 none ∈ Com := com_3 205 (by decide +kernel) (by decide +kernel)
set_option maxRecDepth 20000 in
theorem wd_755 : Cond.constantLong "OnlyFar$Sixth" 9 2 ∈ Com := com_3 206 (by decide +kernel) (by decide +kernel)
set_option maxRecDepth 20000 in
theorem wd_756 : Cond.methodLink "OnlyFar$Sixth" 11 yX8_square ∈ Com := com_3 207 (by decide +kernel) (by decide +kernel)
set_option maxRecDepth 20000 in
theorem wd_757 : Cond.methodLink "OnlyFar$Sixth" 23 yX8_leaning ∈ Com := com_3 208 (by decide +kernel) (by decide +kernel)
set_option maxRecDepth 20000 in
theorem wd_758 : Cond.methodLink "OnlyFar$Sixth" 30 yX8_wideOf ∈ Com := com_3 209 (by decide +kernel) (by decide +kernel)
set_option maxRecDepth 20000 in
theorem wd_759 : Cond.methodLink "OnlyFar" 240 yX7_wholeLength ∈ Com := com_3 210 (by decide +kernel) (by decide +kernel)
set_option maxRecDepth 20000 in
theorem wd_760 : Cond.instanceMethod yX7_wholeLength ∈ Com := com_3 211 (by decide +kernel) (by decide +kernel)
set_option maxRecDepth 20000 in
theorem wd_761 : Cond.selects "OnlyFar$Sixth" yX7_wholeLength yX7_wholeLength ∈ Com := com_3 212 (by decide +kernel) (by decide +kernel)
set_option maxRecDepth 20000 in
theorem wd_762 : Cond.code yX7_wholeLength prog_9_method_3_code 6 (some .long) ∈ Com := com_3 213 (by decide +kernel) (by decide +kernel)
set_option maxRecDepth 20000 in
theorem wd_764 : Cond.static yX10_rootOf ∈ Com := com_3 215 (by decide +kernel) (by decide +kernel)
set_option maxRecDepth 20000 in
theorem wd_765 : Cond.code yX10_rootOf prog_1_method_52_code 7 (some .long) ∈ Com := com_3 216 (by decide +kernel) (by decide +kernel)
set_option maxRecDepth 20000 in
theorem wd_766 : Cond.constantLong "OnlyFar$Sixth" 40 (-4) ∈ Com := com_3 217 (by decide +kernel) (by decide +kernel)
set_option maxRecDepth 20000 in
theorem wd_767 : Cond.methodLink "OnlyFarLaw" 104 yX10_ends ∈ Com := com_3 218 (by decide +kernel) (by decide +kernel)
set_option maxRecDepth 20000 in
theorem wd_768 : Cond.instanceMethod yX10_ends ∈ Com := com_3 219 (by decide +kernel) (by decide +kernel)
set_option maxRecDepth 20000 in
theorem wd_769 : Cond.selects "OnlyFar" yX10_ends yX10_ends ∈ Com := com_3 220 (by decide +kernel) (by decide +kernel)
set_option maxRecDepth 20000 in
theorem wd_770 : Cond.code yX10_ends prog_1_method_22_code 10 (some .int) ∈ Com := com_3 221 (by decide +kernel) (by decide +kernel)
set_option maxRecDepth 20000 in
theorem wd_771 : Cond.constant "OnlyFar" 244 99999 ∈ Com := com_3 222 (by decide +kernel) (by decide +kernel)
set_option maxRecDepth 20000 in
theorem wd_772 : Cond.methodLink "OnlyFar" 248 yX10_rootOf ∈ Com := com_3 223 (by decide +kernel) (by decide +kernel)
set_option maxRecDepth 20000 in
theorem wd_773 : Cond.methodLink "OnlyFarLaw" 108 yX10_drawings ∈ Com := com_3 224 (by decide +kernel) (by decide +kernel)
set_option maxRecDepth 20000 in
theorem wd_774 : Cond.instanceMethod yX10_drawings ∈ Com := com_3 225 (by decide +kernel) (by decide +kernel)
set_option maxRecDepth 20000 in
theorem wd_775 : Cond.selects "OnlyFar" yX10_drawings yX10_drawings ∈ Com := com_3 226 (by decide +kernel) (by decide +kernel)
set_option maxRecDepth 20000 in
theorem wd_776 : Cond.code yX10_drawings prog_1_method_23_code 5 (some .int) ∈ Com := com_3 227 (by decide +kernel) (by decide +kernel)
set_option maxRecDepth 20000 in
theorem wd_777 : Cond.methodLink "OnlyFar" 260 yX8_isPlace ∈ Com := com_3 228 (by decide +kernel) (by decide +kernel)
set_option maxRecDepth 20000 in
theorem wd_778 : Cond.methodLink "OnlyFar" 263 yX0_draw ∈ Com := com_3 229 (by decide +kernel) (by decide +kernel)
set_option maxRecDepth 20000 in
theorem wd_779 : Cond.instanceMethod yX0_draw ∈ Com := com_3 230 (by decide +kernel) (by decide +kernel)
set_option maxRecDepth 20000 in
theorem wd_780 : Cond.selects "OnlyFar$Drawing" yX0_draw yX0_draw ∈ Com := com_3 231 (by decide +kernel) (by decide +kernel)
set_option maxRecDepth 20000 in
theorem wd_781 : Cond.code yX0_draw prog_2_method_2_code 7 none ∈ Com := com_3 232 (by decide +kernel) (by decide +kernel)
set_option maxRecDepth 20000 in
theorem wd_782 : Cond.methodLink "OnlyFar$Drawing" 29 yX0_layPlaces ∈ Com := com_3 233 (by decide +kernel) (by decide +kernel)
set_option maxRecDepth 20000 in
theorem wd_784 : Cond.instanceMethod yX0_layPlaces ∈ Com := com_3 235 (by decide +kernel) (by decide +kernel)
set_option maxRecDepth 20000 in
theorem wd_785 : Cond.code yX0_layPlaces prog_2_method_6_code 6 none ∈ Com := com_3 236 (by decide +kernel) (by decide +kernel)
set_option maxRecDepth 20000 in
theorem wd_786 : Cond.methodLink "OnlyFar$Drawing" 77 yX8_isToldThree ∈ Com := com_3 237 (by decide +kernel) (by decide +kernel)
set_option maxRecDepth 20000 in
theorem wd_787 : Cond.methodLink "OnlyFar$Drawing" 81 yX8_wideOf ∈ Com := com_3 238 (by decide +kernel) (by decide +kernel)
set_option maxRecDepth 20000 in
theorem wd_788 : Cond.methodLink "OnlyFar$Drawing" 33 yX8_square ∈ Com := com_3 239 (by decide +kernel) (by decide +kernel)
set_option maxRecDepth 20000 in
theorem wd_789 : Cond.methodLink "OnlyFar$Drawing" 39 yX0_isLaid ∈ Com := com_4 0 (by decide +kernel) (by decide +kernel)
set_option maxRecDepth 20000 in
theorem wd_790 : Cond.instanceMethod yX0_isLaid ∈ Com := com_4 1 (by decide +kernel) (by decide +kernel)
set_option maxRecDepth 20000 in
theorem wd_791 : Cond.selects "OnlyFar$Drawing" yX0_isLaid yX0_isLaid ∈ Com := com_4 2 (by decide +kernel) (by decide +kernel)
set_option maxRecDepth 20000 in
theorem wd_792 : Cond.code yX0_isLaid prog_2_method_4_code 2 (some .boolean) ∈ Com := com_4 3 (by decide +kernel) (by decide +kernel)
set_option maxRecDepth 20000 in
theorem wd_795 : Cond.methodLink "OnlyFar$Drawing" 46 yX0_bondOf ∈ Com := com_4 6 (by decide +kernel) (by decide +kernel)
set_option maxRecDepth 20000 in
theorem wd_797 : Cond.instanceMethod yX0_bondOf ∈ Com := com_4 8 (by decide +kernel) (by decide +kernel)
set_option maxRecDepth 20000 in
theorem wd_798 : Cond.code yX0_bondOf prog_2_method_7_code 7 (some .int) ∈ Com := com_4 9 (by decide +kernel) (by decide +kernel)
set_option maxRecDepth 20000 in
theorem wd_799 : Cond.methodLink "OnlyFar$Drawing" 85 yX7_take ∈ Com := com_4 10 (by decide +kernel) (by decide +kernel)
set_option maxRecDepth 20000 in
theorem wd_800 : Cond.methodLink "OnlyFar$Drawing" 50 yX0_findGroups ∈ Com := com_4 11 (by decide +kernel) (by decide +kernel)
set_option maxRecDepth 20000 in
theorem wd_802 : Cond.instanceMethod yX0_findGroups ∈ Com := com_4 13 (by decide +kernel) (by decide +kernel)
set_option maxRecDepth 20000 in
theorem wd_803 : Cond.code yX0_findGroups prog_2_method_8_code 2 none ∈ Com := com_4 14 (by decide +kernel) (by decide +kernel)
set_option maxRecDepth 20000 in
theorem wd_804 : Cond.methodLink "OnlyFar$Drawing" 99 yJ7_fill_53178 ∈ Com := com_4 15 (by decide +kernel) (by decide +kernel)
set_option maxRecDepth 20000 in
theorem wd_805 : Cond.methodLink "OnlyFar$Drawing" 105 yX0_spreadSides ∈ Com := com_4 16 (by decide +kernel) (by decide +kernel)
set_option maxRecDepth 20000 in
theorem wd_807 : Cond.instanceMethod yX0_spreadSides ∈ Com := com_4 18 (by decide +kernel) (by decide +kernel)
set_option maxRecDepth 20000 in
theorem wd_808 : Cond.code yX0_spreadSides prog_2_method_9_code 5 none ∈ Com := com_4 19 (by decide +kernel) (by decide +kernel)
set_option maxRecDepth 20000 in
theorem wd_809 : Cond.methodLink "OnlyFar$Drawing" 57 yX0_holds ∈ Com := com_4 20 (by decide +kernel) (by decide +kernel)
set_option maxRecDepth 20000 in
theorem wd_811 : Cond.instanceMethod yX0_holds ∈ Com := com_4 22 (by decide +kernel) (by decide +kernel)
set_option maxRecDepth 20000 in
theorem wd_812 : Cond.code yX0_holds prog_2_method_10_code 3 (some .boolean) ∈ Com := com_4 23 (by decide +kernel) (by decide +kernel)
set_option maxRecDepth 20000 in
theorem wd_813 : Cond.methodLink "OnlyFar" 266 yX0_ways ∈ Com := com_4 24 (by decide +kernel) (by decide +kernel)
set_option maxRecDepth 20000 in
theorem wd_814 : Cond.instanceMethod yX0_ways ∈ Com := com_4 25 (by decide +kernel) (by decide +kernel)
set_option maxRecDepth 20000 in
theorem wd_815 : Cond.selects "OnlyFar$Drawing" yX0_ways yX0_ways ∈ Com := com_4 26 (by decide +kernel) (by decide +kernel)
set_option maxRecDepth 20000 in
theorem wd_816 : Cond.code yX0_ways prog_2_method_3_code 1 (some .int) ∈ Com := com_4 27 (by decide +kernel) (by decide +kernel)
set_option maxRecDepth 20000 in
theorem wd_817 : Cond.methodLink "OnlyFar" 278 yX0_isLaid ∈ Com := com_4 28 (by decide +kernel) (by decide +kernel)
set_option maxRecDepth 20000 in
theorem wd_818 : Cond.methodLink "OnlyFar" 281 yX0_sideOf ∈ Com := com_4 29 (by decide +kernel) (by decide +kernel)
set_option maxRecDepth 20000 in
theorem wd_819 : Cond.instanceMethod yX0_sideOf ∈ Com := com_4 30 (by decide +kernel) (by decide +kernel)
set_option maxRecDepth 20000 in
theorem wd_820 : Cond.selects "OnlyFar$Drawing" yX0_sideOf yX0_sideOf ∈ Com := com_4 31 (by decide +kernel) (by decide +kernel)
set_option maxRecDepth 20000 in
theorem wd_821 : Cond.code yX0_sideOf prog_2_method_5_code 2 (some .int) ∈ Com := com_4 32 (by decide +kernel) (by decide +kernel)
set_option maxRecDepth 20000 in
theorem wd_822 : Cond.methodLink "OnlyFarLaw" 112 yX10_spare ∈ Com := com_4 33 (by decide +kernel) (by decide +kernel)
set_option maxRecDepth 20000 in
theorem wd_823 : Cond.instanceMethod yX10_spare ∈ Com := com_4 34 (by decide +kernel) (by decide +kernel)
set_option maxRecDepth 20000 in
theorem wd_824 : Cond.selects "OnlyFar" yX10_spare yX10_spare ∈ Com := com_4 35 (by decide +kernel) (by decide +kernel)
set_option maxRecDepth 20000 in
theorem wd_825 : Cond.code yX10_spare prog_1_method_24_code 6 (some .int) ∈ Com := com_4 36 (by decide +kernel) (by decide +kernel)
set_option maxRecDepth 20000 in
theorem wd_826 : Cond.methodLink "OnlyFarLaw" 116 yX10_base ∈ Com := com_4 37 (by decide +kernel) (by decide +kernel)
set_option maxRecDepth 20000 in
theorem wd_827 : Cond.instanceMethod yX10_base ∈ Com := com_4 38 (by decide +kernel) (by decide +kernel)
set_option maxRecDepth 20000 in
theorem wd_828 : Cond.selects "OnlyFar" yX10_base yX10_base ∈ Com := com_4 39 (by decide +kernel) (by decide +kernel)
set_option maxRecDepth 20000 in
theorem wd_829 : Cond.code yX10_base prog_1_method_25_code 9 (some .int) ∈ Com := com_4 40 (by decide +kernel) (by decide +kernel)
set_option maxRecDepth 20000 in
theorem wd_830 : Cond.methodLink "OnlyFarLaw" 120 yX10_tells ∈ Com := com_4 41 (by decide +kernel) (by decide +kernel)
set_option maxRecDepth 20000 in
theorem wd_831 : Cond.instanceMethod yX10_tells ∈ Com := com_4 42 (by decide +kernel) (by decide +kernel)
set_option maxRecDepth 20000 in
theorem wd_832 : Cond.selects "OnlyFar" yX10_tells yX10_tells ∈ Com := com_4 43 (by decide +kernel) (by decide +kernel)
set_option maxRecDepth 20000 in
theorem wd_833 : Cond.code yX10_tells prog_1_method_26_code 3 (some .int) ∈ Com := com_4 44 (by decide +kernel) (by decide +kernel)
set_option maxRecDepth 20000 in
theorem wd_834 : Cond.methodLink "OnlyFar" 284 yX10_hasBit ∈ Com := com_4 45 (by decide +kernel) (by decide +kernel)
set_option maxRecDepth 20000 in
theorem wd_835 : Cond.methodLink "OnlyFar" 287 yX8_isToldBy ∈ Com := com_4 46 (by decide +kernel) (by decide +kernel)
set_option maxRecDepth 20000 in
theorem wd_836 : Cond.instanceMethod yX8_isToldBy ∈ Com := com_4 47 (by decide +kernel) (by decide +kernel)
set_option maxRecDepth 20000 in
theorem wd_837 : Cond.selects "OnlyFar$Table" yX8_isToldBy yX8_isToldBy ∈ Com := com_4 48 (by decide +kernel) (by decide +kernel)
set_option maxRecDepth 20000 in
theorem wd_838 : Cond.code yX8_isToldBy prog_10_method_20_code 4 (some .boolean) ∈ Com := com_4 49 (by decide +kernel) (by decide +kernel)
set_option maxRecDepth 20000 in
theorem wd_840 : Cond.methodLink "OnlyFar$Table" 83 yX8_isAlikeSeenFrom ∈ Com := com_4 51 (by decide +kernel) (by decide +kernel)
set_option maxRecDepth 20000 in
theorem wd_842 : Cond.instanceMethod yX8_isAlikeSeenFrom ∈ Com := com_4 53 (by decide +kernel) (by decide +kernel)
set_option maxRecDepth 20000 in
theorem wd_843 : Cond.code yX8_isAlikeSeenFrom prog_10_method_21_code 5 (some .boolean) ∈ Com := com_4 54 (by decide +kernel) (by decide +kernel)
set_option maxRecDepth 20000 in
theorem wd_844 : Cond.methodLink "OnlyFarLaw" 124 yX10_words ∈ Com := com_4 55 (by decide +kernel) (by decide +kernel)
set_option maxRecDepth 20000 in
theorem wd_845 : Cond.instanceMethod yX10_words ∈ Com := com_4 56 (by decide +kernel) (by decide +kernel)
set_option maxRecDepth 20000 in
theorem wd_846 : Cond.selects "OnlyFar" yX10_words yX10_words ∈ Com := com_4 57 (by decide +kernel) (by decide +kernel)
set_option maxRecDepth 20000 in
theorem wd_847 : Cond.code yX10_words prog_1_method_27_code 6 (some .int) ∈ Com := com_4 58 (by decide +kernel) (by decide +kernel)
set_option maxRecDepth 20000 in
theorem wd_848 : Cond.methodLink "OnlyFarLaw" 128 yX10_at ∈ Com := com_4 59 (by decide +kernel) (by decide +kernel)
set_option maxRecDepth 20000 in
theorem wd_849 : Cond.instanceMethod yX10_at ∈ Com := com_4 60 (by decide +kernel) (by decide +kernel)
set_option maxRecDepth 20000 in
theorem wd_850 : Cond.selects "OnlyFar" yX10_at yX10_at ∈ Com := com_4 61 (by decide +kernel) (by decide +kernel)
set_option maxRecDepth 20000 in
theorem wd_851 : Cond.code yX10_at prog_1_method_28_code 7 (some .int) ∈ Com := com_4 62 (by decide +kernel) (by decide +kernel)
set_option maxRecDepth 20000 in
theorem wd_852 : Cond.methodLink "OnlyFarLaw" 132 yX10_spots ∈ Com := com_4 63 (by decide +kernel) (by decide +kernel)
set_option maxRecDepth 20000 in
theorem wd_853 : Cond.instanceMethod yX10_spots ∈ Com := com_4 64 (by decide +kernel) (by decide +kernel)
set_option maxRecDepth 20000 in
theorem wd_854 : Cond.selects "OnlyFar" yX10_spots yX10_spots ∈ Com := com_4 65 (by decide +kernel) (by decide +kernel)
set_option maxRecDepth 20000 in
theorem wd_855 : Cond.code yX10_spots prog_1_method_29_code 5 (some .int) ∈ Com := com_4 66 (by decide +kernel) (by decide +kernel)
set_option maxRecDepth 20000 in
theorem wd_856 : Cond.methodLink "OnlyFar" 290 yX10_wideOfSquares ∈ Com := com_4 67 (by decide +kernel) (by decide +kernel)
set_option maxRecDepth 20000 in
theorem wd_857 : Cond.methodLink "OnlyFar" 294 yJ13_signum_95d88 ∈ Com := com_4 68 (by decide +kernel) (by decide +kernel)
set_option maxRecDepth 20000 in
theorem wd_858 : Cond.methodLink "OnlyFarLaw" 136 yX10_maps ∈ Com := com_4 69 (by decide +kernel) (by decide +kernel)
set_option maxRecDepth 20000 in
theorem wd_859 : Cond.instanceMethod yX10_maps ∈ Com := com_4 70 (by decide +kernel) (by decide +kernel)
set_option maxRecDepth 20000 in
theorem wd_860 : Cond.selects "OnlyFar" yX10_maps yX10_maps ∈ Com := com_4 71 (by decide +kernel) (by decide +kernel)
set_option maxRecDepth 20000 in
theorem wd_861 : Cond.code yX10_maps prog_1_method_30_code 4 (some .int) ∈ Com := com_4 72 (by decide +kernel) (by decide +kernel)
set_option maxRecDepth 20000 in
theorem wd_862 : Cond.methodLink "OnlyFar" 300 yX10_isImage ∈ Com := com_4 73 (by decide +kernel) (by decide +kernel)
set_option maxRecDepth 20000 in
theorem wd_863 : Cond.static yX10_isImage ∈ Com := com_4 74 (by decide +kernel) (by decide +kernel)
set_option maxRecDepth 20000 in
theorem wd_864 : Cond.code yX10_isImage prog_1_method_45_code 1 (some .boolean) ∈ Com := com_4 75 (by decide +kernel) (by decide +kernel)
set_option maxRecDepth 20000 in
theorem wd_865 : Cond.methodLink "OnlyFar" 304 yX3_compare ∈ Com := com_4 76 (by decide +kernel) (by decide +kernel)
set_option maxRecDepth 20000 in
theorem wd_866 : Cond.instanceMethod yX3_compare ∈ Com := com_4 77 (by decide +kernel) (by decide +kernel)
set_option maxRecDepth 20000 in
theorem wd_867 : Cond.selects "OnlyFar$Naming" yX3_compare yX3_compare ∈ Com := com_4 78 (by decide +kernel) (by decide +kernel)
set_option maxRecDepth 20000 in
theorem wd_868 : Cond.code yX3_compare prog_5_method_2_code 3 none ∈ Com := com_4 79 (by decide +kernel) (by decide +kernel)
set_option maxRecDepth 20000 in
theorem wd_869 : Cond.methodLink "OnlyFar$Naming" 41 yX3_nameFrom ∈ Com := com_4 80 (by decide +kernel) (by decide +kernel)
set_option maxRecDepth 20000 in
theorem wd_871 : Cond.instanceMethod yX3_nameFrom ∈ Com := com_4 82 (by decide +kernel) (by decide +kernel)
set_option maxRecDepth 20000 in
theorem wd_872 : Cond.code yX3_nameFrom prog_5_method_4_code 3 none ∈ Com := com_4 83 (by decide +kernel) (by decide +kernel)
set_option maxRecDepth 20000 in
theorem wd_873 : Cond.methodLink "OnlyFar$Naming" 45 arraycopyName ∈ Com := com_4 84 (by decide +kernel) (by decide +kernel)
set_option maxRecDepth 20000 in
theorem wd_875 : Cond.methodLink "OnlyFar$Naming" 55 yX3_fits ∈ Com := com_4 86 (by decide +kernel) (by decide +kernel)
set_option maxRecDepth 20000 in
theorem wd_877 : Cond.instanceMethod yX3_fits ∈ Com := com_4 88 (by decide +kernel) (by decide +kernel)
set_option maxRecDepth 20000 in
theorem wd_878 : Cond.code yX3_fits prog_5_method_5_code 4 (some .boolean) ∈ Com := com_4 89 (by decide +kernel) (by decide +kernel)
set_option maxRecDepth 20000 in
theorem wd_879 : Cond.methodLink "OnlyFar$Naming" 58 yX8_square ∈ Com := com_4 90 (by decide +kernel) (by decide +kernel)
set_option maxRecDepth 20000 in
theorem wd_880 : Cond.methodLink "OnlyFar" 311 yX3_nameOf ∈ Com := com_4 91 (by decide +kernel) (by decide +kernel)
set_option maxRecDepth 20000 in
theorem wd_881 : Cond.instanceMethod yX3_nameOf ∈ Com := com_4 92 (by decide +kernel) (by decide +kernel)
set_option maxRecDepth 20000 in
theorem wd_882 : Cond.selects "OnlyFar$Naming" yX3_nameOf yX3_nameOf ∈ Com := com_4 93 (by decide +kernel) (by decide +kernel)
set_option maxRecDepth 20000 in
theorem wd_883 : Cond.code yX3_nameOf prog_5_method_3_code 2 (some .int) ∈ Com := com_4 94 (by decide +kernel) (by decide +kernel)
set_option maxRecDepth 20000 in
theorem wd_884 : Cond.methodLink "OnlyFarLaw" 140 yX10_part ∈ Com := com_4 95 (by decide +kernel) (by decide +kernel)
set_option maxRecDepth 20000 in
theorem wd_885 : Cond.instanceMethod yX10_part ∈ Com := com_4 96 (by decide +kernel) (by decide +kernel)
set_option maxRecDepth 20000 in
theorem wd_886 : Cond.selects "OnlyFar" yX10_part yX10_part ∈ Com := com_4 97 (by decide +kernel) (by decide +kernel)
set_option maxRecDepth 20000 in
theorem wd_887 : Cond.code yX10_part prog_1_method_31_code 2 (some .int) ∈ Com := com_4 98 (by decide +kernel) (by decide +kernel)
set_option maxRecDepth 20000 in
theorem wd_888 : Cond.methodLink "OnlyFar" 314 yX5_add ∈ Com := com_4 99 (by decide +kernel) (by decide +kernel)
set_option maxRecDepth 20000 in
theorem wd_889 : Cond.instanceMethod yX5_add ∈ Com := com_4 100 (by decide +kernel) (by decide +kernel)
set_option maxRecDepth 20000 in
theorem wd_890 : Cond.selects "OnlyFar$Road" yX5_add yX5_add ∈ Com := com_4 101 (by decide +kernel) (by decide +kernel)
set_option maxRecDepth 20000 in
theorem wd_891 : Cond.code yX5_add prog_7_method_3_code 2 (some .boolean) ∈ Com := com_4 102 (by decide +kernel) (by decide +kernel)
set_option maxRecDepth 20000 in
theorem wd_892 : Cond.methodLink "OnlyFarLaw" 144 yX10_clear ∈ Com := com_4 103 (by decide +kernel) (by decide +kernel)
set_option maxRecDepth 20000 in
theorem wd_893 : Cond.instanceMethod yX10_clear ∈ Com := com_4 104 (by decide +kernel) (by decide +kernel)
set_option maxRecDepth 20000 in
theorem wd_894 : Cond.selects "OnlyFar" yX10_clear yX10_clear ∈ Com := com_4 105 (by decide +kernel) (by decide +kernel)
set_option maxRecDepth 20000 in
theorem wd_895 : Cond.code yX10_clear prog_1_method_32_code 2 (some .int) ∈ Com := com_4 106 (by decide +kernel) (by decide +kernel)
set_option maxRecDepth 20000 in
theorem wd_896 : Cond.methodLink "OnlyFarLaw" 148 yX10_road ∈ Com := com_4 107 (by decide +kernel) (by decide +kernel)
set_option maxRecDepth 20000 in
theorem wd_897 : Cond.instanceMethod yX10_road ∈ Com := com_4 108 (by decide +kernel) (by decide +kernel)
set_option maxRecDepth 20000 in
theorem wd_898 : Cond.selects "OnlyFar" yX10_road yX10_road ∈ Com := com_4 109 (by decide +kernel) (by decide +kernel)
set_option maxRecDepth 20000 in
theorem wd_899 : Cond.code yX10_road prog_1_method_33_code 2 (some .int) ∈ Com := com_4 110 (by decide +kernel) (by decide +kernel)
set_option maxRecDepth 20000 in
theorem wd_900 : Cond.methodLink "OnlyFar" 316 yX5_nearest ∈ Com := com_4 111 (by decide +kernel) (by decide +kernel)
set_option maxRecDepth 20000 in
theorem wd_901 : Cond.instanceMethod yX5_nearest ∈ Com := com_4 112 (by decide +kernel) (by decide +kernel)
set_option maxRecDepth 20000 in
theorem wd_902 : Cond.selects "OnlyFar$Road" yX5_nearest yX5_nearest ∈ Com := com_4 113 (by decide +kernel) (by decide +kernel)
set_option maxRecDepth 20000 in
theorem wd_903 : Cond.code yX5_nearest prog_7_method_5_code 3 (some .int) ∈ Com := com_4 114 (by decide +kernel) (by decide +kernel)
