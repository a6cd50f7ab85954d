abbrev rmX10_wrong : Room := { frames := 6, cells := 0, slots := 0, locals := 156 }
theorem hdV_X10_wrong : yX10_wrong.cls = RX10 ∧ yX10_wrong.cls ≠ "java/lang/invoke/MethodHandle" ∧ yX10_wrong.cls ≠ "java/lang/invoke/VarHandle" ∧ (parseMethodDescriptor yX10_wrong.desc).map (fun d => d.parameters.length) = some 1 := by decide +kernel
set_option maxHeartbeats 4000000 in
set_option maxRecDepth 100000 in
theorem c_X10_wrong (l : Launch) (G : GT) (a_this a_flaws a_flaws_flaws a_table a_table_squares a_tape a_reader a_way a_images a_sheets a_sixthOf a_drawing a_naming : Nat) (g_lastFault : Int32) (g_lastTear : Int32) (g_flaws_badThrees : Int32) (g_flaws_badFours : Int32) (g_flaws_flatThrees : Int32) (g_flaws_toldThrees : Int32) (g_flaws_size : Int32) (g_flaws_fewest : Int32) (g_flaws_flaws : (Nat → Int32)) (g_table_places : Int32) (g_table_squares : (Nat → Int32)) (x1 : Int32) {u : Int32 × Int32 × Int32 × Int32 × Int32 × Int32 × (Nat → Int32)} (hu : X10_wrong x1 g_flaws_badFours g_flaws_badThrees g_flaws_flatThrees g_flaws_size g_flaws_toldThrees g_flaws_flaws g_table_places g_table_squares = some u) : Ctr l G yX10_wrong wsX10_wrong rmX10_wrong [.ref a_this, .int x1] [(a_this, .inr (10, [.ref a_tape, .ref a_reader, .ref a_table, .ref a_way, .ref a_images, .ref a_sheets, .ref a_flaws, .ref a_sixthOf, .ref a_drawing, .ref a_naming, .int g_lastFault, .int g_lastTear])), (a_flaws, .inr (1, [.int g_flaws_badThrees, .int g_flaws_badFours, .int g_flaws_flatThrees, .int g_flaws_toldThrees, .ref a_flaws_flaws, .int g_flaws_size, .int g_flaws_fewest])), (a_flaws_flaws, .inl (G.2.1 1, 70, .inl g_flaws_flaws)), (a_table, .inr (8, [.int g_table_places, .ref a_table_squares])), (a_table_squares, .inl (G.2.1 1, 49, .inl g_table_squares))] (some (.int u.1)) [(a_this, .inr (10, [.ref a_tape, .ref a_reader, .ref a_table, .ref a_way, .ref a_images, .ref a_sheets, .ref a_flaws, .ref a_sixthOf, .ref a_drawing, .ref a_naming, .int g_lastFault, .int g_lastTear])), (a_flaws, .inr (1, [.int u.2.2.1, .int u.2.1, .int u.2.2.2.1, .int u.2.2.2.2.2.1, .ref a_flaws_flaws, .int u.2.2.2.2.1, .int g_flaws_fewest])), (a_flaws_flaws, .inl (G.2.1 1, 70, .inl u.2.2.2.2.2.2)), (a_table, .inr (8, [.int g_table_places, .ref a_table_squares])), (a_table_squares, .inl (G.2.1 1, 49, .inl g_table_squares))] := by
  obtain ⟨enc, henc⟩ : ∃ enc : (Int32 × Int32 × Int32 × Int32 × Int32 × Int32 × (Nat → Int32)) → Option Value × va_W, enc = fun u => (((some (.int u.1)) : Option Value), ([(a_this, .inr (10, [.ref a_tape, .ref a_reader, .ref a_table, .ref a_way, .ref a_images, .ref a_sheets, .ref a_flaws, .ref a_sixthOf, .ref a_drawing, .ref a_naming, .int g_lastFault, .int g_lastTear])), (a_flaws, .inr (1, [.int u.2.2.1, .int u.2.1, .int u.2.2.2.1, .int u.2.2.2.2.2.1, .ref a_flaws_flaws, .int u.2.2.2.2.1, .int g_flaws_fewest])), (a_flaws_flaws, .inl (G.2.1 1, 70, .inl u.2.2.2.2.2.2)), (a_table, .inr (8, [.int g_table_places, .ref a_table_squares])), (a_table_squares, .inl (G.2.1 1, 49, .inl g_table_squares))] : va_W)) := ⟨_, rfl⟩
  refine ctr_of (cc := cX10_wrong) (own := RX10) (E := Option.map enc) (o := X10_wrong x1 g_flaws_badFours g_flaws_badThrees g_flaws_flatThrees g_flaws_size g_flaws_toldThrees g_flaws_flaws g_table_places g_table_squares) (by decide) rfl rfl (L := [(0, .ref a_this), (1, .int x1)]) rfl (Nat.le_of_ble_eq_true rfl) (by rw [hu, henc]; rfl) ?_
  intro Z hX hl hG hr
  subst hl; subst hG
  have fl176 : (Cond.fieldLink RX10 176 "OnlyFar$Flaws" "badThrees" "I").before (za Z) (zs Z) = true := hX.wd (mcC _ wd_245)
  have fl179 : (Cond.fieldLink RX10 179 "OnlyFar$Flaws" "badFours" "I").before (za Z) (zs Z) = true := hX.wd (mcC _ wd_247)
  have fl182 : (Cond.fieldLink RX10 182 "OnlyFar$Flaws" "flatThrees" "I").before (za Z) (zs Z) = true := hX.wd (mcC _ wd_249)
  have fl185 : (Cond.fieldLink RX10 185 "OnlyFar$Flaws" "toldThrees" "I").before (za Z) (zs Z) = true := hX.wd (mcC _ wd_251)
  have fl28 : (Cond.fieldLink RX10 28 "OnlyFar" "table" "LOnlyFar$Table;").before (za Z) (zs Z) = true := hX.wd (mcC _ wd_359)
  have fl56 : (Cond.fieldLink RX10 56 "OnlyFar" "flaws" "LOnlyFar$Flaws;").before (za Z) (zs Z) = true := hX.wd (mcC _ wd_363)
  have inX1 : ∀ w ∈ u_ws RX1 TX1 7, w ∈ wsX10_wrong := fun w h => mcC w (inC_X1 w h)
  have inX10 : ∀ w ∈ u_ws RX10 TX10 12, w ∈ wsX10_wrong := fun w h => mcC w (inC_X10 w h)
  unfold X10_wrong
  refine rn_iload_n hX dX10_wrong_0 1 rfl 1 rfl ?_
  refine rn_if_lt hX dX10_wrong_1 9 (by decide) 4 rfl ?_ ?_
  · refine rn_iconst hX dX10_wrong_9 10 rfl ic_m1 ?_
    exact rn_iret hX hr (by rw [henc]; rfl) dX10_wrong_10
  refine rn_iload_n hX dX10_wrong_4 1 rfl 5 rfl ?_
  refine rn_iconst hX dX10_wrong_5 6 rfl ic_3 ?_
  refine rn_icmp_le hX dX10_wrong_6 11 (by decide) 9 rfl ?_ ?_
  · refine rn_aload_n hX dX10_wrong_11 0 rfl 12 rfl ?_
    refine rn_get hX inX10 0 rfl rfl 6 (by decide) fl56 rfl rfl dX10_wrong_12 15 rfl ?_
    refine rn_aload_n hX dX10_wrong_15 0 rfl 16 rfl ?_
    refine rn_get hX inX10 0 rfl rfl 2 (by decide) fl28 rfl rfl dX10_wrong_16 19 rfl ?_
    refine rn_bind (fun u1 hu1 => ?_)
    refine rn_callV hX (gV mcC wd_636 wd_637 wd_638 wd_77 wd_639) rfl hdV_X1_lookAt rfl rfl ⟨Nat.le_of_ble_eq_true rfl, Nat.le_of_ble_eq_true rfl⟩ (c_X1_lookAt (zl Z) (zG Z) a_flaws a_flaws_flaws a_table a_table_squares g_flaws_badThrees g_flaws_badFours g_flaws_flatThrees g_flaws_toldThrees g_flaws_size g_flaws_fewest g_flaws_flaws g_table_places g_table_squares hu1) rfl [1, 2, 3, 4] rfl rfl rfl (ci := 1) rfl rfl rfl (Nat.le_of_ble_eq_true rfl) dX10_wrong_19 22 rfl (wn := [(a_this, .inr (10, [.ref a_tape, .ref a_reader, .ref a_table, .ref a_way, .ref a_images, .ref a_sheets, .ref a_flaws, .ref a_sixthOf, .ref a_drawing, .ref a_naming, .int g_lastFault, .int g_lastTear])), (a_flaws, .inr (1, [.int u1.2.1, .int u1.1, .int u1.2.2.1, .int u1.2.2.2.2.1, .ref a_flaws_flaws, .int u1.2.2.2.1, .int g_flaws_fewest])), (a_flaws_flaws, .inl ((zG Z).2.1 1, 70, .inl u1.2.2.2.2.2)), (a_table, .inr (8, [.int g_table_places, .ref a_table_squares])), (a_table_squares, .inl ((zG Z).2.1 1, 49, .inl g_table_squares))]) rfl (S' := []) rfl ⟨Nat.zero_le _, Nat.zero_le _⟩ ?_
    refine rn_iload_n hX dX10_wrong_22 1 rfl 23 rfl ?_
    by_cases hs2 : x1 = (0 : Int32)
    · rw [if_pos hs2]
      refine rn_tableIn hX dX10_wrong_23 hs2 (by decide) (by decide) rfl 48 (by decide) ?_
      refine rn_aload_n hX dX10_wrong_48 0 rfl 49 rfl ?_
      refine rn_get hX inX10 0 rfl rfl 6 (by decide) fl56 rfl rfl dX10_wrong_49 52 rfl ?_
      refine rn_get hX inX1 1 rfl rfl 0 (by decide) fl176 rfl rfl dX10_wrong_52 55 rfl ?_
      exact rn_iret hX hr (by rw [henc]; rfl) dX10_wrong_55
    rw [if_neg hs2]
    by_cases hs3 : x1 = (1 : Int32)
    · rw [if_pos hs3]
      refine rn_tableIn hX dX10_wrong_23 hs3 (by decide) (by decide) rfl 56 (by decide) ?_
      refine rn_aload_n hX dX10_wrong_56 0 rfl 57 rfl ?_
      refine rn_get hX inX10 0 rfl rfl 6 (by decide) fl56 rfl rfl dX10_wrong_57 60 rfl ?_
      refine rn_get hX inX1 1 rfl rfl 1 (by decide) fl179 rfl rfl dX10_wrong_60 63 rfl ?_
      exact rn_iret hX hr (by rw [henc]; rfl) dX10_wrong_63
    rw [if_neg hs3]
    by_cases hs4 : x1 = (2 : Int32)
    · rw [if_pos hs4]
      refine rn_tableIn hX dX10_wrong_23 hs4 (by decide) (by decide) rfl 64 (by decide) ?_
      refine rn_aload_n hX dX10_wrong_64 0 rfl 65 rfl ?_
      refine rn_get hX inX10 0 rfl rfl 6 (by decide) fl56 rfl rfl dX10_wrong_65 68 rfl ?_
      refine rn_get hX inX1 1 rfl rfl 2 (by decide) fl182 rfl rfl dX10_wrong_68 71 rfl ?_
      exact rn_iret hX hr (by rw [henc]; rfl) dX10_wrong_71
    rw [if_neg hs4]
    refine rn_tableOut hX dX10_wrong_23 (by have qhs2 := ne_int hs2; rw [show (0 : Int32).toInt = 0 from by decide] at qhs2; have qhs3 := ne_int hs3; rw [show (1 : Int32).toInt = 1 from by decide] at qhs3; have qhs4 := ne_int hs4; rw [show (2 : Int32).toInt = 2 from by decide] at qhs4; have := qhs2; omega) 72 (by decide) ?_
    refine rn_aload_n hX dX10_wrong_72 0 rfl 73 rfl ?_
    refine rn_get hX inX10 0 rfl rfl 6 (by decide) fl56 rfl rfl dX10_wrong_73 76 rfl ?_
    refine rn_get hX inX1 1 rfl rfl 3 (by decide) fl185 rfl rfl dX10_wrong_76 79 rfl ?_
    exact rn_iret hX hr (by rw [henc]; rfl) dX10_wrong_79
  refine rn_iconst hX dX10_wrong_9 10 rfl ic_m1 ?_
  exact rn_iret hX hr (by rw [henc]; rfl) dX10_wrong_10
abbrev rmX10_falses : Room := { frames := 8, cells := 0, slots := 0, locals := 182 }
theorem hdV_X10_falses : yX10_falses.cls = RX10 ∧ yX10_falses.cls ≠ "java/lang/invoke/MethodHandle" ∧ yX10_falses.cls ≠ "java/lang/invoke/VarHandle" ∧ (parseMethodDescriptor yX10_falses.desc).map (fun d => d.parameters.length) = some 1 := by decide +kernel
set_option maxHeartbeats 4000000 in
set_option maxRecDepth 100000 in
theorem c_X10_falses (l : Launch) (G : GT) (a_this a_flaws a_flaws_flaws a_table a_table_squares a_tape a_reader a_way a_images a_sheets a_sixthOf a_drawing a_naming : Nat) (g_lastFault : Int32) (g_lastTear : Int32) (g_flaws_badThrees : Int32) (g_flaws_badFours : Int32) (g_flaws_flatThrees : Int32) (g_flaws_toldThrees : Int32) (g_flaws_size : Int32) (g_flaws_fewest : Int32) (g_flaws_flaws : (Nat → Int32)) (g_table_places : Int32) (g_table_squares : (Nat → Int32)) (x1 : Int32) {u : Int32 × Int32 × Int32 × Int32 × Int32 × Int32 × Int32 × (Nat → Int32)} (hu : X10_falses x1 g_flaws_badFours g_flaws_badThrees g_flaws_fewest g_flaws_flatThrees g_flaws_size g_flaws_toldThrees g_flaws_flaws g_table_places g_table_squares = some u) : Ctr l G yX10_falses wsX10_falses rmX10_falses [.ref a_this, .int x1] [(a_this, .inr (10, [.ref a_tape, .ref a_reader, .ref a_table, .ref a_way, .ref a_images, .ref a_sheets, .ref a_flaws, .ref a_sixthOf, .ref a_drawing, .ref a_naming, .int g_lastFault, .int g_lastTear])), (a_flaws, .inr (1, [.int g_flaws_badThrees, .int g_flaws_badFours, .int g_flaws_flatThrees, .int g_flaws_toldThrees, .ref a_flaws_flaws, .int g_flaws_size, .int g_flaws_fewest])), (a_flaws_flaws, .inl (G.2.1 1, 70, .inl g_flaws_flaws)), (a_table, .inr (8, [.int g_table_places, .ref a_table_squares])), (a_table_squares, .inl (G.2.1 1, 49, .inl g_table_squares))] (some (.int u.1)) [(a_this, .inr (10, [.ref a_tape, .ref a_reader, .ref a_table, .ref a_way, .ref a_images, .ref a_sheets, .ref a_flaws, .ref a_sixthOf, .ref a_drawing, .ref a_naming, .int g_lastFault, .int g_lastTear])), (a_flaws, .inr (1, [.int u.2.2.1, .int u.2.1, .int u.2.2.2.2.1, .int u.2.2.2.2.2.2.1, .ref a_flaws_flaws, .int u.2.2.2.2.2.1, .int u.2.2.2.1])), (a_flaws_flaws, .inl (G.2.1 1, 70, .inl u.2.2.2.2.2.2.2)), (a_table, .inr (8, [.int g_table_places, .ref a_table_squares])), (a_table_squares, .inl (G.2.1 1, 49, .inl g_table_squares))] := by
  obtain ⟨enc, henc⟩ : ∃ enc : (Int32 × Int32 × Int32 × Int32 × Int32 × Int32 × Int32 × (Nat → Int32)) → Option Value × va_W, enc = fun u => (((some (.int u.1)) : Option Value), ([(a_this, .inr (10, [.ref a_tape, .ref a_reader, .ref a_table, .ref a_way, .ref a_images, .ref a_sheets, .ref a_flaws, .ref a_sixthOf, .ref a_drawing, .ref a_naming, .int g_lastFault, .int g_lastTear])), (a_flaws, .inr (1, [.int u.2.2.1, .int u.2.1, .int u.2.2.2.2.1, .int u.2.2.2.2.2.2.1, .ref a_flaws_flaws, .int u.2.2.2.2.2.1, .int u.2.2.2.1])), (a_flaws_flaws, .inl (G.2.1 1, 70, .inl u.2.2.2.2.2.2.2)), (a_table, .inr (8, [.int g_table_places, .ref a_table_squares])), (a_table_squares, .inl (G.2.1 1, 49, .inl g_table_squares))] : va_W)) := ⟨_, rfl⟩
  refine ctr_of (cc := cX10_falses) (own := RX10) (E := Option.map enc) (o := X10_falses x1 g_flaws_badFours g_flaws_badThrees g_flaws_fewest g_flaws_flatThrees g_flaws_size g_flaws_toldThrees g_flaws_flaws g_table_places g_table_squares) (by decide) rfl rfl (L := [(0, .ref a_this), (1, .int x1)]) rfl (Nat.le_of_ble_eq_true rfl) (by rw [hu, henc]; rfl) ?_
  intro Z hX hl hG hr
  subst hl; subst hG
  have fl28 : (Cond.fieldLink RX10 28 "OnlyFar" "table" "LOnlyFar$Table;").before (za Z) (zs Z) = true := hX.wd (mcC _ wd_359)
  have fl56 : (Cond.fieldLink RX10 56 "OnlyFar" "flaws" "LOnlyFar$Flaws;").before (za Z) (zs Z) = true := hX.wd (mcC _ wd_363)
  have inX10 : ∀ w ∈ u_ws RX10 TX10 12, w ∈ wsX10_falses := fun w h => mcC w (inC_X10 w h)
  unfold X10_falses
  refine rn_iload_n hX dX10_falses_0 1 rfl 1 rfl ?_
  refine rn_if_lt hX dX10_falses_1 9 (by decide) 4 rfl ?_ ?_
  · refine rn_iconst hX dX10_falses_9 10 rfl ic_m1 ?_
    exact rn_iret hX hr (by rw [henc]; rfl) dX10_falses_10
  refine rn_iload_n hX dX10_falses_4 1 rfl 5 rfl ?_
  refine rn_iconst hX dX10_falses_5 6 rfl ic_1 ?_
  refine rn_icmp_le hX dX10_falses_6 11 (by decide) 9 rfl ?_ ?_
  · refine rn_aload_n hX dX10_falses_11 0 rfl 12 rfl ?_
    refine rn_get hX inX10 0 rfl rfl 6 (by decide) fl56 rfl rfl dX10_falses_12 15 rfl ?_
    refine rn_aload_n hX dX10_falses_15 0 rfl 16 rfl ?_
    refine rn_get hX inX10 0 rfl rfl 2 (by decide) fl28 rfl rfl dX10_falses_16 19 rfl ?_
    refine rn_bind (fun u1 hu1 => ?_)
    refine rn_callV hX (gV mcC wd_636 wd_637 wd_638 wd_77 wd_639) rfl hdV_X1_lookAt rfl rfl ⟨Nat.le_of_ble_eq_true rfl, Nat.le_of_ble_eq_true rfl⟩ (c_X1_lookAt (zl Z) (zG Z) a_flaws a_flaws_flaws a_table a_table_squares g_flaws_badThrees g_flaws_badFours g_flaws_flatThrees g_flaws_toldThrees g_flaws_size g_flaws_fewest g_flaws_flaws g_table_places g_table_squares hu1) rfl [1, 2, 3, 4] rfl rfl rfl (ci := 1) rfl rfl rfl (Nat.le_of_ble_eq_true rfl) dX10_falses_19 22 rfl (wn := [(a_this, .inr (10, [.ref a_tape, .ref a_reader, .ref a_table, .ref a_way, .ref a_images, .ref a_sheets, .ref a_flaws, .ref a_sixthOf, .ref a_drawing, .ref a_naming, .int g_lastFault, .int g_lastTear])), (a_flaws, .inr (1, [.int u1.2.1, .int u1.1, .int u1.2.2.1, .int u1.2.2.2.2.1, .ref a_flaws_flaws, .int u1.2.2.2.1, .int g_flaws_fewest])), (a_flaws_flaws, .inl ((zG Z).2.1 1, 70, .inl u1.2.2.2.2.2)), (a_table, .inr (8, [.int g_table_places, .ref a_table_squares])), (a_table_squares, .inl ((zG Z).2.1 1, 49, .inl g_table_squares))]) rfl (S' := []) rfl ⟨Nat.zero_le _, Nat.zero_le _⟩ ?_
    refine rn_aload_n hX dX10_falses_22 0 rfl 23 rfl ?_
    refine rn_get hX inX10 0 rfl rfl 6 (by decide) fl56 rfl rfl dX10_falses_23 26 rfl ?_
    refine rn_bind (fun u2 hu2 => ?_)
    refine rn_callV hX (gV mcC wd_660 wd_661 wd_662 wd_77 wd_663) rfl hdV_X1_fewestFalse rfl rfl ⟨Nat.le_of_ble_eq_true rfl, Nat.le_of_ble_eq_true rfl⟩ (c_X1_fewestFalse (zl Z) (zG Z) a_flaws a_flaws_flaws u1.2.1 u1.1 u1.2.2.1 u1.2.2.2.2.1 u1.2.2.2.1 g_flaws_fewest u1.2.2.2.2.2 hu2) rfl [1, 2] rfl rfl rfl (ci := 1) rfl rfl rfl (Nat.le_of_ble_eq_true rfl) dX10_falses_26 29 rfl (wn := [(a_this, .inr (10, [.ref a_tape, .ref a_reader, .ref a_table, .ref a_way, .ref a_images, .ref a_sheets, .ref a_flaws, .ref a_sixthOf, .ref a_drawing, .ref a_naming, .int g_lastFault, .int g_lastTear])), (a_flaws, .inr (1, [.int u1.2.1, .int u1.1, .int u1.2.2.1, .int u1.2.2.2.2.1, .ref a_flaws_flaws, .int u1.2.2.2.1, .int u2.2])), (a_flaws_flaws, .inl ((zG Z).2.1 1, 70, .inl u1.2.2.2.2.2)), (a_table, .inr (8, [.int g_table_places, .ref a_table_squares])), (a_table_squares, .inl ((zG Z).2.1 1, 49, .inl g_table_squares))]) rfl (S' := [.int u2.1]) rfl ⟨Nat.zero_le _, Nat.zero_le _⟩ ?_
    refine rn_istore_n hX dX10_falses_29 2 rfl (by decide) (L' := [(2, .int u2.1), (0, .ref a_this), (1, .int x1)]) rfl 30 rfl ?_
    refine rn_iload_n hX dX10_falses_30 0 rfl 31 rfl ?_
    refine rn_iconst hX dX10_falses_31 32 rfl ic_m1 ?_
    refine rn_icmp_ne hX dX10_falses_32 38 (by decide) 35 rfl ?_ ?_
    · refine rn_iload_n hX dX10_falses_38 2 rfl 39 rfl ?_
      refine rn_if_ne hX dX10_falses_39 49 (by decide) 42 rfl ?_ ?_
      · refine rn_iload_n hX dX10_falses_49 0 rfl 50 rfl ?_
        exact rn_iret hX hr (by rw [henc]; rfl) dX10_falses_50
      refine rn_iload_n hX dX10_falses_42 0 rfl 43 rfl ?_
      refine rn_callS0 hX (gS mcC wd_685 wd_677 wd_89 wd_678) rfl hdS_J6_bitCount_0f7a4 rfl rfl ⟨Nat.le_of_ble_eq_true rfl, Nat.le_of_ble_eq_true rfl⟩ (c_J6_bitCount_0f7a4 (zl Z) (zG Z) u2.1 rfl) rfl [] rfl rfl rfl (Nat.le_of_ble_eq_true rfl) dX10_falses_43 46 rfl (S' := [.int (J6_bitCount_0f7a4 u2.1)]) rfl ⟨Nat.zero_le _, Nat.zero_le _⟩ ?_
      refine rn_goto hX dX10_falses_46 50 (by decide) ?_
      exact rn_iret hX hr (by rw [henc]; rfl) dX10_falses_50
    refine rn_bipush hX dX10_falses_35 37 rfl bp_m4 ?_
    exact rn_iret hX hr (by rw [henc]; rfl) dX10_falses_37
  refine rn_iconst hX dX10_falses_9 10 rfl ic_m1 ?_
  exact rn_iret hX hr (by rw [henc]; rfl) dX10_falses_10
abbrev rmX10_doubt : Room := { frames := 6, cells := 0, slots := 0, locals := 156 }
theorem hdV_X10_doubt : yX10_doubt.cls = RX10 ∧ yX10_doubt.cls ≠ "java/lang/invoke/MethodHandle" ∧ yX10_doubt.cls ≠ "java/lang/invoke/VarHandle" ∧ (parseMethodDescriptor yX10_doubt.desc).map (fun d => d.parameters.length) = some 1 := by decide +kernel
set_option maxHeartbeats 4000000 in
set_option maxRecDepth 100000 in
theorem c_X10_doubt (l : Launch) (G : GT) (a_this a_flaws a_flaws_flaws a_table a_table_squares a_tape a_reader a_way a_images a_sheets a_sixthOf a_drawing a_naming : Nat) (g_lastFault : Int32) (g_lastTear : Int32) (g_flaws_badThrees : Int32) (g_flaws_badFours : Int32) (g_flaws_flatThrees : Int32) (g_flaws_toldThrees : Int32) (g_flaws_size : Int32) (g_flaws_fewest : Int32) (g_flaws_flaws : (Nat → Int32)) (g_table_places : Int32) (g_table_squares : (Nat → Int32)) (x1 : Int32) {u : Int32 × Int32 × Int32 × Int32 × Int32 × Int32 × (Nat → Int32)} (hu : X10_doubt x1 g_flaws_badFours g_flaws_badThrees g_flaws_flatThrees g_flaws_size g_flaws_toldThrees g_flaws_flaws g_table_places g_table_squares = some u) : Ctr l G yX10_doubt wsX10_doubt rmX10_doubt [.ref a_this, .int x1] [(a_this, .inr (10, [.ref a_tape, .ref a_reader, .ref a_table, .ref a_way, .ref a_images, .ref a_sheets, .ref a_flaws, .ref a_sixthOf, .ref a_drawing, .ref a_naming, .int g_lastFault, .int g_lastTear])), (a_flaws, .inr (1, [.int g_flaws_badThrees, .int g_flaws_badFours, .int g_flaws_flatThrees, .int g_flaws_toldThrees, .ref a_flaws_flaws, .int g_flaws_size, .int g_flaws_fewest])), (a_flaws_flaws, .inl (G.2.1 1, 70, .inl g_flaws_flaws)), (a_table, .inr (8, [.int g_table_places, .ref a_table_squares])), (a_table_squares, .inl (G.2.1 1, 49, .inl g_table_squares))] (some (.int u.1)) [(a_this, .inr (10, [.ref a_tape, .ref a_reader, .ref a_table, .ref a_way, .ref a_images, .ref a_sheets, .ref a_flaws, .ref a_sixthOf, .ref a_drawing, .ref a_naming, .int g_lastFault, .int g_lastTear])), (a_flaws, .inr (1, [.int u.2.2.1, .int u.2.1, .int u.2.2.2.1, .int u.2.2.2.2.2.1, .ref a_flaws_flaws, .int u.2.2.2.2.1, .int g_flaws_fewest])), (a_flaws_flaws, .inl (G.2.1 1, 70, .inl u.2.2.2.2.2.2)), (a_table, .inr (8, [.int g_table_places, .ref a_table_squares])), (a_table_squares, .inl (G.2.1 1, 49, .inl g_table_squares))] := by
  obtain ⟨enc, henc⟩ : ∃ enc : (Int32 × Int32 × Int32 × Int32 × Int32 × Int32 × (Nat → Int32)) → Option Value × va_W, enc = fun u => (((some (.int u.1)) : Option Value), ([(a_this, .inr (10, [.ref a_tape, .ref a_reader, .ref a_table, .ref a_way, .ref a_images, .ref a_sheets, .ref a_flaws, .ref a_sixthOf, .ref a_drawing, .ref a_naming, .int g_lastFault, .int g_lastTear])), (a_flaws, .inr (1, [.int u.2.2.1, .int u.2.1, .int u.2.2.2.1, .int u.2.2.2.2.2.1, .ref a_flaws_flaws, .int u.2.2.2.2.1, .int g_flaws_fewest])), (a_flaws_flaws, .inl (G.2.1 1, 70, .inl u.2.2.2.2.2.2)), (a_table, .inr (8, [.int g_table_places, .ref a_table_squares])), (a_table_squares, .inl (G.2.1 1, 49, .inl g_table_squares))] : va_W)) := ⟨_, rfl⟩
  refine ctr_of (cc := cX10_doubt) (own := RX10) (E := Option.map enc) (o := X10_doubt x1 g_flaws_badFours g_flaws_badThrees g_flaws_flatThrees g_flaws_size g_flaws_toldThrees g_flaws_flaws g_table_places g_table_squares) (by decide) rfl rfl (L := [(0, .ref a_this), (1, .int x1)]) rfl (Nat.le_of_ble_eq_true rfl) (by rw [hu, henc]; rfl) ?_
  intro Z hX hl hG hr
  subst hl; subst hG
  have fl28 : (Cond.fieldLink RX10 28 "OnlyFar" "table" "LOnlyFar$Table;").before (za Z) (zs Z) = true := hX.wd (mcC _ wd_359)
  have fl56 : (Cond.fieldLink RX10 56 "OnlyFar" "flaws" "LOnlyFar$Flaws;").before (za Z) (zs Z) = true := hX.wd (mcC _ wd_363)
  have inX10 : ∀ w ∈ u_ws RX10 TX10 12, w ∈ wsX10_doubt := fun w h => mcC w (inC_X10 w h)
  unfold X10_doubt
  refine rn_iload_n hX dX10_doubt_0 1 rfl 1 rfl ?_
  refine rn_if_lt hX dX10_doubt_1 9 (by decide) 4 rfl ?_ ?_
  · refine rn_iconst hX dX10_doubt_9 10 rfl ic_m1 ?_
    exact rn_iret hX hr (by rw [henc]; rfl) dX10_doubt_10
  refine rn_iload_n hX dX10_doubt_4 1 rfl 5 rfl ?_
  refine rn_iconst hX dX10_doubt_5 6 rfl ic_1 ?_
  refine rn_icmp_le hX dX10_doubt_6 11 (by decide) 9 rfl ?_ ?_
  · refine rn_aload_n hX dX10_doubt_11 0 rfl 12 rfl ?_
    refine rn_get hX inX10 0 rfl rfl 6 (by decide) fl56 rfl rfl dX10_doubt_12 15 rfl ?_
    refine rn_aload_n hX dX10_doubt_15 0 rfl 16 rfl ?_
    refine rn_get hX inX10 0 rfl rfl 2 (by decide) fl28 rfl rfl dX10_doubt_16 19 rfl ?_
    refine rn_bind (fun u1 hu1 => ?_)
    refine rn_callV hX (gV mcC wd_636 wd_637 wd_638 wd_77 wd_639) rfl hdV_X1_lookAt rfl rfl ⟨Nat.le_of_ble_eq_true rfl, Nat.le_of_ble_eq_true rfl⟩ (c_X1_lookAt (zl Z) (zG Z) a_flaws a_flaws_flaws a_table a_table_squares g_flaws_badThrees g_flaws_badFours g_flaws_flatThrees g_flaws_toldThrees g_flaws_size g_flaws_fewest g_flaws_flaws g_table_places g_table_squares hu1) rfl [1, 2, 3, 4] rfl rfl rfl (ci := 1) rfl rfl rfl (Nat.le_of_ble_eq_true rfl) dX10_doubt_19 22 rfl (wn := [(a_this, .inr (10, [.ref a_tape, .ref a_reader, .ref a_table, .ref a_way, .ref a_images, .ref a_sheets, .ref a_flaws, .ref a_sixthOf, .ref a_drawing, .ref a_naming, .int g_lastFault, .int g_lastTear])), (a_flaws, .inr (1, [.int u1.2.1, .int u1.1, .int u1.2.2.1, .int u1.2.2.2.2.1, .ref a_flaws_flaws, .int u1.2.2.2.1, .int g_flaws_fewest])), (a_flaws_flaws, .inl ((zG Z).2.1 1, 70, .inl u1.2.2.2.2.2)), (a_table, .inr (8, [.int g_table_places, .ref a_table_squares])), (a_table_squares, .inl ((zG Z).2.1 1, 49, .inl g_table_squares))]) rfl (S' := []) rfl ⟨Nat.zero_le _, Nat.zero_le _⟩ ?_
    refine rn_aload_n hX dX10_doubt_22 0 rfl 23 rfl ?_
    refine rn_get hX inX10 0 rfl rfl 6 (by decide) fl56 rfl rfl dX10_doubt_23 26 rfl ?_
    refine rn_bind (fun u2 hu2 => ?_)
    refine rn_callV0 hX (gV mcC wd_690 wd_691 wd_692 wd_77 wd_693) rfl hdV_X1_mostDoubted rfl rfl ⟨Nat.le_of_ble_eq_true rfl, Nat.le_of_ble_eq_true rfl⟩ (c_X1_mostDoubted (zl Z) (zG Z) a_flaws a_flaws_flaws u1.2.1 u1.1 u1.2.2.1 u1.2.2.2.2.1 u1.2.2.2.1 g_flaws_fewest u1.2.2.2.2.2 hu2) rfl [1, 2] rfl rfl (ci := 1) rfl rfl rfl (Nat.le_of_ble_eq_true rfl) dX10_doubt_26 29 rfl (S' := [.int u2]) rfl ⟨Nat.zero_le _, Nat.zero_le _⟩ ?_
    refine rn_istore_n hX dX10_doubt_29 2 rfl (by decide) (L' := [(2, .int u2), (0, .ref a_this), (1, .int x1)]) rfl 30 rfl ?_
    refine rn_iload_n hX dX10_doubt_30 0 rfl 31 rfl ?_
    refine rn_iconst hX dX10_doubt_31 32 rfl ic_m1 ?_
    refine rn_icmp_ne hX dX10_doubt_32 38 (by decide) 35 rfl ?_ ?_
    · refine rn_iload_n hX dX10_doubt_38 2 rfl 39 rfl ?_
      refine rn_if_ne hX dX10_doubt_39 46 (by decide) 42 rfl ?_ ?_
      · refine rn_aload_n hX dX10_doubt_46 1 rfl 47 rfl ?_
        refine rn_get hX inX10 0 rfl rfl 6 (by decide) fl56 rfl rfl dX10_doubt_47 50 rfl ?_
        refine rn_iload_n hX dX10_doubt_50 0 rfl 51 rfl ?_
        refine rn_bind (fun u3 hu3 => ?_)
        refine rn_callV0 hX (gV mcC wd_699 wd_695 wd_696 wd_77 wd_697) rfl hdV_X1_flawsWith rfl rfl ⟨Nat.le_of_ble_eq_true rfl, Nat.le_of_ble_eq_true rfl⟩ (c_X1_flawsWith (zl Z) (zG Z) a_flaws a_flaws_flaws u1.2.1 u1.1 u1.2.2.1 u1.2.2.2.2.1 u1.2.2.2.1 g_flaws_fewest u1.2.2.2.2.2 u2 hu3) rfl [1, 2] rfl rfl (ci := 1) rfl rfl rfl (Nat.le_of_ble_eq_true rfl) dX10_doubt_51 54 rfl (S' := [.int u3]) rfl ⟨Nat.zero_le _, Nat.zero_le _⟩ ?_
        exact rn_iret hX hr (by rw [henc]; rfl) dX10_doubt_54
      refine rn_iload_n hX dX10_doubt_42 0 rfl 43 rfl ?_
      refine rn_goto hX dX10_doubt_43 54 (by decide) ?_
      exact rn_iret hX hr (by rw [henc]; rfl) dX10_doubt_54
    refine rn_bipush hX dX10_doubt_35 37 rfl bp_m4 ?_
    exact rn_iret hX hr (by rw [henc]; rfl) dX10_doubt_37
  refine rn_iconst hX dX10_doubt_9 10 rfl ic_m1 ?_
  exact rn_iret hX hr (by rw [henc]; rfl) dX10_doubt_10
abbrev rmX10_bend : Room := { frames := 3, cells := 0, slots := 0, locals := 66 }
theorem hdV_X10_bend : yX10_bend.cls = RX10 ∧ yX10_bend.cls ≠ "java/lang/invoke/MethodHandle" ∧ yX10_bend.cls ≠ "java/lang/invoke/VarHandle" ∧ (parseMethodDescriptor yX10_bend.desc).map (fun d => d.parameters.length) = some 3 := by decide +kernel
set_option maxHeartbeats 4000000 in
set_option maxRecDepth 100000 in
theorem c_X10_bend (l : Launch) (G : GT) (a_this a_table a_table_squares a_tape a_reader a_way a_images a_sheets a_flaws a_sixthOf a_drawing a_naming : Nat) (g_lastFault : Int32) (g_lastTear : Int32) (g_table_places : Int32) (g_table_squares : (Nat → Int32)) (x1 : Int32) (x2 : Int32) (x3 : Int32) {u : Int32} (hu : X10_bend x1 x2 x3 g_table_places g_table_squares = some u) : Ctr l G yX10_bend wsX10_bend rmX10_bend [.ref a_this, .int x1, .int x2, .int x3] [(a_this, .inr (10, [.ref a_tape, .ref a_reader, .ref a_table, .ref a_way, .ref a_images, .ref a_sheets, .ref a_flaws, .ref a_sixthOf, .ref a_drawing, .ref a_naming, .int g_lastFault, .int g_lastTear])), (a_table, .inr (8, [.int g_table_places, .ref a_table_squares])), (a_table_squares, .inl (G.2.1 1, 49, .inl g_table_squares))] (some (.int u)) [(a_this, .inr (10, [.ref a_tape, .ref a_reader, .ref a_table, .ref a_way, .ref a_images, .ref a_sheets, .ref a_flaws, .ref a_sixthOf, .ref a_drawing, .ref a_naming, .int g_lastFault, .int g_lastTear])), (a_table, .inr (8, [.int g_table_places, .ref a_table_squares])), (a_table_squares, .inl (G.2.1 1, 49, .inl g_table_squares))] := by
  obtain ⟨enc, henc⟩ : ∃ enc : (Int32) → Option Value × va_W, enc = fun u => (((some (.int u)) : Option Value), ([(a_this, .inr (10, [.ref a_tape, .ref a_reader, .ref a_table, .ref a_way, .ref a_images, .ref a_sheets, .ref a_flaws, .ref a_sixthOf, .ref a_drawing, .ref a_naming, .int g_lastFault, .int g_lastTear])), (a_table, .inr (8, [.int g_table_places, .ref a_table_squares])), (a_table_squares, .inl (G.2.1 1, 49, .inl g_table_squares))] : va_W)) := ⟨_, rfl⟩
  refine ctr_of (cc := cX10_bend) (own := RX10) (E := Option.map enc) (o := X10_bend x1 x2 x3 g_table_places g_table_squares) (by decide) rfl rfl (L := [(0, .ref a_this), (1, .int x1), (2, .int x2), (3, .int x3)]) rfl (Nat.le_of_ble_eq_true rfl) (by rw [hu, henc]; rfl) ?_
  intro Z hX hl hG hr
  subst hl; subst hG
  have fl28 : (Cond.fieldLink RX10 28 "OnlyFar" "table" "LOnlyFar$Table;").before (za Z) (zs Z) = true := hX.wd (mcC _ wd_359)
  have inX10 : ∀ w ∈ u_ws RX10 TX10 12, w ∈ wsX10_bend := fun w h => mcC w (inC_X10 w h)
  unfold X10_bend
  refine rn_aload_n hX dX10_bend_0 0 rfl 1 rfl ?_
  refine rn_get hX inX10 0 rfl rfl 2 (by decide) fl28 rfl rfl dX10_bend_1 4 rfl ?_
  refine rn_iload_n hX dX10_bend_4 1 rfl 5 rfl ?_
  refine rn_iload_n hX dX10_bend_5 2 rfl 6 rfl ?_
  refine rn_iload_n hX dX10_bend_6 3 rfl 7 rfl ?_
  refine rn_callV0 hX (gV mcC wd_573 wd_574 wd_575 wd_73 wd_576) rfl hdV_X8_areThree rfl rfl ⟨Nat.le_of_ble_eq_true rfl, Nat.le_of_ble_eq_true rfl⟩ (c_X8_areThree (zl Z) (zG Z) a_table a_table_squares g_table_places x1 x2 x3 rfl) rfl [1] rfl rfl (ci := 8) rfl rfl rfl (Nat.le_of_ble_eq_true rfl) dX10_bend_7 10 rfl (S' := [.int (X8_areThree x1 x2 x3 g_table_places)]) rfl ⟨Nat.zero_le _, Nat.zero_le _⟩ ?_
  refine rn_if_ne hX dX10_bend_10 15 (by decide) 13 rfl ?_ ?_
  · refine rn_aload_n hX dX10_bend_15 0 rfl 16 rfl ?_
    refine rn_get hX inX10 0 rfl rfl 2 (by decide) fl28 rfl rfl dX10_bend_16 19 rfl ?_
    refine rn_iload_n hX dX10_bend_19 1 rfl 20 rfl ?_
    refine rn_iload_n hX dX10_bend_20 2 rfl 21 rfl ?_
    refine rn_iload_n hX dX10_bend_21 3 rfl 22 rfl ?_
    refine rn_bind (fun u1 hu1 => ?_)
    refine rn_callV0 hX (gV mcC wd_579 wd_580 wd_581 wd_73 wd_582) rfl hdV_X8_isToldThree rfl rfl ⟨Nat.le_of_ble_eq_true rfl, Nat.le_of_ble_eq_true rfl⟩ (c_X8_isToldThree (zl Z) (zG Z) a_table a_table_squares g_table_places g_table_squares x1 x2 x3 hu1) rfl [1, 2] rfl rfl (ci := 8) rfl rfl rfl (Nat.le_of_ble_eq_true rfl) dX10_bend_22 25 rfl (S' := [.int u1]) rfl ⟨Nat.zero_le _, Nat.zero_le _⟩ ?_
    refine rn_if_ne hX dX10_bend_25 31 (by decide) 28 rfl ?_ ?_
    · refine rn_aload_n hX dX10_bend_31 0 rfl 32 rfl ?_
      refine rn_get hX inX10 0 rfl rfl 2 (by decide) fl28 rfl rfl dX10_bend_32 35 rfl ?_
      refine rn_iload_n hX dX10_bend_35 2 rfl 36 rfl ?_
      refine rn_iload_n hX dX10_bend_36 1 rfl 37 rfl ?_
      refine rn_iload_n hX dX10_bend_37 3 rfl 38 rfl ?_
      refine rn_bind (fun u2 hu2 => ?_)
      refine rn_callV0 hX (gV mcC wd_704 wd_629 wd_630 wd_73 wd_631) rfl hdV_X8_leaning rfl rfl ⟨Nat.le_of_ble_eq_true rfl, Nat.le_of_ble_eq_true rfl⟩ (c_X8_leaning (zl Z) (zG Z) a_table a_table_squares g_table_places g_table_squares x2 x1 x3 hu2) rfl [1, 2] rfl rfl (ci := 8) rfl rfl rfl (Nat.le_of_ble_eq_true rfl) dX10_bend_38 41 rfl (S' := [.long u2]) rfl ⟨Nat.zero_le _, Nat.zero_le _⟩ ?_
      refine rn_lstore hX dX10_bend_41 (by decide) (L' := [(4, .long u2), (0, .ref a_this), (1, .int x1), (2, .int x2), (3, .int x3)]) rfl 43 rfl ?_
      refine rn_lload hX dX10_bend_43 0 rfl 45 rfl ?_
      refine rn_lconst hX dX10_bend_45 46 rfl lc_0 ?_
      refine rn_lcmp_ne hX dX10_bend_46 47 rfl dX10_bend_47 52 (by decide) 50 rfl ?_ ?_
      · refine rn_lload hX dX10_bend_52 0 rfl 54 rfl ?_
        refine rn_lconst hX dX10_bend_54 55 rfl lc_0 ?_
        refine rn_lcmp_le hX dX10_bend_55 56 rfl dX10_bend_56 63 (by decide) 59 rfl ?_ ?_
        · refine rn_iconst hX dX10_bend_63 64 rfl ic_2 ?_
          exact rn_iret hX hr (by rw [henc]; rfl) dX10_bend_64
        refine rn_iconst hX dX10_bend_59 60 rfl ic_1 ?_
        refine rn_goto hX dX10_bend_60 64 (by decide) ?_
        exact rn_iret hX hr (by rw [henc]; rfl) dX10_bend_64
      refine rn_iconst hX dX10_bend_50 51 rfl ic_0 ?_
      exact rn_iret hX hr (by rw [henc]; rfl) dX10_bend_51
    refine rn_bipush hX dX10_bend_28 30 rfl bp_m4 ?_
    exact rn_iret hX hr (by rw [henc]; rfl) dX10_bend_30
  refine rn_iconst hX dX10_bend_13 14 rfl ic_m1 ?_
  exact rn_iret hX hr (by rw [henc]; rfl) dX10_bend_14
abbrev rmX10_refusalOfThree : Room := { frames := 3, cells := 0, slots := 0, locals := 73 }
theorem hdV_X10_refusalOfThree : yX10_refusalOfThree.cls = RX10 ∧ yX10_refusalOfThree.cls ≠ "java/lang/invoke/MethodHandle" ∧ yX10_refusalOfThree.cls ≠ "java/lang/invoke/VarHandle" ∧ (parseMethodDescriptor yX10_refusalOfThree.desc).map (fun d => d.parameters.length) = some 4 := by decide +kernel
set_option maxHeartbeats 4000000 in
set_option maxRecDepth 100000 in
theorem c_X10_refusalOfThree (l : Launch) (G : GT) (a_this a_table a_table_squares a_tape a_reader a_way a_images a_sheets a_flaws a_sixthOf a_drawing a_naming : Nat) (g_lastFault : Int32) (g_lastTear : Int32) (g_table_places : Int32) (g_table_squares : (Nat → Int32)) (x1 : Int32) (x2 : Int32) (x3 : Int32) (x4 : Int32) {u : Int64} (hu : X10_refusalOfThree x1 x2 x3 x4 g_table_places g_table_squares = some u) : Ctr l G yX10_refusalOfThree wsX10_refusalOfThree rmX10_refusalOfThree [.ref a_this, .int x1, .int x2, .int x3, .int x4] [(a_this, .inr (10, [.ref a_tape, .ref a_reader, .ref a_table, .ref a_way, .ref a_images, .ref a_sheets, .ref a_flaws, .ref a_sixthOf, .ref a_drawing, .ref a_naming, .int g_lastFault, .int g_lastTear])), (a_table, .inr (8, [.int g_table_places, .ref a_table_squares])), (a_table_squares, .inl (G.2.1 1, 49, .inl g_table_squares))] (some (.long u)) [(a_this, .inr (10, [.ref a_tape, .ref a_reader, .ref a_table, .ref a_way, .ref a_images, .ref a_sheets, .ref a_flaws, .ref a_sixthOf, .ref a_drawing, .ref a_naming, .int g_lastFault, .int g_lastTear])), (a_table, .inr (8, [.int g_table_places, .ref a_table_squares])), (a_table_squares, .inl (G.2.1 1, 49, .inl g_table_squares))] := by
  obtain ⟨enc, henc⟩ : ∃ enc : (Int64) → Option Value × va_W, enc = fun u => (((some (.long u)) : Option Value), ([(a_this, .inr (10, [.ref a_tape, .ref a_reader, .ref a_table, .ref a_way, .ref a_images, .ref a_sheets, .ref a_flaws, .ref a_sixthOf, .ref a_drawing, .ref a_naming, .int g_lastFault, .int g_lastTear])), (a_table, .inr (8, [.int g_table_places, .ref a_table_squares])), (a_table_squares, .inl (G.2.1 1, 49, .inl g_table_squares))] : va_W)) := ⟨_, rfl⟩
  refine ctr_of (cc := cX10_refusalOfThree) (own := RX10) (E := Option.map enc) (o := X10_refusalOfThree x1 x2 x3 x4 g_table_places g_table_squares) (by decide) rfl rfl (L := [(0, .ref a_this), (1, .int x1), (2, .int x2), (3, .int x3), (4, .int x4)]) rfl (Nat.le_of_ble_eq_true rfl) (by rw [hu, henc]; rfl) ?_
  intro Z hX hl hG hr
  subst hl; subst hG
  have fl28 : (Cond.fieldLink RX10 28 "OnlyFar" "table" "LOnlyFar$Table;").before (za Z) (zs Z) = true := hX.wd (mcC _ wd_359)
  have kl145 : (Cond.constantLong RX10 145 (-9000000000)).before (za Z) (zs Z) = true := hX.wd (mcC _ wd_578)
  have kl154 : (Cond.constantLong RX10 154 (-9000000001)).before (za Z) (zs Z) = true := hX.wd (mcC _ wd_591)
  have inX10 : ∀ w ∈ u_ws RX10 TX10 12, w ∈ wsX10_refusalOfThree := fun w h => mcC w (inC_X10 w h)
  unfold X10_refusalOfThree
  refine rn_aload_n hX dX10_refusalOfThree_0 0 rfl 1 rfl ?_
  refine rn_get hX inX10 0 rfl rfl 2 (by decide) fl28 rfl rfl dX10_refusalOfThree_1 4 rfl ?_
  refine rn_iload_n hX dX10_refusalOfThree_4 1 rfl 5 rfl ?_
  refine rn_iload_n hX dX10_refusalOfThree_5 2 rfl 6 rfl ?_
  refine rn_iload_n hX dX10_refusalOfThree_6 3 rfl 7 rfl ?_
  refine rn_callV0 hX (gV mcC wd_573 wd_574 wd_575 wd_73 wd_576) rfl hdV_X8_areThree rfl rfl ⟨Nat.le_of_ble_eq_true rfl, Nat.le_of_ble_eq_true rfl⟩ (c_X8_areThree (zl Z) (zG Z) a_table a_table_squares g_table_places x1 x2 x3 rfl) rfl [1] rfl rfl (ci := 8) rfl rfl rfl (Nat.le_of_ble_eq_true rfl) dX10_refusalOfThree_7 10 rfl (S' := [.int (X8_areThree x1 x2 x3 g_table_places)]) rfl ⟨Nat.zero_le _, Nat.zero_le _⟩ ?_
  refine rn_if_eq hX dX10_refusalOfThree_10 24 (by decide) 13 rfl ?_ ?_
  · refine rn_ldc2 hX kl145 dX10_refusalOfThree_24 27 rfl ?_
    exact rn_lret hX hr (by rw [henc]; rfl) dX10_refusalOfThree_27
  refine rn_iload hX dX10_refusalOfThree_13 4 rfl 15 rfl ?_
  refine rn_if_lt hX dX10_refusalOfThree_15 24 (by decide) 18 rfl ?_ ?_
  · refine rn_ldc2 hX kl145 dX10_refusalOfThree_24 27 rfl ?_
    exact rn_lret hX hr (by rw [henc]; rfl) dX10_refusalOfThree_27
  refine rn_iload hX dX10_refusalOfThree_18 4 rfl 20 rfl ?_
  refine rn_iconst hX dX10_refusalOfThree_20 21 rfl ic_1 ?_
  refine rn_icmp_le hX dX10_refusalOfThree_21 28 (by decide) 24 rfl ?_ ?_
  · refine rn_aload_n hX dX10_refusalOfThree_28 0 rfl 29 rfl ?_
    refine rn_get hX inX10 0 rfl rfl 2 (by decide) fl28 rfl rfl dX10_refusalOfThree_29 32 rfl ?_
    refine rn_iload_n hX dX10_refusalOfThree_32 1 rfl 33 rfl ?_
    refine rn_iload_n hX dX10_refusalOfThree_33 2 rfl 34 rfl ?_
    refine rn_iload_n hX dX10_refusalOfThree_34 3 rfl 35 rfl ?_
    refine rn_bind (fun u1 hu1 => ?_)
    refine rn_callV0 hX (gV mcC wd_579 wd_580 wd_581 wd_73 wd_582) rfl hdV_X8_isToldThree rfl rfl ⟨Nat.le_of_ble_eq_true rfl, Nat.le_of_ble_eq_true rfl⟩ (c_X8_isToldThree (zl Z) (zG Z) a_table a_table_squares g_table_places g_table_squares x1 x2 x3 hu1) rfl [1, 2] rfl rfl (ci := 8) rfl rfl rfl (Nat.le_of_ble_eq_true rfl) dX10_refusalOfThree_35 38 rfl (S' := [.int u1]) rfl ⟨Nat.zero_le _, Nat.zero_le _⟩ ?_
    refine rn_if_eq hX dX10_refusalOfThree_38 54 (by decide) 41 rfl ?_ ?_
    · refine rn_ldc2 hX kl154 dX10_refusalOfThree_54 57 rfl ?_
      exact rn_lret hX hr (by rw [henc]; rfl) dX10_refusalOfThree_57
    refine rn_aload_n hX dX10_refusalOfThree_41 0 rfl 42 rfl ?_
    refine rn_get hX inX10 0 rfl rfl 2 (by decide) fl28 rfl rfl dX10_refusalOfThree_42 45 rfl ?_
    refine rn_iload_n hX dX10_refusalOfThree_45 1 rfl 46 rfl ?_
    refine rn_iload_n hX dX10_refusalOfThree_46 2 rfl 47 rfl ?_
    refine rn_iload_n hX dX10_refusalOfThree_47 3 rfl 48 rfl ?_
    refine rn_bind (fun u2 hu2 => ?_)
    refine rn_callV0 hX (gV mcC wd_596 wd_597 wd_598 wd_73 wd_599) rfl hdV_X8_canBeThree rfl rfl ⟨Nat.le_of_ble_eq_true rfl, Nat.le_of_ble_eq_true rfl⟩ (c_X8_canBeThree (zl Z) (zG Z) a_table a_table_squares g_table_places g_table_squares x1 x2 x3 hu2) rfl [1, 2] rfl rfl (ci := 8) rfl rfl rfl (Nat.le_of_ble_eq_true rfl) dX10_refusalOfThree_48 51 rfl (S' := [.int u2]) rfl ⟨Nat.zero_le _, Nat.zero_le _⟩ ?_
    refine rn_if_ne hX dX10_refusalOfThree_51 58 (by decide) 54 rfl ?_ ?_
    · refine rn_lconst hX dX10_refusalOfThree_58 59 rfl lc_0 ?_
      exact rn_lret hX hr (by rw [henc]; rfl) dX10_refusalOfThree_59
    refine rn_ldc2 hX kl154 dX10_refusalOfThree_54 57 rfl ?_
    exact rn_lret hX hr (by rw [henc]; rfl) dX10_refusalOfThree_57
  refine rn_ldc2 hX kl145 dX10_refusalOfThree_24 27 rfl ?_
  exact rn_lret hX hr (by rw [henc]; rfl) dX10_refusalOfThree_27
abbrev rmX10_commonDivisor : Room := { frames := 0, cells := 0, slots := 0, locals := 0 }
theorem hdS_X10_commonDivisor : yX10_commonDivisor.cls ≠ "java/lang/invoke/MethodHandle" ∧ yX10_commonDivisor.cls ≠ "java/lang/invoke/VarHandle" ∧ (parseMethodDescriptor yX10_commonDivisor.desc).map (fun d => d.parameters.length) = some 2 := by decide +kernel
set_option maxHeartbeats 4000000 in
set_option maxRecDepth 100000 in
theorem c_X10_commonDivisor (l : Launch) (G : GT) (x0 : Int64) (x2 : Int64) {u : Int64} (hu : X10_commonDivisor x0 x2 = some u) : Ctr l G yX10_commonDivisor wsX10_commonDivisor rmX10_commonDivisor [.long x0, .long x2] [] (some (.long u)) [] := by
  obtain ⟨enc, henc⟩ : ∃ enc : (Int64) → Option Value × va_W, enc = fun u => (((some (.long u)) : Option Value), ([] : va_W)) := ⟨_, rfl⟩
  refine ctr_of (cc := cX10_commonDivisor) (own := RX10) (E := Option.map enc) (o := X10_commonDivisor x0 x2) (by decide) rfl rfl (L := [(0, .long x0), (2, .long x2)]) rfl (Nat.le_of_ble_eq_true rfl) (by rw [hu, henc]; rfl) ?_
  intro Z hX hl hG hr
  subst hl; subst hG
  have hB9 : ∀ (again : Int64 → Int64 → Int32 → Option (Int64)) (hagain : ∀ (x4 : Int64) (x6 : Int64) (x8 : Int32), Rn Z 11 (Option.map enc) 0 0 9 [(4, .long x4), (6, .long x6), (8, .int x8)] [] [] (again x4 x6 x8)) (x4 : Int64) (x6 : Int64) (x8 : Int32), Rn Z 11 (Option.map enc) 0 0 9 [(4, .long x4), (6, .long x6), (8, .int x8)] [] [] (X10_commonDivisor_B9 again x4 x6 x8) := by
    intro again hagain x4 x6 x8
    unfold X10_commonDivisor_B9
    refine rn_iload hX dX10_commonDivisor_9 2 rfl 11 rfl ?_
    refine rn_sipush hX dX10_commonDivisor_11 14 rfl sp_200 ?_
    refine rn_icmp_ge hX dX10_commonDivisor_14 45 (by decide) 17 rfl ?_ ?_
    · refine rn_lload hX dX10_commonDivisor_45 0 rfl 47 rfl ?_
      exact rn_lret hX hr (by rw [henc]; rfl) dX10_commonDivisor_47
    refine rn_lload hX dX10_commonDivisor_17 1 rfl 19 rfl ?_
    refine rn_lconst hX dX10_commonDivisor_19 20 rfl lc_0 ?_
    refine rn_lcmp_eq hX dX10_commonDivisor_20 21 rfl dX10_commonDivisor_21 45 (by decide) 24 rfl ?_ ?_
    · refine rn_lload hX dX10_commonDivisor_45 0 rfl 47 rfl ?_
      exact rn_lret hX hr (by rw [henc]; rfl) dX10_commonDivisor_47
    refine rn_lload hX dX10_commonDivisor_24 0 rfl 26 rfl ?_
    refine rn_lload hX dX10_commonDivisor_26 1 rfl 28 rfl ?_
    refine rn_gdl (fun hd1 => ?_)
    refine rn_lrem hX dX10_commonDivisor_28 29 rfl hd1 ?_
    refine rn_latl (fun v2 => ?_)
    refine rn_lstore hX dX10_commonDivisor_29 (by decide) (L' := [(9, .long v2), (4, .long x4), (6, .long x6), (8, .int x8)]) rfl 31 rfl ?_
    refine rn_lload hX dX10_commonDivisor_31 2 rfl 33 rfl ?_
    refine rn_lstore hX dX10_commonDivisor_33 (by decide) (L' := [(4, .long x6), (9, .long v2), (6, .long x6), (8, .int x8)]) rfl 35 rfl ?_
    refine rn_lload hX dX10_commonDivisor_35 1 rfl 37 rfl ?_
    refine rn_lstore hX dX10_commonDivisor_37 (by decide) (L' := [(6, .long v2), (4, .long x6), (9, .long v2), (8, .int x8)]) rfl 39 rfl ?_
    refine rn_iinc hX dX10_commonDivisor_39 3 rfl ic_1 (by decide) (L' := fun v3 => [(8, .int v3), (6, .long v2), (4, .long x6), (9, .long v2)]) (fun _ => rfl) 42 rfl (fun v3 => ?_)
    refine rn_goto hX dX10_commonDivisor_42 9 (by decide) ?_
    refine rn_sub [2, 1, 0] rfl ?_
    exact hagain x6 v2 v3
  have hL9 : ∀ (n : Nat) (x4 : Int64) (x6 : Int64) (x8 : Int32), Rn Z 11 (Option.map enc) 0 0 9 [(4, .long x4), (6, .long x6), (8, .int x8)] [] [] (X10_commonDivisor_L9 n x4 x6 x8) := by
    intro n
    induction n with
    | zero => intros; exact rn_none
    | succ n ih => exact hB9 _ ih
  unfold X10_commonDivisor
  refine rn_lload_n hX dX10_commonDivisor_0 0 rfl 1 rfl ?_
  refine rn_lstore hX dX10_commonDivisor_1 (by decide) (L' := [(4, .long x0), (0, .long x0), (2, .long x2)]) rfl 3 rfl ?_
  refine rn_lload_n hX dX10_commonDivisor_3 2 rfl 4 rfl ?_
  refine rn_lstore hX dX10_commonDivisor_4 (by decide) (L' := [(6, .long x2), (4, .long x0), (0, .long x0), (2, .long x2)]) rfl 6 rfl ?_
  refine rn_iconst hX dX10_commonDivisor_6 7 rfl ic_0 ?_
  refine rn_istore hX dX10_commonDivisor_7 (by decide) (L' := [(8, .int (0 : Int32)), (6, .long x2), (4, .long x0), (0, .long x0), (2, .long x2)]) rfl 9 rfl ?_
  refine rn_sub [2, 1, 0] rfl ?_
  exact (hL9  1000) x0 x2 (0 : Int32)
abbrev rmX10_lowest : Room := { frames := 1, cells := 0, slots := 0, locals := 30 }
theorem hdS_X10_lowest : yX10_lowest.cls ≠ "java/lang/invoke/MethodHandle" ∧ yX10_lowest.cls ≠ "java/lang/invoke/VarHandle" ∧ (parseMethodDescriptor yX10_lowest.desc).map (fun d => d.parameters.length) = some 3 := by decide +kernel
set_option maxHeartbeats 4000000 in
set_option maxRecDepth 100000 in
theorem c_X10_lowest (l : Launch) (G : GT) (x0 : Int64) (x2 : Int64) (x4 : Int32) {u : Int64} (hu : X10_lowest x0 x2 x4 = some u) : Ctr l G yX10_lowest wsX10_lowest rmX10_lowest [.long x0, .long x2, .int x4] [] (some (.long u)) [] := by
  obtain ⟨enc, henc⟩ : ∃ enc : (Int64) → Option Value × va_W, enc = fun u => (((some (.long u)) : Option Value), ([] : va_W)) := ⟨_, rfl⟩
  refine ctr_of (cc := cX10_lowest) (own := RX10) (E := Option.map enc) (o := X10_lowest x0 x2 x4) (by decide) rfl rfl (L := [(0, .long x0), (2, .long x2), (4, .int x4)]) rfl (Nat.le_of_ble_eq_true rfl) (by rw [hu, henc]; rfl) ?_
  intro Z hX hl hG hr
  subst hl; subst hG
  have mathabsS : (Cond.static Lib.MathLoose.abs_long.x).before (za Z) (zs Z) = true := hX.wd (mcC _ wd_719)
  have mathabsI : (Cond.initialized "java/lang/Math").before (za Z) (zs Z) = true := hX.wd (mcC _ wd_87)
  have mathabsC : (Cond.code Lib.MathLoose.abs_long.x Lib.MathLoose.abs_long.code 2 (some .long)).before (za Z) (zs Z) = true := hX.wd (mcC _ wd_720)
  have ml361 : (Cond.methodLink RX10 361 Lib.MathLoose.abs_long.x).before (za Z) (zs Z) = true := hX.wd (mcC _ wd_718)
  unfold X10_lowest
  refine rn_lload_n hX dX10_lowest_0 0 rfl 1 rfl ?_
  refine rn_mabsl hX ml361 mathabsS mathabsI mathabsC (Nat.le_of_ble_eq_true rfl) (Nat.le_of_ble_eq_true rfl) ⟨Nat.zero_le _, Nat.zero_le _⟩ dX10_lowest_1 4 rfl ?_
  refine rn_lload_n hX dX10_lowest_4 1 rfl 5 rfl ?_
  refine rn_bind (fun u1 hu1 => ?_)
  refine rn_callS0 hX (gS mcC wd_721 wd_722 wd_70 wd_723) rfl hdS_X10_commonDivisor rfl rfl ⟨Nat.le_of_ble_eq_true rfl, Nat.le_of_ble_eq_true rfl⟩ (c_X10_commonDivisor (zl Z) (zG Z) (if 0 < x0 then x0 else -x0) x2 hu1) rfl [] rfl rfl rfl (Nat.le_of_ble_eq_true rfl) dX10_lowest_5 8 rfl (S' := [.long u1]) rfl ⟨Nat.zero_le _, Nat.zero_le _⟩ ?_
  refine rn_lstore hX dX10_lowest_8 (by decide) (L' := [(5, .long u1), (0, .long x0), (2, .long x2), (4, .int x4)]) rfl 10 rfl ?_
  refine rn_lload hX dX10_lowest_10 0 rfl 12 rfl ?_
  refine rn_lconst hX dX10_lowest_12 13 rfl lc_0 ?_
  refine rn_lcmp_gt hX dX10_lowest_13 14 rfl dX10_lowest_14 19 (by decide) 17 rfl ?_ ?_
  · refine rn_iload hX dX10_lowest_19 3 rfl 21 rfl ?_
    refine rn_if_ne hX dX10_lowest_21 28 (by decide) 24 rfl ?_ ?_
    · refine rn_lload_n hX dX10_lowest_28 2 rfl 29 rfl ?_
      refine rn_lload hX dX10_lowest_29 0 rfl 31 rfl ?_
      refine rn_gdl (fun hd2 => ?_)
      refine rn_ldiv hX dX10_lowest_31 32 rfl hd2 ?_
      exact rn_lret hX hr (by rw [henc]; rfl) dX10_lowest_32
    refine rn_lload_n hX dX10_lowest_24 1 rfl 25 rfl ?_
    refine rn_goto hX dX10_lowest_25 29 (by decide) ?_
    refine rn_lload hX dX10_lowest_29 0 rfl 31 rfl ?_
    refine rn_gdl (fun hd3 => ?_)
    refine rn_ldiv hX dX10_lowest_31 32 rfl hd3 ?_
    exact rn_lret hX hr (by rw [henc]; rfl) dX10_lowest_32
  refine rn_lconst hX dX10_lowest_17 18 rfl lc_0 ?_
  exact rn_lret hX hr (by rw [henc]; rfl) dX10_lowest_18
abbrev rmX10_foot : Room := { frames := 4, cells := 0, slots := 0, locals := 97 }
theorem hdV_X10_foot : yX10_foot.cls = RX10 ∧ yX10_foot.cls ≠ "java/lang/invoke/MethodHandle" ∧ yX10_foot.cls ≠ "java/lang/invoke/VarHandle" ∧ (parseMethodDescriptor yX10_foot.desc).map (fun d => d.parameters.length) = some 4 := by decide +kernel
set_option maxHeartbeats 4000000 in
set_option maxRecDepth 100000 in
theorem c_X10_foot (l : Launch) (G : GT) (a_this a_table a_table_squares a_tape a_reader a_way a_images a_sheets a_flaws a_sixthOf a_drawing a_naming : Nat) (g_lastFault : Int32) (g_lastTear : Int32) (g_table_places : Int32) (g_table_squares : (Nat → Int32)) (x1 : Int32) (x2 : Int32) (x3 : Int32) (x4 : Int32) {u : Int64} (hu : X10_foot x1 x2 x3 x4 g_table_places g_table_squares = some u) : Ctr l G yX10_foot wsX10_foot rmX10_foot [.ref a_this, .int x1, .int x2, .int x3, .int x4] [(a_this, .inr (10, [.ref a_tape, .ref a_reader, .ref a_table, .ref a_way, .ref a_images, .ref a_sheets, .ref a_flaws, .ref a_sixthOf, .ref a_drawing, .ref a_naming, .int g_lastFault, .int g_lastTear])), (a_table, .inr (8, [.int g_table_places, .ref a_table_squares])), (a_table_squares, .inl (G.2.1 1, 49, .inl g_table_squares))] (some (.long u)) [(a_this, .inr (10, [.ref a_tape, .ref a_reader, .ref a_table, .ref a_way, .ref a_images, .ref a_sheets, .ref a_flaws, .ref a_sixthOf, .ref a_drawing, .ref a_naming, .int g_lastFault, .int g_lastTear])), (a_table, .inr (8, [.int g_table_places, .ref a_table_squares])), (a_table_squares, .inl (G.2.1 1, 49, .inl g_table_squares))] := by
  obtain ⟨enc, henc⟩ : ∃ enc : (Int64) → Option Value × va_W, enc = fun u => (((some (.long u)) : Option Value), ([(a_this, .inr (10, [.ref a_tape, .ref a_reader, .ref a_table, .ref a_way, .ref a_images, .ref a_sheets, .ref a_flaws, .ref a_sixthOf, .ref a_drawing, .ref a_naming, .int g_lastFault, .int g_lastTear])), (a_table, .inr (8, [.int g_table_places, .ref a_table_squares])), (a_table_squares, .inl (G.2.1 1, 49, .inl g_table_squares))] : va_W)) := ⟨_, rfl⟩
  refine ctr_of (cc := cX10_foot) (own := RX10) (E := Option.map enc) (o := X10_foot x1 x2 x3 x4 g_table_places g_table_squares) (by decide) rfl rfl (L := [(0, .ref a_this), (1, .int x1), (2, .int x2), (3, .int x3), (4, .int x4)]) rfl (Nat.le_of_ble_eq_true rfl) (by rw [hu, henc]; rfl) ?_
  intro Z hX hl hG hr
  subst hl; subst hG
  have fl28 : (Cond.fieldLink RX10 28 "OnlyFar" "table" "LOnlyFar$Table;").before (za Z) (zs Z) = true := hX.wd (mcC _ wd_359)
  have kl211 : (Cond.constantLong RX10 211 (2)).before (za Z) (zs Z) = true := hX.wd (mcC _ wd_713)
  have inX10 : ∀ w ∈ u_ws RX10 TX10 12, w ∈ wsX10_foot := fun w h => mcC w (inC_X10 w h)
  unfold X10_foot
  refine rn_aload_n hX dX10_foot_0 0 rfl 1 rfl ?_
  refine rn_iload_n hX dX10_foot_1 1 rfl 2 rfl ?_
  refine rn_iload_n hX dX10_foot_2 2 rfl 3 rfl ?_
  refine rn_iload_n hX dX10_foot_3 3 rfl 4 rfl ?_
  refine rn_iload hX dX10_foot_4 4 rfl 6 rfl ?_
  refine rn_bind (fun u1 hu1 => ?_)
  refine rn_callV0 hX (gV mcC wd_709 wd_711 wd_15 wd_70 wd_712) rfl hdV_X10_refusalOfThree rfl rfl ⟨Nat.le_of_ble_eq_true rfl, Nat.le_of_ble_eq_true rfl⟩ (c_X10_refusalOfThree (zl Z) (zG Z) a_this a_table a_table_squares a_tape a_reader a_way a_images a_sheets a_flaws a_sixthOf a_drawing a_naming g_lastFault g_lastTear g_table_places g_table_squares x1 x2 x3 x4 hu1) rfl [0, 1, 2] rfl rfl (ci := 10) rfl rfl rfl (Nat.le_of_ble_eq_true rfl) dX10_foot_6 9 rfl (S' := [.long u1]) rfl ⟨Nat.zero_le _, Nat.zero_le _⟩ ?_
  refine rn_lstore hX dX10_foot_9 (by decide) (L' := [(5, .long u1), (0, .ref a_this), (1, .int x1), (2, .int x2), (3, .int x3), (4, .int x4)]) rfl 11 rfl ?_
  refine rn_lload hX dX10_foot_11 0 rfl 13 rfl ?_
  refine rn_lconst hX dX10_foot_13 14 rfl lc_0 ?_
  refine rn_lcmp_eq hX dX10_foot_14 15 rfl dX10_foot_15 21 (by decide) 18 rfl ?_ ?_
  · refine rn_aload_n hX dX10_foot_21 1 rfl 22 rfl ?_
    refine rn_get hX inX10 0 rfl rfl 2 (by decide) fl28 rfl rfl dX10_foot_22 25 rfl ?_
    refine rn_iload_n hX dX10_foot_25 2 rfl 26 rfl ?_
    refine rn_iload_n hX dX10_foot_26 3 rfl 27 rfl ?_
    refine rn_iload_n hX dX10_foot_27 4 rfl 28 rfl ?_
    refine rn_bind (fun u2 hu2 => ?_)
    refine rn_callV0 hX (gV mcC wd_704 wd_629 wd_630 wd_73 wd_631) rfl hdV_X8_leaning rfl rfl ⟨Nat.le_of_ble_eq_true rfl, Nat.le_of_ble_eq_true rfl⟩ (c_X8_leaning (zl Z) (zG Z) a_table a_table_squares g_table_places g_table_squares x1 x2 x3 hu2) rfl [1, 2] rfl rfl (ci := 8) rfl rfl rfl (Nat.le_of_ble_eq_true rfl) dX10_foot_28 31 rfl (S' := [.long u2]) rfl ⟨Nat.zero_le _, Nat.zero_le _⟩ ?_
    refine rn_ldc2 hX kl211 dX10_foot_31 34 rfl ?_
    refine rn_aload_n hX dX10_foot_34 1 rfl 35 rfl ?_
    refine rn_get hX inX10 0 rfl rfl 2 (by decide) fl28 rfl rfl dX10_foot_35 38 rfl ?_
    refine rn_iload_n hX dX10_foot_38 2 rfl 39 rfl ?_
    refine rn_iload_n hX dX10_foot_39 3 rfl 40 rfl ?_
    refine rn_bind (fun u3 hu3 => ?_)
    refine rn_callV0 hX (gV mcC wd_714 wd_512 wd_513 wd_73 wd_514) rfl hdV_X8_square rfl rfl ⟨Nat.le_of_ble_eq_true rfl, Nat.le_of_ble_eq_true rfl⟩ (c_X8_square (zl Z) (zG Z) a_table a_table_squares g_table_places g_table_squares x1 x2 hu3) rfl [1, 2] rfl rfl (ci := 8) rfl rfl rfl (Nat.le_of_ble_eq_true rfl) dX10_foot_40 43 rfl (S' := [.int u3, .long (2 : Int64), .long u2]) rfl ⟨Nat.zero_le _, Nat.zero_le _⟩ ?_
    refine rn_i2l hX dX10_foot_43 44 rfl ?_
    refine rn_lmul hX dX10_foot_44 45 rfl ?_
    refine rn_iload hX dX10_foot_45 5 rfl 47 rfl ?_
    refine rn_bind (fun u4 hu4 => ?_)
    refine rn_callS0 hX (gS mcC wd_715 wd_716 wd_70 wd_717) rfl hdS_X10_lowest rfl rfl ⟨Nat.le_of_ble_eq_true rfl, Nat.le_of_ble_eq_true rfl⟩ (c_X10_lowest (zl Z) (zG Z) u2 ((2 : Int64) * u3.toInt64) x4 hu4) rfl [] rfl rfl rfl (Nat.le_of_ble_eq_true rfl) dX10_foot_47 50 rfl (S' := [.long u4]) rfl ⟨Nat.zero_le _, Nat.zero_le _⟩ ?_
    exact rn_lret hX hr (by rw [henc]; rfl) dX10_foot_50
  refine rn_lload hX dX10_foot_18 0 rfl 20 rfl ?_
  exact rn_lret hX hr (by rw [henc]; rfl) dX10_foot_20
abbrev rmX10_height : Room := { frames := 4, cells := 0, slots := 0, locals := 97 }
theorem hdV_X10_height : yX10_height.cls = RX10 ∧ yX10_height.cls ≠ "java/lang/invoke/MethodHandle" ∧ yX10_height.cls ≠ "java/lang/invoke/VarHandle" ∧ (parseMethodDescriptor yX10_height.desc).map (fun d => d.parameters.length) = some 4 := by decide +kernel
set_option maxHeartbeats 4000000 in
set_option maxRecDepth 100000 in
theorem c_X10_height (l : Launch) (G : GT) (a_this a_table a_table_squares a_tape a_reader a_way a_images a_sheets a_flaws a_sixthOf a_drawing a_naming : Nat) (g_lastFault : Int32) (g_lastTear : Int32) (g_table_places : Int32) (g_table_squares : (Nat → Int32)) (x1 : Int32) (x2 : Int32) (x3 : Int32) (x4 : Int32) {u : Int64} (hu : X10_height x1 x2 x3 x4 g_table_places g_table_squares = some u) : Ctr l G yX10_height wsX10_height rmX10_height [.ref a_this, .int x1, .int x2, .int x3, .int x4] [(a_this, .inr (10, [.ref a_tape, .ref a_reader, .ref a_table, .ref a_way, .ref a_images, .ref a_sheets, .ref a_flaws, .ref a_sixthOf, .ref a_drawing, .ref a_naming, .int g_lastFault, .int g_lastTear])), (a_table, .inr (8, [.int g_table_places, .ref a_table_squares])), (a_table_squares, .inl (G.2.1 1, 49, .inl g_table_squares))] (some (.long u)) [(a_this, .inr (10, [.ref a_tape, .ref a_reader, .ref a_table, .ref a_way, .ref a_images, .ref a_sheets, .ref a_flaws, .ref a_sixthOf, .ref a_drawing, .ref a_naming, .int g_lastFault, .int g_lastTear])), (a_table, .inr (8, [.int g_table_places, .ref a_table_squares])), (a_table_squares, .inl (G.2.1 1, 49, .inl g_table_squares))] := by
  obtain ⟨enc, henc⟩ : ∃ enc : (Int64) → Option Value × va_W, enc = fun u => (((some (.long u)) : Option Value), ([(a_this, .inr (10, [.ref a_tape, .ref a_reader, .ref a_table, .ref a_way, .ref a_images, .ref a_sheets, .ref a_flaws, .ref a_sixthOf, .ref a_drawing, .ref a_naming, .int g_lastFault, .int g_lastTear])), (a_table, .inr (8, [.int g_table_places, .ref a_table_squares])), (a_table_squares, .inl (G.2.1 1, 49, .inl g_table_squares))] : va_W)) := ⟨_, rfl⟩
  refine ctr_of (cc := cX10_height) (own := RX10) (E := Option.map enc) (o := X10_height x1 x2 x3 x4 g_table_places g_table_squares) (by decide) rfl rfl (L := [(0, .ref a_this), (1, .int x1), (2, .int x2), (3, .int x3), (4, .int x4)]) rfl (Nat.le_of_ble_eq_true rfl) (by rw [hu, henc]; rfl) ?_
  intro Z hX hl hG hr
  subst hl; subst hG
  have fl28 : (Cond.fieldLink RX10 28 "OnlyFar" "table" "LOnlyFar$Table;").before (za Z) (zs Z) = true := hX.wd (mcC _ wd_359)
  have kl220 : (Cond.constantLong RX10 220 (4)).before (za Z) (zs Z) = true := hX.wd (mcC _ wd_590)
  have inX10 : ∀ w ∈ u_ws RX10 TX10 12, w ∈ wsX10_height := fun w h => mcC w (inC_X10 w h)
  unfold X10_height
  refine rn_aload_n hX dX10_height_0 0 rfl 1 rfl ?_
  refine rn_iload_n hX dX10_height_1 1 rfl 2 rfl ?_
  refine rn_iload_n hX dX10_height_2 2 rfl 3 rfl ?_
  refine rn_iload_n hX dX10_height_3 3 rfl 4 rfl ?_
  refine rn_iload hX dX10_height_4 4 rfl 6 rfl ?_
  refine rn_bind (fun u1 hu1 => ?_)
  refine rn_callV0 hX (gV mcC wd_709 wd_711 wd_15 wd_70 wd_712) rfl hdV_X10_refusalOfThree rfl rfl ⟨Nat.le_of_ble_eq_true rfl, Nat.le_of_ble_eq_true rfl⟩ (c_X10_refusalOfThree (zl Z) (zG Z) a_this a_table a_table_squares a_tape a_reader a_way a_images a_sheets a_flaws a_sixthOf a_drawing a_naming g_lastFault g_lastTear g_table_places g_table_squares x1 x2 x3 x4 hu1) rfl [0, 1, 2] rfl rfl (ci := 10) rfl rfl rfl (Nat.le_of_ble_eq_true rfl) dX10_height_6 9 rfl (S' := [.long u1]) rfl ⟨Nat.zero_le _, Nat.zero_le _⟩ ?_
  refine rn_lstore hX dX10_height_9 (by decide) (L' := [(5, .long u1), (0, .ref a_this), (1, .int x1), (2, .int x2), (3, .int x3), (4, .int x4)]) rfl 11 rfl ?_
  refine rn_lload hX dX10_height_11 0 rfl 13 rfl ?_
  refine rn_lconst hX dX10_height_13 14 rfl lc_0 ?_
  refine rn_lcmp_eq hX dX10_height_14 15 rfl dX10_height_15 21 (by decide) 18 rfl ?_ ?_
  · refine rn_aload_n hX dX10_height_21 1 rfl 22 rfl ?_
    refine rn_get hX inX10 0 rfl rfl 2 (by decide) fl28 rfl rfl dX10_height_22 25 rfl ?_
    refine rn_iload_n hX dX10_height_25 2 rfl 26 rfl ?_
    refine rn_iload_n hX dX10_height_26 3 rfl 27 rfl ?_
    refine rn_iload_n hX dX10_height_27 4 rfl 28 rfl ?_
    refine rn_bind (fun u2 hu2 => ?_)
    refine rn_callV0 hX (gV mcC wd_583 wd_584 wd_585 wd_73 wd_586) rfl hdV_X8_wideOf rfl rfl ⟨Nat.le_of_ble_eq_true rfl, Nat.le_of_ble_eq_true rfl⟩ (c_X8_wideOf (zl Z) (zG Z) a_table a_table_squares g_table_places g_table_squares x1 x2 x3 hu2) rfl [1, 2] rfl rfl (ci := 8) rfl rfl rfl (Nat.le_of_ble_eq_true rfl) dX10_height_28 31 rfl (S' := [.long u2]) rfl ⟨Nat.zero_le _, Nat.zero_le _⟩ ?_
    refine rn_ldc2 hX kl220 dX10_height_31 34 rfl ?_
    refine rn_aload_n hX dX10_height_34 1 rfl 35 rfl ?_
    refine rn_get hX inX10 0 rfl rfl 2 (by decide) fl28 rfl rfl dX10_height_35 38 rfl ?_
    refine rn_iload_n hX dX10_height_38 2 rfl 39 rfl ?_
    refine rn_iload_n hX dX10_height_39 3 rfl 40 rfl ?_
    refine rn_bind (fun u3 hu3 => ?_)
    refine rn_callV0 hX (gV mcC wd_714 wd_512 wd_513 wd_73 wd_514) rfl hdV_X8_square rfl rfl ⟨Nat.le_of_ble_eq_true rfl, Nat.le_of_ble_eq_true rfl⟩ (c_X8_square (zl Z) (zG Z) a_table a_table_squares g_table_places g_table_squares x1 x2 hu3) rfl [1, 2] rfl rfl (ci := 8) rfl rfl rfl (Nat.le_of_ble_eq_true rfl) dX10_height_40 43 rfl (S' := [.int u3, .long (4 : Int64), .long u2]) rfl ⟨Nat.zero_le _, Nat.zero_le _⟩ ?_
    refine rn_i2l hX dX10_height_43 44 rfl ?_
    refine rn_lmul hX dX10_height_44 45 rfl ?_
    refine rn_iload hX dX10_height_45 5 rfl 47 rfl ?_
    refine rn_bind (fun u4 hu4 => ?_)
    refine rn_callS0 hX (gS mcC wd_715 wd_716 wd_70 wd_717) rfl hdS_X10_lowest rfl rfl ⟨Nat.le_of_ble_eq_true rfl, Nat.le_of_ble_eq_true rfl⟩ (c_X10_lowest (zl Z) (zG Z) u2 ((4 : Int64) * u3.toInt64) x4 hu4) rfl [] rfl rfl rfl (Nat.le_of_ble_eq_true rfl) dX10_height_47 50 rfl (S' := [.long u4]) rfl ⟨Nat.zero_le _, Nat.zero_le _⟩ ?_
    exact rn_lret hX hr (by rw [henc]; rfl) dX10_height_50
  refine rn_lload hX dX10_height_18 0 rfl 20 rfl ?_
  exact rn_lret hX hr (by rw [henc]; rfl) dX10_height_20
abbrev rmX10_round : Room := { frames := 4, cells := 0, slots := 0, locals := 97 }
theorem hdV_X10_round : yX10_round.cls = RX10 ∧ yX10_round.cls ≠ "java/lang/invoke/MethodHandle" ∧ yX10_round.cls ≠ "java/lang/invoke/VarHandle" ∧ (parseMethodDescriptor yX10_round.desc).map (fun d => d.parameters.length) = some 4 := by decide +kernel
set_option maxHeartbeats 4000000 in
set_option maxRecDepth 100000 in
theorem c_X10_round (l : Launch) (G : GT) (a_this a_table a_table_squares a_tape a_reader a_way a_images a_sheets a_flaws a_sixthOf a_drawing a_naming : Nat) (g_lastFault : Int32) (g_lastTear : Int32) (g_table_places : Int32) (g_table_squares : (Nat → Int32)) (x1 : Int32) (x2 : Int32) (x3 : Int32) (x4 : Int32) {u : Int64} (hu : X10_round x1 x2 x3 x4 g_table_places g_table_squares = some u) : Ctr l G yX10_round wsX10_round rmX10_round [.ref a_this, .int x1, .int x2, .int x3, .int x4] [(a_this, .inr (10, [.ref a_tape, .ref a_reader, .ref a_table, .ref a_way, .ref a_images, .ref a_sheets, .ref a_flaws, .ref a_sixthOf, .ref a_drawing, .ref a_naming, .int g_lastFault, .int g_lastTear])), (a_table, .inr (8, [.int g_table_places, .ref a_table_squares])), (a_table_squares, .inl (G.2.1 1, 49, .inl g_table_squares))] (some (.long u)) [(a_this, .inr (10, [.ref a_tape, .ref a_reader, .ref a_table, .ref a_way, .ref a_images, .ref a_sheets, .ref a_flaws, .ref a_sixthOf, .ref a_drawing, .ref a_naming, .int g_lastFault, .int g_lastTear])), (a_table, .inr (8, [.int g_table_places, .ref a_table_squares])), (a_table_squares, .inl (G.2.1 1, 49, .inl g_table_squares))] := by
  obtain ⟨enc, henc⟩ : ∃ enc : (Int64) → Option Value × va_W, enc = fun u => (((some (.long u)) : Option Value), ([(a_this, .inr (10, [.ref a_tape, .ref a_reader, .ref a_table, .ref a_way, .ref a_images, .ref a_sheets, .ref a_flaws, .ref a_sixthOf, .ref a_drawing, .ref a_naming, .int g_lastFault, .int g_lastTear])), (a_table, .inr (8, [.int g_table_places, .ref a_table_squares])), (a_table_squares, .inl (G.2.1 1, 49, .inl g_table_squares))] : va_W)) := ⟨_, rfl⟩
  refine ctr_of (cc := cX10_round) (own := RX10) (E := Option.map enc) (o := X10_round x1 x2 x3 x4 g_table_places g_table_squares) (by decide) rfl rfl (L := [(0, .ref a_this), (1, .int x1), (2, .int x2), (3, .int x3), (4, .int x4)]) rfl (Nat.le_of_ble_eq_true rfl) (by rw [hu, henc]; rfl) ?_
  intro Z hX hl hG hr
  subst hl; subst hG
  have fl28 : (Cond.fieldLink RX10 28 "OnlyFar" "table" "LOnlyFar$Table;").before (za Z) (zs Z) = true := hX.wd (mcC _ wd_359)
  have kl154 : (Cond.constantLong RX10 154 (-9000000001)).before (za Z) (zs Z) = true := hX.wd (mcC _ wd_591)
  have inX10 : ∀ w ∈ u_ws RX10 TX10 12, w ∈ wsX10_round := fun w h => mcC w (inC_X10 w h)
  unfold X10_round
  refine rn_aload_n hX dX10_round_0 0 rfl 1 rfl ?_
  refine rn_iload_n hX dX10_round_1 1 rfl 2 rfl ?_
  refine rn_iload_n hX dX10_round_2 2 rfl 3 rfl ?_
  refine rn_iload_n hX dX10_round_3 3 rfl 4 rfl ?_
  refine rn_iload hX dX10_round_4 4 rfl 6 rfl ?_
  refine rn_bind (fun u1 hu1 => ?_)
  refine rn_callV0 hX (gV mcC wd_709 wd_711 wd_15 wd_70 wd_712) rfl hdV_X10_refusalOfThree rfl rfl ⟨Nat.le_of_ble_eq_true rfl, Nat.le_of_ble_eq_true rfl⟩ (c_X10_refusalOfThree (zl Z) (zG Z) a_this a_table a_table_squares a_tape a_reader a_way a_images a_sheets a_flaws a_sixthOf a_drawing a_naming g_lastFault g_lastTear g_table_places g_table_squares x1 x2 x3 x4 hu1) rfl [0, 1, 2] rfl rfl (ci := 10) rfl rfl rfl (Nat.le_of_ble_eq_true rfl) dX10_round_6 9 rfl (S' := [.long u1]) rfl ⟨Nat.zero_le _, Nat.zero_le _⟩ ?_
  refine rn_lstore hX dX10_round_9 (by decide) (L' := [(5, .long u1), (0, .ref a_this), (1, .int x1), (2, .int x2), (3, .int x3), (4, .int x4)]) rfl 11 rfl ?_
  refine rn_lload hX dX10_round_11 0 rfl 13 rfl ?_
  refine rn_lconst hX dX10_round_13 14 rfl lc_0 ?_
  refine rn_lcmp_eq hX dX10_round_14 15 rfl dX10_round_15 21 (by decide) 18 rfl ?_ ?_
  · refine rn_aload_n hX dX10_round_21 1 rfl 22 rfl ?_
    refine rn_get hX inX10 0 rfl rfl 2 (by decide) fl28 rfl rfl dX10_round_22 25 rfl ?_
    refine rn_iload_n hX dX10_round_25 2 rfl 26 rfl ?_
    refine rn_iload_n hX dX10_round_26 3 rfl 27 rfl ?_
    refine rn_iload_n hX dX10_round_27 4 rfl 28 rfl ?_
    refine rn_bind (fun u2 hu2 => ?_)
    refine rn_callV0 hX (gV mcC wd_583 wd_584 wd_585 wd_73 wd_586) rfl hdV_X8_wideOf rfl rfl ⟨Nat.le_of_ble_eq_true rfl, Nat.le_of_ble_eq_true rfl⟩ (c_X8_wideOf (zl Z) (zG Z) a_table a_table_squares g_table_places g_table_squares x1 x2 x3 hu2) rfl [1, 2] rfl rfl (ci := 8) rfl rfl rfl (Nat.le_of_ble_eq_true rfl) dX10_round_28 31 rfl (S' := [.long u2]) rfl ⟨Nat.zero_le _, Nat.zero_le _⟩ ?_
    refine rn_lstore hX dX10_round_31 (by decide) (L' := [(7, .long u2), (5, .long u1), (0, .ref a_this), (1, .int x1), (2, .int x2), (3, .int x3), (4, .int x4)]) rfl 33 rfl ?_
    refine rn_lload hX dX10_round_33 0 rfl 35 rfl ?_
    refine rn_lconst hX dX10_round_35 36 rfl lc_0 ?_
    refine rn_lcmp_ne hX dX10_round_36 37 rfl dX10_round_37 44 (by decide) 40 rfl ?_ ?_
    · refine rn_aload_n hX dX10_round_44 2 rfl 45 rfl ?_
      refine rn_get hX inX10 0 rfl rfl 2 (by decide) fl28 rfl rfl dX10_round_45 48 rfl ?_
      refine rn_iload_n hX dX10_round_48 3 rfl 49 rfl ?_
      refine rn_iload_n hX dX10_round_49 4 rfl 50 rfl ?_
      refine rn_bind (fun u3 hu3 => ?_)
      refine rn_callV0 hX (gV mcC wd_714 wd_512 wd_513 wd_73 wd_514) rfl hdV_X8_square rfl rfl ⟨Nat.le_of_ble_eq_true rfl, Nat.le_of_ble_eq_true rfl⟩ (c_X8_square (zl Z) (zG Z) a_table a_table_squares g_table_places g_table_squares x1 x2 hu3) rfl [1, 2] rfl rfl (ci := 8) rfl rfl rfl (Nat.le_of_ble_eq_true rfl) dX10_round_50 53 rfl (S' := [.int u3]) rfl ⟨Nat.zero_le _, Nat.zero_le _⟩ ?_
      refine rn_i2l hX dX10_round_53 54 rfl ?_
      refine rn_aload_n hX dX10_round_54 2 rfl 55 rfl ?_
      refine rn_get hX inX10 0 rfl rfl 2 (by decide) fl28 rfl rfl dX10_round_55 58 rfl ?_
      refine rn_iload_n hX dX10_round_58 3 rfl 59 rfl ?_
      refine rn_iload_n hX dX10_round_59 5 rfl 60 rfl ?_
      refine rn_bind (fun u4 hu4 => ?_)
      refine rn_callV0 hX (gV mcC wd_714 wd_512 wd_513 wd_73 wd_514) rfl hdV_X8_square rfl rfl ⟨Nat.le_of_ble_eq_true rfl, Nat.le_of_ble_eq_true rfl⟩ (c_X8_square (zl Z) (zG Z) a_table a_table_squares g_table_places g_table_squares x1 x3 hu4) rfl [1, 2] rfl rfl (ci := 8) rfl rfl rfl (Nat.le_of_ble_eq_true rfl) dX10_round_60 63 rfl (S' := [.int u4, .long u3.toInt64]) rfl ⟨Nat.zero_le _, Nat.zero_le _⟩ ?_
      refine rn_i2l hX dX10_round_63 64 rfl ?_
      refine rn_lmul hX dX10_round_64 65 rfl ?_
      refine rn_aload_n hX dX10_round_65 2 rfl 66 rfl ?_
      refine rn_get hX inX10 0 rfl rfl 2 (by decide) fl28 rfl rfl dX10_round_66 69 rfl ?_
      refine rn_iload_n hX dX10_round_69 4 rfl 70 rfl ?_
      refine rn_iload_n hX dX10_round_70 5 rfl 71 rfl ?_
      refine rn_bind (fun u5 hu5 => ?_)
      refine rn_callV0 hX (gV mcC wd_714 wd_512 wd_513 wd_73 wd_514) rfl hdV_X8_square rfl rfl ⟨Nat.le_of_ble_eq_true rfl, Nat.le_of_ble_eq_true rfl⟩ (c_X8_square (zl Z) (zG Z) a_table a_table_squares g_table_places g_table_squares x2 x3 hu5) rfl [1, 2] rfl rfl (ci := 8) rfl rfl rfl (Nat.le_of_ble_eq_true rfl) dX10_round_71 74 rfl (S' := [.int u5, .long (u3.toInt64 * u4.toInt64)]) rfl ⟨Nat.zero_le _, Nat.zero_le _⟩ ?_
      refine rn_i2l hX dX10_round_74 75 rfl ?_
      refine rn_lmul hX dX10_round_75 76 rfl ?_
      refine rn_latl (fun v6 => ?_)
      refine rn_lstore hX dX10_round_76 (by decide) (L' := [(9, .long v6), (7, .long u2), (5, .long u1), (0, .ref a_this), (1, .int x1), (2, .int x2), (3, .int x3), (4, .int x4)]) rfl 78 rfl ?_
      refine rn_lload hX dX10_round_78 0 rfl 80 rfl ?_
      refine rn_lload hX dX10_round_80 1 rfl 82 rfl ?_
      refine rn_iload hX dX10_round_82 7 rfl 84 rfl ?_
      refine rn_bind (fun u7 hu7 => ?_)
      refine rn_callS0 hX (gS mcC wd_715 wd_716 wd_70 wd_717) rfl hdS_X10_lowest rfl rfl ⟨Nat.le_of_ble_eq_true rfl, Nat.le_of_ble_eq_true rfl⟩ (c_X10_lowest (zl Z) (zG Z) v6 u2 x4 hu7) rfl [] rfl rfl rfl (Nat.le_of_ble_eq_true rfl) dX10_round_84 87 rfl (S' := [.long u7]) rfl ⟨Nat.zero_le _, Nat.zero_le _⟩ ?_
      exact rn_lret hX hr (by rw [henc]; rfl) dX10_round_87
    refine rn_ldc2 hX kl154 dX10_round_40 43 rfl ?_
    exact rn_lret hX hr (by rw [henc]; rfl) dX10_round_43
  refine rn_lload hX dX10_round_18 0 rfl 20 rfl ?_
  exact rn_lret hX hr (by rw [henc]; rfl) dX10_round_20
abbrev rmX10_side : Room := { frames := 4, cells := 0, slots := 0, locals := 105 }
theorem hdV_X10_side : yX10_side.cls = RX10 ∧ yX10_side.cls ≠ "java/lang/invoke/MethodHandle" ∧ yX10_side.cls ≠ "java/lang/invoke/VarHandle" ∧ (parseMethodDescriptor yX10_side.desc).map (fun d => d.parameters.length) = some 4 := by decide +kernel
set_option maxHeartbeats 4000000 in
set_option maxRecDepth 100000 in
theorem c_X10_side (l : Launch) (G : GT) (a_this a_table a_table_squares a_tape a_reader a_way a_images a_sheets a_flaws a_sixthOf a_drawing a_naming : Nat) (g_lastFault : Int32) (g_lastTear : Int32) (g_table_places : Int32) (g_table_squares : (Nat → Int32)) (x1 : Int32) (x2 : Int32) (x3 : Int32) (x4 : Int32) {u : Int32} (hu : X10_side x1 x2 x3 x4 g_table_places g_table_squares = some u) : Ctr l G yX10_side wsX10_side rmX10_side [.ref a_this, .int x1, .int x2, .int x3, .int x4] [(a_this, .inr (10, [.ref a_tape, .ref a_reader, .ref a_table, .ref a_way, .ref a_images, .ref a_sheets, .ref a_flaws, .ref a_sixthOf, .ref a_drawing, .ref a_naming, .int g_lastFault, .int g_lastTear])), (a_table, .inr (8, [.int g_table_places, .ref a_table_squares])), (a_table_squares, .inl (G.2.1 1, 49, .inl g_table_squares))] (some (.int u)) [(a_this, .inr (10, [.ref a_tape, .ref a_reader, .ref a_table, .ref a_way, .ref a_images, .ref a_sheets, .ref a_flaws, .ref a_sixthOf, .ref a_drawing, .ref a_naming, .int g_lastFault, .int g_lastTear])), (a_table, .inr (8, [.int g_table_places, .ref a_table_squares])), (a_table_squares, .inl (G.2.1 1, 49, .inl g_table_squares))] := by
  obtain ⟨enc, henc⟩ : ∃ enc : (Int32) → Option Value × va_W, enc = fun u => (((some (.int u)) : Option Value), ([(a_this, .inr (10, [.ref a_tape, .ref a_reader, .ref a_table, .ref a_way, .ref a_images, .ref a_sheets, .ref a_flaws, .ref a_sixthOf, .ref a_drawing, .ref a_naming, .int g_lastFault, .int g_lastTear])), (a_table, .inr (8, [.int g_table_places, .ref a_table_squares])), (a_table_squares, .inl (G.2.1 1, 49, .inl g_table_squares))] : va_W)) := ⟨_, rfl⟩
  refine ctr_of (cc := cX10_side) (own := RX10) (E := Option.map enc) (o := X10_side x1 x2 x3 x4 g_table_places g_table_squares) (by decide) rfl rfl (L := [(0, .ref a_this), (1, .int x1), (2, .int x2), (3, .int x3), (4, .int x4)]) rfl (Nat.le_of_ble_eq_true rfl) (by rw [hu, henc]; rfl) ?_
  intro Z hX hl hG hr
  subst hl; subst hG
  have fl28 : (Cond.fieldLink RX10 28 "OnlyFar" "table" "LOnlyFar$Table;").before (za Z) (zs Z) = true := hX.wd (mcC _ wd_359)
  have inX10 : ∀ w ∈ u_ws RX10 TX10 12, w ∈ wsX10_side := fun w h => mcC w (inC_X10 w h)
  unfold X10_side
  refine rn_aload_n hX dX10_side_0 0 rfl 1 rfl ?_
  refine rn_get hX inX10 0 rfl rfl 2 (by decide) fl28 rfl rfl dX10_side_1 4 rfl ?_
  refine rn_iload_n hX dX10_side_4 1 rfl 5 rfl ?_
  refine rn_iload_n hX dX10_side_5 2 rfl 6 rfl ?_
  refine rn_iload_n hX dX10_side_6 3 rfl 7 rfl ?_
  refine rn_iload hX dX10_side_7 4 rfl 9 rfl ?_
  refine rn_callV0 hX (gV mcC wd_608 wd_609 wd_610 wd_73 wd_611) rfl hdV_X8_areFour rfl rfl ⟨Nat.le_of_ble_eq_true rfl, Nat.le_of_ble_eq_true rfl⟩ (c_X8_areFour (zl Z) (zG Z) a_table a_table_squares g_table_places x1 x2 x3 x4 rfl) rfl [1] rfl rfl (ci := 8) rfl rfl rfl (Nat.le_of_ble_eq_true rfl) dX10_side_9 12 rfl (S' := [.int (X8_areFour x1 x2 x3 x4 g_table_places)]) rfl ⟨Nat.zero_le _, Nat.zero_le _⟩ ?_
  refine rn_if_ne hX dX10_side_12 17 (by decide) 15 rfl ?_ ?_
  · refine rn_aload_n hX dX10_side_17 0 rfl 18 rfl ?_
    refine rn_get hX inX10 0 rfl rfl 2 (by decide) fl28 rfl rfl dX10_side_18 21 rfl ?_
    refine rn_iload_n hX dX10_side_21 1 rfl 22 rfl ?_
    refine rn_iload_n hX dX10_side_22 2 rfl 23 rfl ?_
    refine rn_iload_n hX dX10_side_23 3 rfl 24 rfl ?_
    refine rn_iload hX dX10_side_24 4 rfl 26 rfl ?_
    refine rn_bind (fun u1 hu1 => ?_)
    refine rn_callV0 hX (gV mcC wd_613 wd_614 wd_615 wd_73 wd_616) rfl hdV_X8_isToldFour rfl rfl ⟨Nat.le_of_ble_eq_true rfl, Nat.le_of_ble_eq_true rfl⟩ (c_X8_isToldFour (zl Z) (zG Z) a_table a_table_squares g_table_places g_table_squares x1 x2 x3 x4 hu1) rfl [1, 2] rfl rfl (ci := 8) rfl rfl rfl (Nat.le_of_ble_eq_true rfl) dX10_side_26 29 rfl (S' := [.int u1]) rfl ⟨Nat.zero_le _, Nat.zero_le _⟩ ?_
    refine rn_if_eq hX dX10_side_29 47 (by decide) 32 rfl ?_ ?_
    · refine rn_bipush hX dX10_side_47 49 rfl bp_m2 ?_
      exact rn_iret hX hr (by rw [henc]; rfl) dX10_side_49
    refine rn_aload_n hX dX10_side_32 0 rfl 33 rfl ?_
    refine rn_get hX inX10 0 rfl rfl 2 (by decide) fl28 rfl rfl dX10_side_33 36 rfl ?_
    refine rn_iload_n hX dX10_side_36 1 rfl 37 rfl ?_
    refine rn_iload_n hX dX10_side_37 2 rfl 38 rfl ?_
    refine rn_iload_n hX dX10_side_38 3 rfl 39 rfl ?_
    refine rn_iload hX dX10_side_39 4 rfl 41 rfl ?_
    refine rn_bind (fun u2 hu2 => ?_)
    refine rn_callV0 hX (gV mcC wd_618 wd_619 wd_620 wd_73 wd_621) rfl hdV_X8_canBeFour rfl rfl ⟨Nat.le_of_ble_eq_true rfl, Nat.le_of_ble_eq_true rfl⟩ (c_X8_canBeFour (zl Z) (zG Z) a_table a_table_squares g_table_places g_table_squares x1 x2 x3 x4 hu2) rfl [1, 2] rfl rfl (ci := 8) rfl rfl rfl (Nat.le_of_ble_eq_true rfl) dX10_side_41 44 rfl (S' := [.int u2]) rfl ⟨Nat.zero_le _, Nat.zero_le _⟩ ?_
    refine rn_if_ne hX dX10_side_44 50 (by decide) 47 rfl ?_ ?_
    · refine rn_aload_n hX dX10_side_50 0 rfl 51 rfl ?_
      refine rn_get hX inX10 0 rfl rfl 2 (by decide) fl28 rfl rfl dX10_side_51 54 rfl ?_
      refine rn_iload_n hX dX10_side_54 1 rfl 55 rfl ?_
      refine rn_iload_n hX dX10_side_55 2 rfl 56 rfl ?_
      refine rn_iload_n hX dX10_side_56 3 rfl 57 rfl ?_
      refine rn_iload hX dX10_side_57 4 rfl 59 rfl ?_
      refine rn_bind (fun u3 hu3 => ?_)
      refine rn_callV0 hX (gV mcC wd_736 wd_737 wd_738 wd_73 wd_739) rfl hdV_X8_sideSign rfl rfl ⟨Nat.le_of_ble_eq_true rfl, Nat.le_of_ble_eq_true rfl⟩ (c_X8_sideSign (zl Z) (zG Z) a_table a_table_squares g_table_places g_table_squares x1 x2 x3 x4 hu3) rfl [1, 2] rfl rfl (ci := 8) rfl rfl rfl (Nat.le_of_ble_eq_true rfl) dX10_side_59 62 rfl (S' := [.int u3]) rfl ⟨Nat.zero_le _, Nat.zero_le _⟩ ?_
      refine rn_istore hX dX10_side_62 (by decide) (L' := [(5, .int u3), (0, .ref a_this), (1, .int x1), (2, .int x2), (3, .int x3), (4, .int x4)]) rfl 64 rfl ?_
      refine rn_iload hX dX10_side_64 0 rfl 66 rfl ?_
      refine rn_if_ge hX dX10_side_66 74 (by decide) 69 rfl ?_ ?_
      · refine rn_iload hX dX10_side_74 0 rfl 76 rfl ?_
        exact rn_iret hX hr (by rw [henc]; rfl) dX10_side_76
      refine rn_bipush hX dX10_side_69 71 rfl bp_m5 ?_
      refine rn_goto hX dX10_side_71 76 (by decide) ?_
      exact rn_iret hX hr (by rw [henc]; rfl) dX10_side_76
    refine rn_bipush hX dX10_side_47 49 rfl bp_m2 ?_
    exact rn_iret hX hr (by rw [henc]; rfl) dX10_side_49
  refine rn_iconst hX dX10_side_15 16 rfl ic_m1 ?_
  exact rn_iret hX hr (by rw [henc]; rfl) dX10_side_16
abbrev rmX10_within : Room := { frames := 4, cells := 0, slots := 0, locals := 105 }
theorem hdV_X10_within : yX10_within.cls = RX10 ∧ yX10_within.cls ≠ "java/lang/invoke/MethodHandle" ∧ yX10_within.cls ≠ "java/lang/invoke/VarHandle" ∧ (parseMethodDescriptor yX10_within.desc).map (fun d => d.parameters.length) = some 4 := by decide +kernel
set_option maxHeartbeats 4000000 in
set_option maxRecDepth 100000 in
theorem c_X10_within (l : Launch) (G : GT) (a_this a_table a_table_squares a_tape a_reader a_way a_images a_sheets a_flaws a_sixthOf a_drawing a_naming : Nat) (g_lastFault : Int32) (g_lastTear : Int32) (g_table_places : Int32) (g_table_squares : (Nat → Int32)) (x1 : Int32) (x2 : Int32) (x3 : Int32) (x4 : Int32) {u : Int32} (hu : X10_within x1 x2 x3 x4 g_table_places g_table_squares = some u) : Ctr l G yX10_within wsX10_within rmX10_within [.ref a_this, .int x1, .int x2, .int x3, .int x4] [(a_this, .inr (10, [.ref a_tape, .ref a_reader, .ref a_table, .ref a_way, .ref a_images, .ref a_sheets, .ref a_flaws, .ref a_sixthOf, .ref a_drawing, .ref a_naming, .int g_lastFault, .int g_lastTear])), (a_table, .inr (8, [.int g_table_places, .ref a_table_squares])), (a_table_squares, .inl (G.2.1 1, 49, .inl g_table_squares))] (some (.int u)) [(a_this, .inr (10, [.ref a_tape, .ref a_reader, .ref a_table, .ref a_way, .ref a_images, .ref a_sheets, .ref a_flaws, .ref a_sixthOf, .ref a_drawing, .ref a_naming, .int g_lastFault, .int g_lastTear])), (a_table, .inr (8, [.int g_table_places, .ref a_table_squares])), (a_table_squares, .inl (G.2.1 1, 49, .inl g_table_squares))] := by
  obtain ⟨enc, henc⟩ : ∃ enc : (Int32) → Option Value × va_W, enc = fun u => (((some (.int u)) : Option Value), ([(a_this, .inr (10, [.ref a_tape, .ref a_reader, .ref a_table, .ref a_way, .ref a_images, .ref a_sheets, .ref a_flaws, .ref a_sixthOf, .ref a_drawing, .ref a_naming, .int g_lastFault, .int g_lastTear])), (a_table, .inr (8, [.int g_table_places, .ref a_table_squares])), (a_table_squares, .inl (G.2.1 1, 49, .inl g_table_squares))] : va_W)) := ⟨_, rfl⟩
  refine ctr_of (cc := cX10_within) (own := RX10) (E := Option.map enc) (o := X10_within x1 x2 x3 x4 g_table_places g_table_squares) (by decide) rfl rfl (L := [(0, .ref a_this), (1, .int x1), (2, .int x2), (3, .int x3), (4, .int x4)]) rfl (Nat.le_of_ble_eq_true rfl) (by rw [hu, henc]; rfl) ?_
  intro Z hX hl hG hr
  subst hl; subst hG
  have fl28 : (Cond.fieldLink RX10 28 "OnlyFar" "table" "LOnlyFar$Table;").before (za Z) (zs Z) = true := hX.wd (mcC _ wd_359)
  have inX10 : ∀ w ∈ u_ws RX10 TX10 12, w ∈ wsX10_within := fun w h => mcC w (inC_X10 w h)
  have hJ115 : ∀ (s0 : Int32), Rn Z 5 (Option.map enc) 0 0 115 [] [.int s0] [(a_this, .inr (10, [.ref a_tape, .ref a_reader, .ref a_table, .ref a_way, .ref a_images, .ref a_sheets, .ref a_flaws, .ref a_sixthOf, .ref a_drawing, .ref a_naming, .int g_lastFault, .int g_lastTear])), (a_table, .inr (8, [.int g_table_places, .ref a_table_squares])), (a_table_squares, .inl ((zG Z).2.1 1, 49, .inl g_table_squares))] (X10_within_J115 s0) := by
    intro s0
    unfold X10_within_J115
    refine rn_callS0 hX (gS mcC wd_601 wd_602 wd_70 wd_603) rfl hdS_X10_bit rfl rfl ⟨Nat.le_of_ble_eq_true rfl, Nat.le_of_ble_eq_true rfl⟩ (c_X10_bit (zl Z) (zG Z) s0 rfl) rfl [] rfl rfl rfl (Nat.le_of_ble_eq_true rfl) dX10_within_115 118 rfl (S' := [.int (X10_bit s0)]) rfl ⟨Nat.zero_le _, Nat.zero_le _⟩ ?_
    exact rn_iret hX hr (by rw [henc]; rfl) dX10_within_118
  have hJ114 : Rn Z 5 (Option.map enc) 0 0 114 [] [] [(a_this, .inr (10, [.ref a_tape, .ref a_reader, .ref a_table, .ref a_way, .ref a_images, .ref a_sheets, .ref a_flaws, .ref a_sixthOf, .ref a_drawing, .ref a_naming, .int g_lastFault, .int g_lastTear])), (a_table, .inr (8, [.int g_table_places, .ref a_table_squares])), (a_table_squares, .inl ((zG Z).2.1 1, 49, .inl g_table_squares))] (X10_within_J114) := by
    unfold X10_within_J114
    refine rn_iconst hX dX10_within_114 115 rfl ic_0 ?_
    exact hJ115 (0 : Int32)
  unfold X10_within
  refine rn_aload_n hX dX10_within_0 0 rfl 1 rfl ?_
  refine rn_get hX inX10 0 rfl rfl 2 (by decide) fl28 rfl rfl dX10_within_1 4 rfl ?_
  refine rn_iload_n hX dX10_within_4 1 rfl 5 rfl ?_
  refine rn_iload_n hX dX10_within_5 2 rfl 6 rfl ?_
  refine rn_iload_n hX dX10_within_6 3 rfl 7 rfl ?_
  refine rn_iload hX dX10_within_7 4 rfl 9 rfl ?_
  refine rn_callV0 hX (gV mcC wd_608 wd_609 wd_610 wd_73 wd_611) rfl hdV_X8_areFour rfl rfl ⟨Nat.le_of_ble_eq_true rfl, Nat.le_of_ble_eq_true rfl⟩ (c_X8_areFour (zl Z) (zG Z) a_table a_table_squares g_table_places x1 x2 x3 x4 rfl) rfl [1] rfl rfl (ci := 8) rfl rfl rfl (Nat.le_of_ble_eq_true rfl) dX10_within_9 12 rfl (S' := [.int (X8_areFour x1 x2 x3 x4 g_table_places)]) rfl ⟨Nat.zero_le _, Nat.zero_le _⟩ ?_
  refine rn_if_ne hX dX10_within_12 17 (by decide) 15 rfl ?_ ?_
  · refine rn_aload_n hX dX10_within_17 0 rfl 18 rfl ?_
    refine rn_get hX inX10 0 rfl rfl 2 (by decide) fl28 rfl rfl dX10_within_18 21 rfl ?_
    refine rn_iload_n hX dX10_within_21 1 rfl 22 rfl ?_
    refine rn_iload_n hX dX10_within_22 2 rfl 23 rfl ?_
    refine rn_iload_n hX dX10_within_23 3 rfl 24 rfl ?_
    refine rn_iload hX dX10_within_24 4 rfl 26 rfl ?_
    refine rn_bind (fun u1 hu1 => ?_)
    refine rn_callV0 hX (gV mcC wd_613 wd_614 wd_615 wd_73 wd_616) rfl hdV_X8_isToldFour rfl rfl ⟨Nat.le_of_ble_eq_true rfl, Nat.le_of_ble_eq_true rfl⟩ (c_X8_isToldFour (zl Z) (zG Z) a_table a_table_squares g_table_places g_table_squares x1 x2 x3 x4 hu1) rfl [1, 2] rfl rfl (ci := 8) rfl rfl rfl (Nat.le_of_ble_eq_true rfl) dX10_within_26 29 rfl (S' := [.int u1]) rfl ⟨Nat.zero_le _, Nat.zero_le _⟩ ?_
    refine rn_if_eq hX dX10_within_29 62 (by decide) 32 rfl ?_ ?_
    · refine rn_bipush hX dX10_within_62 64 rfl bp_m2 ?_
      exact rn_iret hX hr (by rw [henc]; rfl) dX10_within_64
    refine rn_aload_n hX dX10_within_32 0 rfl 33 rfl ?_
    refine rn_get hX inX10 0 rfl rfl 2 (by decide) fl28 rfl rfl dX10_within_33 36 rfl ?_
    refine rn_iload_n hX dX10_within_36 1 rfl 37 rfl ?_
    refine rn_iload_n hX dX10_within_37 2 rfl 38 rfl ?_
    refine rn_iload_n hX dX10_within_38 3 rfl 39 rfl ?_
    refine rn_iload hX dX10_within_39 4 rfl 41 rfl ?_
    refine rn_bind (fun u2 hu2 => ?_)
    refine rn_callV0 hX (gV mcC wd_618 wd_619 wd_620 wd_73 wd_621) rfl hdV_X8_canBeFour rfl rfl ⟨Nat.le_of_ble_eq_true rfl, Nat.le_of_ble_eq_true rfl⟩ (c_X8_canBeFour (zl Z) (zG Z) a_table a_table_squares g_table_places g_table_squares x1 x2 x3 x4 hu2) rfl [1, 2] rfl rfl (ci := 8) rfl rfl rfl (Nat.le_of_ble_eq_true rfl) dX10_within_41 44 rfl (S' := [.int u2]) rfl ⟨Nat.zero_le _, Nat.zero_le _⟩ ?_
    refine rn_if_eq hX dX10_within_44 62 (by decide) 47 rfl ?_ ?_
    · refine rn_bipush hX dX10_within_62 64 rfl bp_m2 ?_
      exact rn_iret hX hr (by rw [henc]; rfl) dX10_within_64
    refine rn_aload_n hX dX10_within_47 0 rfl 48 rfl ?_
    refine rn_get hX inX10 0 rfl rfl 2 (by decide) fl28 rfl rfl dX10_within_48 51 rfl ?_
    refine rn_iload_n hX dX10_within_51 1 rfl 52 rfl ?_
    refine rn_iload_n hX dX10_within_52 2 rfl 53 rfl ?_
    refine rn_iload_n hX dX10_within_53 3 rfl 54 rfl ?_
    refine rn_bind (fun u3 hu3 => ?_)
    refine rn_callV0 hX (gV mcC wd_583 wd_584 wd_585 wd_73 wd_586) rfl hdV_X8_wideOf rfl rfl ⟨Nat.le_of_ble_eq_true rfl, Nat.le_of_ble_eq_true rfl⟩ (c_X8_wideOf (zl Z) (zG Z) a_table a_table_squares g_table_places g_table_squares x1 x2 x3 hu3) rfl [1, 2] rfl rfl (ci := 8) rfl rfl rfl (Nat.le_of_ble_eq_true rfl) dX10_within_54 57 rfl (S' := [.long u3]) rfl ⟨Nat.zero_le _, Nat.zero_le _⟩ ?_
    refine rn_lconst hX dX10_within_57 58 rfl lc_0 ?_
    refine rn_lcmp_ne hX dX10_within_58 59 rfl dX10_within_59 65 (by decide) 62 rfl ?_ ?_
    · refine rn_aload_n hX dX10_within_65 0 rfl 66 rfl ?_
      refine rn_get hX inX10 0 rfl rfl 2 (by decide) fl28 rfl rfl dX10_within_66 69 rfl ?_
      refine rn_iload_n hX dX10_within_69 1 rfl 70 rfl ?_
      refine rn_iload_n hX dX10_within_70 2 rfl 71 rfl ?_
      refine rn_iload_n hX dX10_within_71 3 rfl 72 rfl ?_
      refine rn_iload hX dX10_within_72 4 rfl 74 rfl ?_
      refine rn_bind (fun u4 hu4 => ?_)
      refine rn_callV0 hX (gV mcC wd_736 wd_737 wd_738 wd_73 wd_739) rfl hdV_X8_sideSign rfl rfl ⟨Nat.le_of_ble_eq_true rfl, Nat.le_of_ble_eq_true rfl⟩ (c_X8_sideSign (zl Z) (zG Z) a_table a_table_squares g_table_places g_table_squares x1 x2 x3 x4 hu4) rfl [1, 2] rfl rfl (ci := 8) rfl rfl rfl (Nat.le_of_ble_eq_true rfl) dX10_within_74 77 rfl (S' := [.int u4]) rfl ⟨Nat.zero_le _, Nat.zero_le _⟩ ?_
      refine rn_if_lt hX dX10_within_77 114 (by decide) 80 rfl ?_ ?_
      · refine rn_sub [] rfl ?_
        exact hJ114
      refine rn_aload_n hX dX10_within_80 0 rfl 81 rfl ?_
      refine rn_get hX inX10 0 rfl rfl 2 (by decide) fl28 rfl rfl dX10_within_81 84 rfl ?_
      refine rn_iload_n hX dX10_within_84 2 rfl 85 rfl ?_
      refine rn_iload_n hX dX10_within_85 3 rfl 86 rfl ?_
      refine rn_iload_n hX dX10_within_86 1 rfl 87 rfl ?_
      refine rn_iload hX dX10_within_87 4 rfl 89 rfl ?_
      refine rn_bind (fun u5 hu5 => ?_)
      refine rn_callV0 hX (gV mcC wd_736 wd_737 wd_738 wd_73 wd_739) rfl hdV_X8_sideSign rfl rfl ⟨Nat.le_of_ble_eq_true rfl, Nat.le_of_ble_eq_true rfl⟩ (c_X8_sideSign (zl Z) (zG Z) a_table a_table_squares g_table_places g_table_squares x2 x3 x1 x4 hu5) rfl [1, 2] rfl rfl (ci := 8) rfl rfl rfl (Nat.le_of_ble_eq_true rfl) dX10_within_89 92 rfl (S' := [.int u5]) rfl ⟨Nat.zero_le _, Nat.zero_le _⟩ ?_
      refine rn_if_lt hX dX10_within_92 114 (by decide) 95 rfl ?_ ?_
      · refine rn_sub [] rfl ?_
        exact hJ114
      refine rn_aload_n hX dX10_within_95 0 rfl 96 rfl ?_
      refine rn_get hX inX10 0 rfl rfl 2 (by decide) fl28 rfl rfl dX10_within_96 99 rfl ?_
      refine rn_iload_n hX dX10_within_99 1 rfl 100 rfl ?_
      refine rn_iload_n hX dX10_within_100 3 rfl 101 rfl ?_
      refine rn_iload_n hX dX10_within_101 2 rfl 102 rfl ?_
      refine rn_iload hX dX10_within_102 4 rfl 104 rfl ?_
      refine rn_bind (fun u6 hu6 => ?_)
      refine rn_callV0 hX (gV mcC wd_736 wd_737 wd_738 wd_73 wd_739) rfl hdV_X8_sideSign rfl rfl ⟨Nat.le_of_ble_eq_true rfl, Nat.le_of_ble_eq_true rfl⟩ (c_X8_sideSign (zl Z) (zG Z) a_table a_table_squares g_table_places g_table_squares x1 x3 x2 x4 hu6) rfl [1, 2] rfl rfl (ci := 8) rfl rfl rfl (Nat.le_of_ble_eq_true rfl) dX10_within_104 107 rfl (S' := [.int u6]) rfl ⟨Nat.zero_le _, Nat.zero_le _⟩ ?_
      refine rn_if_lt hX dX10_within_107 114 (by decide) 110 rfl ?_ ?_
      · refine rn_sub [] rfl ?_
        exact hJ114
      refine rn_iconst hX dX10_within_110 111 rfl ic_1 ?_
      refine rn_goto hX dX10_within_111 115 (by decide) ?_
      refine rn_sub [] rfl ?_
      exact hJ115 (1 : Int32)
    refine rn_bipush hX dX10_within_62 64 rfl bp_m2 ?_
    exact rn_iret hX hr (by rw [henc]; rfl) dX10_within_64
  refine rn_iconst hX dX10_within_15 16 rfl ic_m1 ?_
  exact rn_iret hX hr (by rw [henc]; rfl) dX10_within_16
abbrev rmX10_sixth : Room := { frames := 4, cells := 0, slots := 0, locals := 90 }
theorem hdV_X10_sixth : yX10_sixth.cls = RX10 ∧ yX10_sixth.cls ≠ "java/lang/invoke/MethodHandle" ∧ yX10_sixth.cls ≠ "java/lang/invoke/VarHandle" ∧ (parseMethodDescriptor yX10_sixth.desc).map (fun d => d.parameters.length) = some 5 := by decide +kernel
set_option maxHeartbeats 4000000 in
set_option maxRecDepth 100000 in
theorem c_X10_sixth (l : Launch) (G : GT) (a_this a_sixthOf a_table a_table_squares a_tape a_reader a_way a_images a_sheets a_flaws a_drawing a_naming : Nat) (g_lastFault : Int32) (g_lastTear : Int32) (g_sixthOf_middle : Int64) (g_sixthOf_spread : Int64) (g_sixthOf_divisor : Int64) (g_table_places : Int32) (g_table_squares : (Nat → Int32)) (x1 : Int32) (x2 : Int32) (x3 : Int32) (x4 : Int32) (x5 : Int32) {u : Int64 × Int64 × Int64 × Int64} (hu : X10_sixth x1 x2 x3 x4 x5 g_sixthOf_divisor g_sixthOf_middle g_sixthOf_spread g_table_places g_table_squares = some u) : Ctr l G yX10_sixth wsX10_sixth rmX10_sixth [.ref a_this, .int x1, .int x2, .int x3, .int x4, .int x5] [(a_this, .inr (10, [.ref a_tape, .ref a_reader, .ref a_table, .ref a_way, .ref a_images, .ref a_sheets, .ref a_flaws, .ref a_sixthOf, .ref a_drawing, .ref a_naming, .int g_lastFault, .int g_lastTear])), (a_sixthOf, .inr (7, [.long g_sixthOf_middle, .long g_sixthOf_spread, .long g_sixthOf_divisor])), (a_table, .inr (8, [.int g_table_places, .ref a_table_squares])), (a_table_squares, .inl (G.2.1 1, 49, .inl g_table_squares))] (some (.long u.1)) [(a_this, .inr (10, [.ref a_tape, .ref a_reader, .ref a_table, .ref a_way, .ref a_images, .ref a_sheets, .ref a_flaws, .ref a_sixthOf, .ref a_drawing, .ref a_naming, .int g_lastFault, .int g_lastTear])), (a_sixthOf, .inr (7, [.long u.2.2.1, .long u.2.2.2, .long u.2.1])), (a_table, .inr (8, [.int g_table_places, .ref a_table_squares])), (a_table_squares, .inl (G.2.1 1, 49, .inl g_table_squares))] := by
  obtain ⟨enc, henc⟩ : ∃ enc : (Int64 × Int64 × Int64 × Int64) → Option Value × va_W, enc = fun u => (((some (.long u.1)) : Option Value), ([(a_this, .inr (10, [.ref a_tape, .ref a_reader, .ref a_table, .ref a_way, .ref a_images, .ref a_sheets, .ref a_flaws, .ref a_sixthOf, .ref a_drawing, .ref a_naming, .int g_lastFault, .int g_lastTear])), (a_sixthOf, .inr (7, [.long u.2.2.1, .long u.2.2.2, .long u.2.1])), (a_table, .inr (8, [.int g_table_places, .ref a_table_squares])), (a_table_squares, .inl (G.2.1 1, 49, .inl g_table_squares))] : va_W)) := ⟨_, rfl⟩
  refine ctr_of (cc := cX10_sixth) (own := RX10) (E := Option.map enc) (o := X10_sixth x1 x2 x3 x4 x5 g_sixthOf_divisor g_sixthOf_middle g_sixthOf_spread g_table_places g_table_squares) (by decide) rfl rfl (L := [(0, .ref a_this), (1, .int x1), (2, .int x2), (3, .int x3), (4, .int x4), (5, .int x5)]) rfl (Nat.le_of_ble_eq_true rfl) (by rw [hu, henc]; rfl) ?_
  intro Z hX hl hG hr
  subst hl; subst hG
  have fl230 : (Cond.fieldLink RX10 230 "OnlyFar$Sixth" "middle" "J").before (za Z) (zs Z) = true := hX.wd (mcC _ wd_278)
  have fl234 : (Cond.fieldLink RX10 234 "OnlyFar$Sixth" "spread" "J").before (za Z) (zs Z) = true := hX.wd (mcC _ wd_281)
  have fl237 : (Cond.fieldLink RX10 237 "OnlyFar$Sixth" "divisor" "J").before (za Z) (zs Z) = true := hX.wd (mcC _ wd_284)
  have fl28 : (Cond.fieldLink RX10 28 "OnlyFar" "table" "LOnlyFar$Table;").before (za Z) (zs Z) = true := hX.wd (mcC _ wd_359)
  have fl63 : (Cond.fieldLink RX10 63 "OnlyFar" "sixthOf" "LOnlyFar$Sixth;").before (za Z) (zs Z) = true := hX.wd (mcC _ wd_364)
  have kl145 : (Cond.constantLong RX10 145 (-9000000000)).before (za Z) (zs Z) = true := hX.wd (mcC _ wd_578)
  have kl154 : (Cond.constantLong RX10 154 (-9000000001)).before (za Z) (zs Z) = true := hX.wd (mcC _ wd_591)
  have inX10 : ∀ w ∈ u_ws RX10 TX10 12, w ∈ wsX10_sixth := fun w h => mcC w (inC_X10 w h)
  have inX7 : ∀ w ∈ u_ws RX7 TX7 3, w ∈ wsX10_sixth := fun w h => mcC w (inC_X7 w h)
  have hJ175 : ∀ (s1 : Int32) (g_sixthOf_divisor : Int64) (g_sixthOf_middle : Int64) (g_sixthOf_spread : Int64), Rn Z 6 (Option.map enc) 0 0 175 [] [.int s1, .ref a_sixthOf] [(a_this, .inr (10, [.ref a_tape, .ref a_reader, .ref a_table, .ref a_way, .ref a_images, .ref a_sheets, .ref a_flaws, .ref a_sixthOf, .ref a_drawing, .ref a_naming, .int g_lastFault, .int g_lastTear])), (a_sixthOf, .inr (7, [.long g_sixthOf_middle, .long g_sixthOf_spread, .long g_sixthOf_divisor])), (a_table, .inr (8, [.int g_table_places, .ref a_table_squares])), (a_table_squares, .inl ((zG Z).2.1 1, 49, .inl g_table_squares))] (X10_sixth_J175 s1 g_sixthOf_divisor g_sixthOf_middle g_sixthOf_spread) := by
    intro s1 g_sixthOf_divisor g_sixthOf_middle g_sixthOf_spread
    unfold X10_sixth_J175
    refine rn_bind (fun u1 hu1 => ?_)
    refine rn_callV0 hX (gV mcC wd_759 wd_760 wd_761 wd_78 wd_762) rfl hdV_X7_wholeLength rfl rfl ⟨Nat.le_of_ble_eq_true rfl, Nat.le_of_ble_eq_true rfl⟩ (c_X7_wholeLength (zl Z) (zG Z) a_sixthOf g_sixthOf_middle g_sixthOf_spread g_sixthOf_divisor s1 hu1) rfl [1] rfl rfl (ci := 7) rfl rfl rfl (Nat.le_of_ble_eq_true rfl) dX10_sixth_175 178 rfl (S' := [.long u1]) rfl ⟨Nat.zero_le _, Nat.zero_le _⟩ ?_
    exact rn_lret hX hr (by rw [henc]; rfl) dX10_sixth_178
  unfold X10_sixth
  refine rn_aload_n hX dX10_sixth_0 0 rfl 1 rfl ?_
  refine rn_get hX inX10 0 rfl rfl 2 (by decide) fl28 rfl rfl dX10_sixth_1 4 rfl ?_
  refine rn_iload_n hX dX10_sixth_4 1 rfl 5 rfl ?_
  refine rn_iload_n hX dX10_sixth_5 2 rfl 6 rfl ?_
  refine rn_iload_n hX dX10_sixth_6 3 rfl 7 rfl ?_
  refine rn_iload hX dX10_sixth_7 4 rfl 9 rfl ?_
  refine rn_callV0 hX (gV mcC wd_608 wd_609 wd_610 wd_73 wd_611) rfl hdV_X8_areFour rfl rfl ⟨Nat.le_of_ble_eq_true rfl, Nat.le_of_ble_eq_true rfl⟩ (c_X8_areFour (zl Z) (zG Z) a_table a_table_squares g_table_places x1 x2 x3 x4 rfl) rfl [2] rfl rfl (ci := 8) rfl rfl rfl (Nat.le_of_ble_eq_true rfl) dX10_sixth_9 12 rfl (S' := [.int (X8_areFour x1 x2 x3 x4 g_table_places)]) rfl ⟨Nat.zero_le _, Nat.zero_le _⟩ ?_
  refine rn_if_eq hX dX10_sixth_12 26 (by decide) 15 rfl ?_ ?_
  · refine rn_ldc2 hX kl145 dX10_sixth_26 29 rfl ?_
    exact rn_lret hX hr (by rw [henc]; rfl) dX10_sixth_29
  refine rn_iload hX dX10_sixth_15 5 rfl 17 rfl ?_
  refine rn_if_lt hX dX10_sixth_17 26 (by decide) 20 rfl ?_ ?_
  · refine rn_ldc2 hX kl145 dX10_sixth_26 29 rfl ?_
    exact rn_lret hX hr (by rw [henc]; rfl) dX10_sixth_29
  refine rn_iload hX dX10_sixth_20 5 rfl 22 rfl ?_
  refine rn_iconst hX dX10_sixth_22 23 rfl ic_4 ?_
  refine rn_icmp_le hX dX10_sixth_23 30 (by decide) 26 rfl ?_ ?_
  · refine rn_aload_n hX dX10_sixth_30 0 rfl 31 rfl ?_
    refine rn_get hX inX10 0 rfl rfl 2 (by decide) fl28 rfl rfl dX10_sixth_31 34 rfl ?_
    refine rn_iload_n hX dX10_sixth_34 1 rfl 35 rfl ?_
    refine rn_iload_n hX dX10_sixth_35 3 rfl 36 rfl ?_
    refine rn_iload hX dX10_sixth_36 4 rfl 38 rfl ?_
    refine rn_bind (fun u2 hu2 => ?_)
    refine rn_callV0 hX (gV mcC wd_579 wd_580 wd_581 wd_73 wd_582) rfl hdV_X8_isToldThree rfl rfl ⟨Nat.le_of_ble_eq_true rfl, Nat.le_of_ble_eq_true rfl⟩ (c_X8_isToldThree (zl Z) (zG Z) a_table a_table_squares g_table_places g_table_squares x1 x3 x4 hu2) rfl [2, 3] rfl rfl (ci := 8) rfl rfl rfl (Nat.le_of_ble_eq_true rfl) dX10_sixth_38 41 rfl (S' := [.int u2]) rfl ⟨Nat.zero_le _, Nat.zero_le _⟩ ?_
    refine rn_if_eq hX dX10_sixth_41 86 (by decide) 44 rfl ?_ ?_
    · refine rn_ldc2 hX kl154 dX10_sixth_86 89 rfl ?_
      exact rn_lret hX hr (by rw [henc]; rfl) dX10_sixth_89
    refine rn_aload_n hX dX10_sixth_44 0 rfl 45 rfl ?_
    refine rn_get hX inX10 0 rfl rfl 2 (by decide) fl28 rfl rfl dX10_sixth_45 48 rfl ?_
    refine rn_iload_n hX dX10_sixth_48 2 rfl 49 rfl ?_
    refine rn_iload_n hX dX10_sixth_49 3 rfl 50 rfl ?_
    refine rn_iload hX dX10_sixth_50 4 rfl 52 rfl ?_
    refine rn_bind (fun u3 hu3 => ?_)
    refine rn_callV0 hX (gV mcC wd_579 wd_580 wd_581 wd_73 wd_582) rfl hdV_X8_isToldThree rfl rfl ⟨Nat.le_of_ble_eq_true rfl, Nat.le_of_ble_eq_true rfl⟩ (c_X8_isToldThree (zl Z) (zG Z) a_table a_table_squares g_table_places g_table_squares x2 x3 x4 hu3) rfl [2, 3] rfl rfl (ci := 8) rfl rfl rfl (Nat.le_of_ble_eq_true rfl) dX10_sixth_52 55 rfl (S' := [.int u3]) rfl ⟨Nat.zero_le _, Nat.zero_le _⟩ ?_
    refine rn_if_eq hX dX10_sixth_55 86 (by decide) 58 rfl ?_ ?_
    · refine rn_ldc2 hX kl154 dX10_sixth_86 89 rfl ?_
      exact rn_lret hX hr (by rw [henc]; rfl) dX10_sixth_89
    refine rn_aload_n hX dX10_sixth_58 0 rfl 59 rfl ?_
    refine rn_get hX inX10 0 rfl rfl 2 (by decide) fl28 rfl rfl dX10_sixth_59 62 rfl ?_
    refine rn_iload_n hX dX10_sixth_62 1 rfl 63 rfl ?_
    refine rn_iload_n hX dX10_sixth_63 3 rfl 64 rfl ?_
    refine rn_iload hX dX10_sixth_64 4 rfl 66 rfl ?_
    refine rn_bind (fun u4 hu4 => ?_)
    refine rn_callV0 hX (gV mcC wd_596 wd_597 wd_598 wd_73 wd_599) rfl hdV_X8_canBeThree rfl rfl ⟨Nat.le_of_ble_eq_true rfl, Nat.le_of_ble_eq_true rfl⟩ (c_X8_canBeThree (zl Z) (zG Z) a_table a_table_squares g_table_places g_table_squares x1 x3 x4 hu4) rfl [2, 3] rfl rfl (ci := 8) rfl rfl rfl (Nat.le_of_ble_eq_true rfl) dX10_sixth_66 69 rfl (S' := [.int u4]) rfl ⟨Nat.zero_le _, Nat.zero_le _⟩ ?_
    refine rn_if_eq hX dX10_sixth_69 86 (by decide) 72 rfl ?_ ?_
    · refine rn_ldc2 hX kl154 dX10_sixth_86 89 rfl ?_
      exact rn_lret hX hr (by rw [henc]; rfl) dX10_sixth_89
    refine rn_aload_n hX dX10_sixth_72 0 rfl 73 rfl ?_
    refine rn_get hX inX10 0 rfl rfl 2 (by decide) fl28 rfl rfl dX10_sixth_73 76 rfl ?_
    refine rn_iload_n hX dX10_sixth_76 2 rfl 77 rfl ?_
    refine rn_iload_n hX dX10_sixth_77 3 rfl 78 rfl ?_
    refine rn_iload hX dX10_sixth_78 4 rfl 80 rfl ?_
    refine rn_bind (fun u5 hu5 => ?_)
    refine rn_callV0 hX (gV mcC wd_596 wd_597 wd_598 wd_73 wd_599) rfl hdV_X8_canBeThree rfl rfl ⟨Nat.le_of_ble_eq_true rfl, Nat.le_of_ble_eq_true rfl⟩ (c_X8_canBeThree (zl Z) (zG Z) a_table a_table_squares g_table_places g_table_squares x2 x3 x4 hu5) rfl [2, 3] rfl rfl (ci := 8) rfl rfl rfl (Nat.le_of_ble_eq_true rfl) dX10_sixth_80 83 rfl (S' := [.int u5]) rfl ⟨Nat.zero_le _, Nat.zero_le _⟩ ?_
    refine rn_if_ne hX dX10_sixth_83 90 (by decide) 86 rfl ?_ ?_
    · refine rn_aload_n hX dX10_sixth_90 0 rfl 91 rfl ?_
      refine rn_get hX inX10 0 rfl rfl 7 (by decide) fl63 rfl rfl dX10_sixth_91 94 rfl ?_
      refine rn_aload_n hX dX10_sixth_94 0 rfl 95 rfl ?_
      refine rn_get hX inX10 0 rfl rfl 2 (by decide) fl28 rfl rfl dX10_sixth_95 98 rfl ?_
      refine rn_iload_n hX dX10_sixth_98 1 rfl 99 rfl ?_
      refine rn_iload_n hX dX10_sixth_99 2 rfl 100 rfl ?_
      refine rn_iload_n hX dX10_sixth_100 3 rfl 101 rfl ?_
      refine rn_iload hX dX10_sixth_101 4 rfl 103 rfl ?_
      refine rn_bind (fun u6 hu6 => ?_)
      refine rn_callV hX (gV mcC wd_751 wd_752 wd_753 wd_78 wd_754) rfl hdV_X7_take rfl rfl ⟨Nat.le_of_ble_eq_true rfl, Nat.le_of_ble_eq_true rfl⟩ (c_X7_take (zl Z) (zG Z) a_sixthOf a_table a_table_squares g_sixthOf_middle g_sixthOf_spread g_sixthOf_divisor g_table_places g_table_squares x1 x2 x3 x4 hu6) rfl [1, 2, 3] rfl rfl rfl (ci := 7) rfl rfl rfl (Nat.le_of_ble_eq_true rfl) dX10_sixth_103 106 rfl (wn := [(a_this, .inr (10, [.ref a_tape, .ref a_reader, .ref a_table, .ref a_way, .ref a_images, .ref a_sheets, .ref a_flaws, .ref a_sixthOf, .ref a_drawing, .ref a_naming, .int g_lastFault, .int g_lastTear])), (a_sixthOf, .inr (7, [.long u6.2.1, .long u6.2.2, .long u6.1])), (a_table, .inr (8, [.int g_table_places, .ref a_table_squares])), (a_table_squares, .inl ((zG Z).2.1 1, 49, .inl g_table_squares))]) rfl (S' := []) rfl ⟨Nat.zero_le _, Nat.zero_le _⟩ ?_
      refine rn_iload hX dX10_sixth_106 5 rfl 108 rfl ?_
      by_cases hs7 : x5 = (0 : Int32)
      · rw [if_pos hs7]
        refine rn_tableIn hX dX10_sixth_108 hs7 (by decide) (by decide) rfl 136 (by decide) ?_
        refine rn_aload_n hX dX10_sixth_136 0 rfl 137 rfl ?_
        refine rn_get hX inX10 0 rfl rfl 7 (by decide) fl63 rfl rfl dX10_sixth_137 140 rfl ?_
        refine rn_get hX inX7 1 rfl rfl 0 (by decide) fl230 rfl rfl dX10_sixth_140 143 rfl ?_
        exact rn_lret hX hr (by rw [henc]; rfl) dX10_sixth_143
      rw [if_neg hs7]
      by_cases hs8 : x5 = (1 : Int32)
      · rw [if_pos hs8]
        refine rn_tableIn hX dX10_sixth_108 hs8 (by decide) (by decide) rfl 144 (by decide) ?_
        refine rn_aload_n hX dX10_sixth_144 0 rfl 145 rfl ?_
        refine rn_get hX inX10 0 rfl rfl 7 (by decide) fl63 rfl rfl dX10_sixth_145 148 rfl ?_
        refine rn_get hX inX7 1 rfl rfl 1 (by decide) fl234 rfl rfl dX10_sixth_148 151 rfl ?_
        exact rn_lret hX hr (by rw [henc]; rfl) dX10_sixth_151
      rw [if_neg hs8]
      by_cases hs9 : x5 = (2 : Int32)
      · rw [if_pos hs9]
        refine rn_tableIn hX dX10_sixth_108 hs9 (by decide) (by decide) rfl 152 (by decide) ?_
        refine rn_aload_n hX dX10_sixth_152 0 rfl 153 rfl ?_
        refine rn_get hX inX10 0 rfl rfl 7 (by decide) fl63 rfl rfl dX10_sixth_153 156 rfl ?_
        refine rn_get hX inX7 1 rfl rfl 2 (by decide) fl237 rfl rfl dX10_sixth_156 159 rfl ?_
        exact rn_lret hX hr (by rw [henc]; rfl) dX10_sixth_159
      rw [if_neg hs9]
      refine rn_tableOut hX dX10_sixth_108 (by have qhs7 := ne_int hs7; rw [show (0 : Int32).toInt = 0 from by decide] at qhs7; have qhs8 := ne_int hs8; rw [show (1 : Int32).toInt = 1 from by decide] at qhs8; have qhs9 := ne_int hs9; rw [show (2 : Int32).toInt = 2 from by decide] at qhs9; have := qhs7; omega) 160 (by decide) ?_
      refine rn_aload_n hX dX10_sixth_160 0 rfl 161 rfl ?_
      refine rn_get hX inX10 0 rfl rfl 7 (by decide) fl63 rfl rfl dX10_sixth_161 164 rfl ?_
      refine rn_iload hX dX10_sixth_164 5 rfl 166 rfl ?_
      refine rn_iconst hX dX10_sixth_166 167 rfl ic_3 ?_
      refine rn_icmp_ne hX dX10_sixth_167 174 (by decide) 170 rfl ?_ ?_
      · refine rn_iconst hX dX10_sixth_174 175 rfl ic_0 ?_
        refine rn_sub [] rfl ?_
        exact hJ175 (0 : Int32) u6.1 u6.2.1 u6.2.2
      refine rn_iconst hX dX10_sixth_170 171 rfl ic_1 ?_
      refine rn_goto hX dX10_sixth_171 175 (by decide) ?_
      refine rn_sub [] rfl ?_
      exact hJ175 (1 : Int32) u6.1 u6.2.1 u6.2.2
    refine rn_ldc2 hX kl154 dX10_sixth_86 89 rfl ?_
    exact rn_lret hX hr (by rw [henc]; rfl) dX10_sixth_89
  refine rn_ldc2 hX kl145 dX10_sixth_26 29 rfl ?_
  exact rn_lret hX hr (by rw [henc]; rfl) dX10_sixth_29
abbrev rmX10_ends : Room := { frames := 2, cells := 0, slots := 0, locals := 43 }
theorem hdV_X10_ends : yX10_ends.cls = RX10 ∧ yX10_ends.cls ≠ "java/lang/invoke/MethodHandle" ∧ yX10_ends.cls ≠ "java/lang/invoke/VarHandle" ∧ (parseMethodDescriptor yX10_ends.desc).map (fun d => d.parameters.length) = some 3 := by decide +kernel
set_option maxHeartbeats 4000000 in
set_option maxRecDepth 100000 in
theorem c_X10_ends (l : Launch) (G : GT) (a_this a_table a_table_squares a_tape a_reader a_way a_images a_sheets a_flaws a_sixthOf a_drawing a_naming : Nat) (g_lastFault : Int32) (g_lastTear : Int32) (g_table_places : Int32) (g_table_squares : (Nat → Int32)) (x1 : Int32) (x2 : Int32) (x3 : Int32) {u : Int32} (hu : X10_ends x1 x2 x3 g_table_places g_table_squares = some u) : Ctr l G yX10_ends wsX10_ends rmX10_ends [.ref a_this, .int x1, .int x2, .int x3] [(a_this, .inr (10, [.ref a_tape, .ref a_reader, .ref a_table, .ref a_way, .ref a_images, .ref a_sheets, .ref a_flaws, .ref a_sixthOf, .ref a_drawing, .ref a_naming, .int g_lastFault, .int g_lastTear])), (a_table, .inr (8, [.int g_table_places, .ref a_table_squares])), (a_table_squares, .inl (G.2.1 1, 49, .inl g_table_squares))] (some (.int u)) [(a_this, .inr (10, [.ref a_tape, .ref a_reader, .ref a_table, .ref a_way, .ref a_images, .ref a_sheets, .ref a_flaws, .ref a_sixthOf, .ref a_drawing, .ref a_naming, .int g_lastFault, .int g_lastTear])), (a_table, .inr (8, [.int g_table_places, .ref a_table_squares])), (a_table_squares, .inl (G.2.1 1, 49, .inl g_table_squares))] := by
  obtain ⟨enc, henc⟩ : ∃ enc : (Int32) → Option Value × va_W, enc = fun u => (((some (.int u)) : Option Value), ([(a_this, .inr (10, [.ref a_tape, .ref a_reader, .ref a_table, .ref a_way, .ref a_images, .ref a_sheets, .ref a_flaws, .ref a_sixthOf, .ref a_drawing, .ref a_naming, .int g_lastFault, .int g_lastTear])), (a_table, .inr (8, [.int g_table_places, .ref a_table_squares])), (a_table_squares, .inl (G.2.1 1, 49, .inl g_table_squares))] : va_W)) := ⟨_, rfl⟩
  refine ctr_of (cc := cX10_ends) (own := RX10) (E := Option.map enc) (o := X10_ends x1 x2 x3 g_table_places g_table_squares) (by decide) rfl rfl (L := [(0, .ref a_this), (1, .int x1), (2, .int x2), (3, .int x3)]) rfl (Nat.le_of_ble_eq_true rfl) (by rw [hu, henc]; rfl) ?_
  intro Z hX hl hG hr
  subst hl; subst hG
  have fl245 : (Cond.fieldLink RX10 245 "OnlyFar$Table" "places" "I").before (za Z) (zs Z) = true := hX.wd (mcC _ wd_133)
  have fl28 : (Cond.fieldLink RX10 28 "OnlyFar" "table" "LOnlyFar$Table;").before (za Z) (zs Z) = true := hX.wd (mcC _ wd_359)
  have kl220 : (Cond.constantLong RX10 220 (4)).before (za Z) (zs Z) = true := hX.wd (mcC _ wd_590)
  have kl244 : (Cond.constant RX10 244 (99999)).before (za Z) (zs Z) = true := hX.wd (mcC _ wd_771)
  have mathmaxS : (Cond.static Lib.Math.max.name).before (za Z) (zs Z) = true := hX.wd (mcC _ wd_520)
  have mathmaxI : (Cond.initialized "java/lang/Math").before (za Z) (zs Z) = true := hX.wd (mcC _ wd_87)
  have mathmaxC : (Cond.code Lib.Math.max.name Lib.Math.max.code 2 (some .int)).before (za Z) (zs Z) = true := hX.wd (mcC _ wd_521)
  have mathminS : (Cond.static Lib.Math.min.name).before (za Z) (zs Z) = true := hX.wd (mcC _ wd_567)
  have mathminI : (Cond.initialized "java/lang/Math").before (za Z) (zs Z) = true := hX.wd (mcC _ wd_87)
  have mathminC : (Cond.code Lib.Math.min.name Lib.Math.min.code 2 (some .int)).before (za Z) (zs Z) = true := hX.wd (mcC _ wd_568)
  have ml252 : (Cond.methodLink RX10 252 Lib.Math.max.name).before (za Z) (zs Z) = true := hX.wd (mcC _ wd_565)
  have ml257 : (Cond.methodLink RX10 257 Lib.Math.min.name).before (za Z) (zs Z) = true := hX.wd (mcC _ wd_566)
  have inX10 : ∀ w ∈ u_ws RX10 TX10 12, w ∈ wsX10_ends := fun w h => mcC w (inC_X10 w h)
  have inX8 : ∀ w ∈ u_ws RX8 TX8 2, w ∈ wsX10_ends := fun w h => mcC w (inC_X8 w h)
  have hJ132 : ∀ (x3 : Int32) (x4 : Int32) (x5 : Int32), Rn Z 10 (Option.map enc) 0 0 132 [(3, .int x3), (4, .int x4), (5, .int x5)] [] [(a_this, .inr (10, [.ref a_tape, .ref a_reader, .ref a_table, .ref a_way, .ref a_images, .ref a_sheets, .ref a_flaws, .ref a_sixthOf, .ref a_drawing, .ref a_naming, .int g_lastFault, .int g_lastTear])), (a_table, .inr (8, [.int g_table_places, .ref a_table_squares])), (a_table_squares, .inl ((zG Z).2.1 1, 49, .inl g_table_squares))] (X10_ends_J132 x3 x4 x5) := by
    intro x3 x4 x5
    unfold X10_ends_J132
    refine rn_iload_n hX dX10_ends_132 0 rfl 133 rfl ?_
    refine rn_if_ne hX dX10_ends_133 141 (by decide) 136 rfl ?_ ?_
    · refine rn_iload hX dX10_ends_141 2 rfl 143 rfl ?_
      exact rn_iret hX hr (by rw [henc]; rfl) dX10_ends_143
    refine rn_iload hX dX10_ends_136 1 rfl 138 rfl ?_
    refine rn_goto hX dX10_ends_138 143 (by decide) ?_
    exact rn_iret hX hr (by rw [henc]; rfl) dX10_ends_143
  have hJ126 : ∀ (again : Int32 → Int32 → Int32 → Int32 → Int32 → Int32 → Option (Int32)) (k132 : Int32 → Int32 → Int32 → Option (Int32)) (hagain : ∀ (x1 : Int32) (x2 : Int32) (x3 : Int32) (x4 : Int32) (x5 : Int32) (x6 : Int32), Rn Z 10 (Option.map enc) 0 0 33 [(0, .ref a_this), (1, .int x1), (2, .int x2), (3, .int x3), (4, .int x4), (5, .int x5), (6, .int x6)] [] [(a_this, .inr (10, [.ref a_tape, .ref a_reader, .ref a_table, .ref a_way, .ref a_images, .ref a_sheets, .ref a_flaws, .ref a_sixthOf, .ref a_drawing, .ref a_naming, .int g_lastFault, .int g_lastTear])), (a_table, .inr (8, [.int g_table_places, .ref a_table_squares])), (a_table_squares, .inl ((zG Z).2.1 1, 49, .inl g_table_squares))] (again x1 x2 x3 x4 x5 x6)) (hk132 : ∀ (x3 : Int32) (x4 : Int32) (x5 : Int32), Rn Z 10 (Option.map enc) 0 0 132 [(3, .int x3), (4, .int x4), (5, .int x5)] [] [(a_this, .inr (10, [.ref a_tape, .ref a_reader, .ref a_table, .ref a_way, .ref a_images, .ref a_sheets, .ref a_flaws, .ref a_sixthOf, .ref a_drawing, .ref a_naming, .int g_lastFault, .int g_lastTear])), (a_table, .inr (8, [.int g_table_places, .ref a_table_squares])), (a_table_squares, .inl ((zG Z).2.1 1, 49, .inl g_table_squares))] (k132 x3 x4 x5)) (x1 : Int32) (x2 : Int32) (x3 : Int32) (x4 : Int32) (x5 : Int32) (x6 : Int32), Rn Z 10 (Option.map enc) 0 0 126 [(0, .ref a_this), (1, .int x1), (2, .int x2), (3, .int x3), (4, .int x4), (5, .int x5), (6, .int x6)] [] [(a_this, .inr (10, [.ref a_tape, .ref a_reader, .ref a_table, .ref a_way, .ref a_images, .ref a_sheets, .ref a_flaws, .ref a_sixthOf, .ref a_drawing, .ref a_naming, .int g_lastFault, .int g_lastTear])), (a_table, .inr (8, [.int g_table_places, .ref a_table_squares])), (a_table_squares, .inl ((zG Z).2.1 1, 49, .inl g_table_squares))] (X10_ends_J126 again k132 x1 x2 x3 x4 x5 x6) := by
    intro again k132 hagain hk132 x1 x2 x3 x4 x5 x6
    unfold X10_ends_J126
    refine rn_iinc hX dX10_ends_126 6 rfl ic_1 (by decide) (L' := fun v1 => [(6, .int v1), (0, .ref a_this), (1, .int x1), (2, .int x2), (3, .int x3), (4, .int x4), (5, .int x5)]) (fun _ => rfl) 129 rfl (fun v1 => ?_)
    refine rn_goto hX dX10_ends_129 33 (by decide) ?_
    refine rn_sub [1, 2, 3, 4, 5, 6, 0] rfl ?_
    exact hagain x1 x2 x3 x4 x5 v1
  have hB33 : ∀ (again : Int32 → Int32 → Int32 → Int32 → Int32 → Int32 → Option (Int32)) (k132 : Int32 → Int32 → Int32 → Option (Int32)) (hagain : ∀ (x1 : Int32) (x2 : Int32) (x3 : Int32) (x4 : Int32) (x5 : Int32) (x6 : Int32), Rn Z 10 (Option.map enc) 0 0 33 [(0, .ref a_this), (1, .int x1), (2, .int x2), (3, .int x3), (4, .int x4), (5, .int x5), (6, .int x6)] [] [(a_this, .inr (10, [.ref a_tape, .ref a_reader, .ref a_table, .ref a_way, .ref a_images, .ref a_sheets, .ref a_flaws, .ref a_sixthOf, .ref a_drawing, .ref a_naming, .int g_lastFault, .int g_lastTear])), (a_table, .inr (8, [.int g_table_places, .ref a_table_squares])), (a_table_squares, .inl ((zG Z).2.1 1, 49, .inl g_table_squares))] (again x1 x2 x3 x4 x5 x6)) (hk132 : ∀ (x3 : Int32) (x4 : Int32) (x5 : Int32), Rn Z 10 (Option.map enc) 0 0 132 [(3, .int x3), (4, .int x4), (5, .int x5)] [] [(a_this, .inr (10, [.ref a_tape, .ref a_reader, .ref a_table, .ref a_way, .ref a_images, .ref a_sheets, .ref a_flaws, .ref a_sixthOf, .ref a_drawing, .ref a_naming, .int g_lastFault, .int g_lastTear])), (a_table, .inr (8, [.int g_table_places, .ref a_table_squares])), (a_table_squares, .inl ((zG Z).2.1 1, 49, .inl g_table_squares))] (k132 x3 x4 x5)) (x1 : Int32) (x2 : Int32) (x3 : Int32) (x4 : Int32) (x5 : Int32) (x6 : Int32), Rn Z 10 (Option.map enc) 0 0 33 [(0, .ref a_this), (1, .int x1), (2, .int x2), (3, .int x3), (4, .int x4), (5, .int x5), (6, .int x6)] [] [(a_this, .inr (10, [.ref a_tape, .ref a_reader, .ref a_table, .ref a_way, .ref a_images, .ref a_sheets, .ref a_flaws, .ref a_sixthOf, .ref a_drawing, .ref a_naming, .int g_lastFault, .int g_lastTear])), (a_table, .inr (8, [.int g_table_places, .ref a_table_squares])), (a_table_squares, .inl ((zG Z).2.1 1, 49, .inl g_table_squares))] (X10_ends_B33 g_table_places g_table_squares again k132 x1 x2 x3 x4 x5 x6) := by
    intro again k132 hagain hk132 x1 x2 x3 x4 x5 x6
    unfold X10_ends_B33
    refine rn_iload hX dX10_ends_33 6 rfl 35 rfl ?_
    refine rn_aload_n hX dX10_ends_35 0 rfl 36 rfl ?_
    refine rn_get hX inX10 0 rfl rfl 2 (by decide) fl28 rfl rfl dX10_ends_36 39 rfl ?_
    refine rn_get hX inX8 1 rfl rfl 0 (by decide) fl245 rfl rfl dX10_ends_39 42 rfl ?_
    refine rn_icmp_ge hX dX10_ends_42 132 (by decide) 45 rfl ?_ ?_
    · refine rn_sub [3, 4, 5] rfl ?_
      exact hk132 x3 x4 x5
    refine rn_aload_n hX dX10_ends_45 0 rfl 46 rfl ?_
    refine rn_get hX inX10 0 rfl rfl 2 (by decide) fl28 rfl rfl dX10_ends_46 49 rfl ?_
    refine rn_iload_n hX dX10_ends_49 1 rfl 50 rfl ?_
    refine rn_iload hX dX10_ends_50 6 rfl 52 rfl ?_
    refine rn_bind (fun u2 hu2 => ?_)
    refine rn_callV0 hX (gV mcC wd_714 wd_512 wd_513 wd_73 wd_514) rfl hdV_X8_square rfl rfl ⟨Nat.le_of_ble_eq_true rfl, Nat.le_of_ble_eq_true rfl⟩ (c_X8_square (zl Z) (zG Z) a_table a_table_squares g_table_places g_table_squares x1 x6 hu2) rfl [1, 2] rfl rfl (ci := 8) rfl rfl rfl (Nat.le_of_ble_eq_true rfl) dX10_ends_52 55 rfl (S' := [.int u2]) rfl ⟨Nat.zero_le _, Nat.zero_le _⟩ ?_
    refine rn_istore hX dX10_ends_55 (by decide) (L' := [(7, .int u2), (0, .ref a_this), (1, .int x1), (2, .int x2), (3, .int x3), (4, .int x4), (5, .int x5), (6, .int x6)]) rfl 57 rfl ?_
    refine rn_aload_n hX dX10_ends_57 1 rfl 58 rfl ?_
    refine rn_get hX inX10 0 rfl rfl 2 (by decide) fl28 rfl rfl dX10_ends_58 61 rfl ?_
    refine rn_iload_n hX dX10_ends_61 3 rfl 62 rfl ?_
    refine rn_iload hX dX10_ends_62 7 rfl 64 rfl ?_
    refine rn_bind (fun u3 hu3 => ?_)
    refine rn_callV0 hX (gV mcC wd_714 wd_512 wd_513 wd_73 wd_514) rfl hdV_X8_square rfl rfl ⟨Nat.le_of_ble_eq_true rfl, Nat.le_of_ble_eq_true rfl⟩ (c_X8_square (zl Z) (zG Z) a_table a_table_squares g_table_places g_table_squares x2 x6 hu3) rfl [1, 2] rfl rfl (ci := 8) rfl rfl rfl (Nat.le_of_ble_eq_true rfl) dX10_ends_64 67 rfl (S' := [.int u3]) rfl ⟨Nat.zero_le _, Nat.zero_le _⟩ ?_
    refine rn_istore hX dX10_ends_67 (by decide) (L' := [(8, .int u3), (7, .int u2), (0, .ref a_this), (1, .int x1), (2, .int x2), (3, .int x3), (4, .int x4), (5, .int x5), (6, .int x6)]) rfl 69 rfl ?_
    refine rn_iload hX dX10_ends_69 1 rfl 71 rfl ?_
    refine rn_if_le hX dX10_ends_71 126 (by decide) 74 rfl ?_ ?_
    · refine rn_sub [2, 3, 4, 5, 6, 7, 8] rfl ?_
      exact (hJ126 _ _ hagain hk132) x1 x2 x3 x4 x5 x6
    refine rn_iload hX dX10_ends_74 0 rfl 76 rfl ?_
    refine rn_if_le hX dX10_ends_76 126 (by decide) 79 rfl ?_ ?_
    · refine rn_sub [2, 3, 4, 5, 6, 7, 8] rfl ?_
      exact (hJ126 _ _ hagain hk132) x1 x2 x3 x4 x5 x6
    refine rn_ldc2 hX kl220 dX10_ends_79 82 rfl ?_
    refine rn_iload hX dX10_ends_82 1 rfl 84 rfl ?_
    refine rn_i2l hX dX10_ends_84 85 rfl ?_
    refine rn_lmul hX dX10_ends_85 86 rfl ?_
    refine rn_iload hX dX10_ends_86 0 rfl 88 rfl ?_
    refine rn_i2l hX dX10_ends_88 89 rfl ?_
    refine rn_lmul hX dX10_ends_89 90 rfl ?_
    refine rn_bind (fun u4 hu4 => ?_)
    refine rn_callS0 hX (gS mcC wd_772 wd_764 wd_70 wd_765) rfl hdS_X10_rootOf rfl rfl ⟨Nat.le_of_ble_eq_true rfl, Nat.le_of_ble_eq_true rfl⟩ (c_X10_rootOf (zl Z) (zG Z) (((4 : Int64) * u2.toInt64) * u3.toInt64) hu4) rfl [] rfl rfl rfl (Nat.le_of_ble_eq_true rfl) dX10_ends_90 93 rfl (S' := [.long u4]) rfl ⟨Nat.zero_le _, Nat.zero_le _⟩ ?_
    refine rn_l2i hX dX10_ends_93 94 rfl ?_
    refine rn_lati (fun v5 => ?_)
    refine rn_istore hX dX10_ends_94 (by decide) (L' := [(9, .int v5), (8, .int u3), (7, .int u2), (0, .ref a_this), (1, .int x1), (2, .int x2), (3, .int x3), (4, .int x4), (5, .int x5), (6, .int x6)]) rfl 96 rfl ?_
    refine rn_iload hX dX10_ends_96 7 rfl 98 rfl ?_
    refine rn_iload hX dX10_ends_98 2 rfl 100 rfl ?_
    refine rn_iload hX dX10_ends_100 1 rfl 102 rfl ?_
    refine rn_iadd hX dX10_ends_102 103 rfl ?_
    refine rn_iload hX dX10_ends_103 0 rfl 105 rfl ?_
    refine rn_isub hX dX10_ends_105 106 rfl ?_
    refine rn_mmax hX ml252 mathmaxS mathmaxI mathmaxC (Nat.le_of_ble_eq_true rfl) (Nat.le_of_ble_eq_true rfl) ⟨Nat.zero_le _, Nat.zero_le _⟩ dX10_ends_106 109 rfl ?_
    refine rn_lati (fun v6 => ?_)
    refine rn_istore hX dX10_ends_109 (by decide) (L' := [(4, .int v6), (9, .int v5), (8, .int u3), (7, .int u2), (0, .ref a_this), (1, .int x1), (2, .int x2), (3, .int x3), (5, .int x5), (6, .int x6)]) rfl 111 rfl ?_
    refine rn_iload hX dX10_ends_111 8 rfl 113 rfl ?_
    refine rn_iload hX dX10_ends_113 3 rfl 115 rfl ?_
    refine rn_iload hX dX10_ends_115 2 rfl 117 rfl ?_
    refine rn_iadd hX dX10_ends_117 118 rfl ?_
    refine rn_iload hX dX10_ends_118 1 rfl 120 rfl ?_
    refine rn_iadd hX dX10_ends_120 121 rfl ?_
    refine rn_mmin hX ml257 mathminS mathminI mathminC (Nat.le_of_ble_eq_true rfl) (Nat.le_of_ble_eq_true rfl) ⟨Nat.zero_le _, Nat.zero_le _⟩ dX10_ends_121 124 rfl ?_
    refine rn_lati (fun v7 => ?_)
    refine rn_istore hX dX10_ends_124 (by decide) (L' := [(5, .int v7), (4, .int v6), (9, .int v5), (8, .int u3), (7, .int u2), (0, .ref a_this), (1, .int x1), (2, .int x2), (3, .int x3), (6, .int x6)]) rfl 126 rfl ?_
    refine rn_sub [5, 6, 7, 8, 1, 0, 9] rfl ?_
    exact (hJ126 _ _ hagain hk132) x1 x2 x3 v6 v7 x6
  have hL33 : ∀ (k132 : Int32 → Int32 → Int32 → Option (Int32)) (hk132 : ∀ (x3 : Int32) (x4 : Int32) (x5 : Int32), Rn Z 10 (Option.map enc) 0 0 132 [(3, .int x3), (4, .int x4), (5, .int x5)] [] [(a_this, .inr (10, [.ref a_tape, .ref a_reader, .ref a_table, .ref a_way, .ref a_images, .ref a_sheets, .ref a_flaws, .ref a_sixthOf, .ref a_drawing, .ref a_naming, .int g_lastFault, .int g_lastTear])), (a_table, .inr (8, [.int g_table_places, .ref a_table_squares])), (a_table_squares, .inl ((zG Z).2.1 1, 49, .inl g_table_squares))] (k132 x3 x4 x5)) (n : Nat) (x1 : Int32) (x2 : Int32) (x3 : Int32) (x4 : Int32) (x5 : Int32) (x6 : Int32), Rn Z 10 (Option.map enc) 0 0 33 [(0, .ref a_this), (1, .int x1), (2, .int x2), (3, .int x3), (4, .int x4), (5, .int x5), (6, .int x6)] [] [(a_this, .inr (10, [.ref a_tape, .ref a_reader, .ref a_table, .ref a_way, .ref a_images, .ref a_sheets, .ref a_flaws, .ref a_sixthOf, .ref a_drawing, .ref a_naming, .int g_lastFault, .int g_lastTear])), (a_table, .inr (8, [.int g_table_places, .ref a_table_squares])), (a_table_squares, .inl ((zG Z).2.1 1, 49, .inl g_table_squares))] (X10_ends_L33 g_table_places g_table_squares k132 n x1 x2 x3 x4 x5 x6) := by
    intro k132 hk132 n
    induction n with
    | zero => intros; exact rn_none
    | succ n ih => exact hB33 _ _ ih hk132
  unfold X10_ends
  refine rn_aload_n hX dX10_ends_0 0 rfl 1 rfl ?_
  refine rn_get hX inX10 0 rfl rfl 2 (by decide) fl28 rfl rfl dX10_ends_1 4 rfl ?_
  refine rn_iload_n hX dX10_ends_4 1 rfl 5 rfl ?_
  refine rn_iload_n hX dX10_ends_5 2 rfl 6 rfl ?_
  refine rn_callV0 hX (gV mcC wd_537 wd_538 wd_539 wd_73 wd_540) rfl hdV_X8_areTwo rfl rfl ⟨Nat.le_of_ble_eq_true rfl, Nat.le_of_ble_eq_true rfl⟩ (c_X8_areTwo (zl Z) (zG Z) a_table a_table_squares g_table_places x1 x2 rfl) rfl [1] rfl rfl (ci := 8) rfl rfl rfl (Nat.le_of_ble_eq_true rfl) dX10_ends_6 9 rfl (S' := [.int (X8_areTwo x1 x2 g_table_places)]) rfl ⟨Nat.zero_le _, Nat.zero_le _⟩ ?_
  refine rn_if_eq hX dX10_ends_9 21 (by decide) 12 rfl ?_ ?_
  · refine rn_iconst hX dX10_ends_21 22 rfl ic_m1 ?_
    exact rn_iret hX hr (by rw [henc]; rfl) dX10_ends_22
  refine rn_iload_n hX dX10_ends_12 3 rfl 13 rfl ?_
  refine rn_if_lt hX dX10_ends_13 21 (by decide) 16 rfl ?_ ?_
  · refine rn_iconst hX dX10_ends_21 22 rfl ic_m1 ?_
    exact rn_iret hX hr (by rw [henc]; rfl) dX10_ends_22
  refine rn_iload_n hX dX10_ends_16 3 rfl 17 rfl ?_
  refine rn_iconst hX dX10_ends_17 18 rfl ic_1 ?_
  refine rn_icmp_le hX dX10_ends_18 23 (by decide) 21 rfl ?_ ?_
  · refine rn_iconst hX dX10_ends_23 24 rfl ic_0 ?_
    refine rn_istore hX dX10_ends_24 (by decide) (L' := [(4, .int (0 : Int32)), (0, .ref a_this), (1, .int x1), (2, .int x2), (3, .int x3)]) rfl 26 rfl ?_
    refine rn_ldc hX kl244 dX10_ends_26 28 rfl ?_
    refine rn_istore hX dX10_ends_28 (by decide) (L' := [(5, .int (99999 : Int32)), (4, .int (0 : Int32)), (0, .ref a_this), (1, .int x1), (2, .int x2), (3, .int x3)]) rfl 30 rfl ?_
    refine rn_iconst hX dX10_ends_30 31 rfl ic_0 ?_
    refine rn_istore hX dX10_ends_31 (by decide) (L' := [(6, .int (0 : Int32)), (5, .int (99999 : Int32)), (4, .int (0 : Int32)), (0, .ref a_this), (1, .int x1), (2, .int x2), (3, .int x3)]) rfl 33 rfl ?_
    refine rn_sub [3, 4, 5, 6, 2, 1, 0] rfl ?_
    exact (hL33 _ hJ132 1000) x1 x2 x3 (0 : Int32) (99999 : Int32) (0 : Int32)
  refine rn_iconst hX dX10_ends_21 22 rfl ic_m1 ?_
  exact rn_iret hX hr (by rw [henc]; rfl) dX10_ends_22
