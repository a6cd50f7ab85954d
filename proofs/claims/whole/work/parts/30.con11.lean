abbrev rmX10_torn : Room := { frames := 0, cells := 0, slots := 0, locals := 0 }
theorem hdV_X10_torn : yX10_torn.cls = RX10 ∧ yX10_torn.cls ≠ "java/lang/invoke/MethodHandle" ∧ yX10_torn.cls ≠ "java/lang/invoke/VarHandle" ∧ (parseMethodDescriptor yX10_torn.desc).map (fun d => d.parameters.length) = some 0 := by decide +kernel
set_option maxHeartbeats 4000000 in
set_option maxRecDepth 100000 in
theorem c_X10_torn (l : Launch) (G : GT) (a_this a_tape a_reader a_table a_way a_images a_sheets a_flaws a_sixthOf a_drawing a_naming : Nat) (g_lastFault : Int32) (g_lastTear : Int32) {u : Int32} (hu : X10_torn g_lastTear = u) : Ctr l G yX10_torn wsX10_torn rmX10_torn [.ref a_this] [(a_this, .inr (10, [.ref a_tape, .ref a_reader, .ref a_table, .ref a_way, .ref a_images, .ref a_sheets, .ref a_flaws, .ref a_sixthOf, .ref a_drawing, .ref a_naming, .int g_lastFault, .int g_lastTear]))] (some (.int u)) [(a_this, .inr (10, [.ref a_tape, .ref a_reader, .ref a_table, .ref a_way, .ref a_images, .ref a_sheets, .ref a_flaws, .ref a_sixthOf, .ref a_drawing, .ref a_naming, .int g_lastFault, .int g_lastTear]))] := by
  obtain ⟨enc, henc⟩ : ∃ enc : (Int32) → Option Value × va_W, enc = fun u => (((some (.int u)) : Option Value), ([(a_this, .inr (10, [.ref a_tape, .ref a_reader, .ref a_table, .ref a_way, .ref a_images, .ref a_sheets, .ref a_flaws, .ref a_sixthOf, .ref a_drawing, .ref a_naming, .int g_lastFault, .int g_lastTear]))] : va_W)) := ⟨_, rfl⟩
  refine ctr_of (cc := cX10_torn) (own := RX10) (E := fun o => some (enc o)) (o := X10_torn g_lastTear) (by decide) rfl rfl (L := [(0, .ref a_this)]) rfl (Nat.le_of_ble_eq_true rfl) (by rw [hu, henc]) ?_
  intro Z hX hl hG hr
  subst hl; subst hG
  have fl87 : (Cond.fieldLink RX10 87 "OnlyFar" "lastTear" "I").before (za Z) (zs Z) = true := hX.wd (mcC _ wd_368)
  have inX10 : ∀ w ∈ u_ws RX10 TX10 12, w ∈ wsX10_torn := fun w h => mcC w (inC_X10 w h)
  unfold X10_torn
  refine rn_aload_n hX dX10_torn_0 0 rfl 1 rfl ?_
  refine rn_get hX inX10 0 rfl rfl 11 (by decide) fl87 rfl rfl dX10_torn_1 4 rfl ?_
  exact rn_iret hX hr (by rw [henc]) dX10_torn_4
abbrev rmX10_count : Room := { frames := 2, cells := 0, slots := 0, locals := 45 }
theorem hdV_X10_count : yX10_count.cls = RX10 ∧ yX10_count.cls ≠ "java/lang/invoke/MethodHandle" ∧ yX10_count.cls ≠ "java/lang/invoke/VarHandle" ∧ (parseMethodDescriptor yX10_count.desc).map (fun d => d.parameters.length) = some 1 := by decide +kernel
set_option maxHeartbeats 4000000 in
set_option maxRecDepth 100000 in
theorem c_X10_count (l : Launch) (G : GT) (a_this a_images a_images_0 a_images_1 a_sheets a_sheets_0 a_table a_table_squares a_tape a_way a_reader a_flaws a_sixthOf a_drawing a_naming a_images_0_table a_images_0_way a_images_1_table a_images_1_way a_sheets_1 a_sheets_2 a_sheets_3 a_sheets_0_cells a_tape_bytes a_way_lengths : Nat) (g_lastFault : Int32) (g_lastTear : Int32) (g_images_0_kept : Int32) (g_images_1_kept : Int32) (g_sheets_0_lane : Int32) (g_sheets_0_size : Int32) (g_table_places : Int32) (g_table_squares : (Nat → Int32)) (g_tape_length : Int32) (g_way_parts : Int32) (x1 : Int32) {u : Int32} (hu : X10_count x1 g_images_0_kept g_images_1_kept g_sheets_0_lane g_sheets_0_size g_table_places g_table_squares g_tape_length g_way_parts = some u) : Ctr l G yX10_count wsX10_count rmX10_count [.ref a_this, .int x1] [(a_this, .inr (10, [.ref a_tape, .ref a_reader, .ref a_table, .ref a_way, .ref a_images, .ref a_sheets, .ref a_flaws, .ref a_sixthOf, .ref a_drawing, .ref a_naming, .int g_lastFault, .int g_lastTear])), (a_images, .inl (G.2.1 3, 2, .inr (.inr (.inr (.inr (rf2 a_images_0 a_images_1)))))), (a_images_0, .inr (2, [.int g_images_0_kept, .ref a_images_0_table, .ref a_images_0_way])), (a_images_1, .inr (2, [.int g_images_1_kept, .ref a_images_1_table, .ref a_images_1_way])), (a_sheets, .inl (G.2.1 4, 4, .inr (.inr (.inr (.inr (rf4 a_sheets_0 a_sheets_1 a_sheets_2 a_sheets_3)))))), (a_sheets_0, .inr (6, [.int g_sheets_0_lane, .int g_sheets_0_size, .ref a_sheets_0_cells])), (a_table, .inr (8, [.int g_table_places, .ref a_table_squares])), (a_table_squares, .inl (G.2.1 1, 49, .inl g_table_squares)), (a_tape, .inr (9, [.int g_tape_length, .ref a_tape_bytes])), (a_way, .inr (5, [.int g_way_parts, .ref a_way_lengths]))] (some (.int u)) [(a_this, .inr (10, [.ref a_tape, .ref a_reader, .ref a_table, .ref a_way, .ref a_images, .ref a_sheets, .ref a_flaws, .ref a_sixthOf, .ref a_drawing, .ref a_naming, .int g_lastFault, .int g_lastTear])), (a_images, .inl (G.2.1 3, 2, .inr (.inr (.inr (.inr (rf2 a_images_0 a_images_1)))))), (a_images_0, .inr (2, [.int g_images_0_kept, .ref a_images_0_table, .ref a_images_0_way])), (a_images_1, .inr (2, [.int g_images_1_kept, .ref a_images_1_table, .ref a_images_1_way])), (a_sheets, .inl (G.2.1 4, 4, .inr (.inr (.inr (.inr (rf4 a_sheets_0 a_sheets_1 a_sheets_2 a_sheets_3)))))), (a_sheets_0, .inr (6, [.int g_sheets_0_lane, .int g_sheets_0_size, .ref a_sheets_0_cells])), (a_table, .inr (8, [.int g_table_places, .ref a_table_squares])), (a_table_squares, .inl (G.2.1 1, 49, .inl g_table_squares)), (a_tape, .inr (9, [.int g_tape_length, .ref a_tape_bytes])), (a_way, .inr (5, [.int g_way_parts, .ref a_way_lengths]))] := by
  obtain ⟨enc, henc⟩ : ∃ enc : (Int32) → Option Value × va_W, enc = fun u => (((some (.int u)) : Option Value), ([(a_this, .inr (10, [.ref a_tape, .ref a_reader, .ref a_table, .ref a_way, .ref a_images, .ref a_sheets, .ref a_flaws, .ref a_sixthOf, .ref a_drawing, .ref a_naming, .int g_lastFault, .int g_lastTear])), (a_images, .inl (G.2.1 3, 2, .inr (.inr (.inr (.inr (rf2 a_images_0 a_images_1)))))), (a_images_0, .inr (2, [.int g_images_0_kept, .ref a_images_0_table, .ref a_images_0_way])), (a_images_1, .inr (2, [.int g_images_1_kept, .ref a_images_1_table, .ref a_images_1_way])), (a_sheets, .inl (G.2.1 4, 4, .inr (.inr (.inr (.inr (rf4 a_sheets_0 a_sheets_1 a_sheets_2 a_sheets_3)))))), (a_sheets_0, .inr (6, [.int g_sheets_0_lane, .int g_sheets_0_size, .ref a_sheets_0_cells])), (a_table, .inr (8, [.int g_table_places, .ref a_table_squares])), (a_table_squares, .inl (G.2.1 1, 49, .inl g_table_squares)), (a_tape, .inr (9, [.int g_tape_length, .ref a_tape_bytes])), (a_way, .inr (5, [.int g_way_parts, .ref a_way_lengths]))] : va_W)) := ⟨_, rfl⟩
  refine ctr_of (cc := cX10_count) (own := RX10) (E := Option.map enc) (o := X10_count x1 g_images_0_kept g_images_1_kept g_sheets_0_lane g_sheets_0_size g_table_places g_table_squares g_tape_length g_way_parts) (by decide) rfl rfl (L := [(0, .ref a_this), (1, .int x1)]) rfl (Nat.le_of_ble_eq_true rfl) (by rw [hu, henc]; rfl) ?_
  intro Z hX hl hG hr
  subst hl; subst hG
  have fl10 : (Cond.fieldLink RX10 10 "OnlyFar" "tape" "LOnlyFar$Tape;").before (za Z) (zs Z) = true := hX.wd (mcC _ wd_357)
  have fl112 : (Cond.fieldLink RX10 112 "OnlyFar$Road" "parts" "I").before (za Z) (zs Z) = true := hX.wd (mcC _ wd_188)
  have fl115 : (Cond.fieldLink RX10 115 "OnlyFar$Image" "kept" "Z").before (za Z) (zs Z) = true := hX.wd (mcC _ wd_207)
  have fl245 : (Cond.fieldLink RX10 245 "OnlyFar$Table" "places" "I").before (za Z) (zs Z) = true := hX.wd (mcC _ wd_133)
  have fl28 : (Cond.fieldLink RX10 28 "OnlyFar" "table" "LOnlyFar$Table;").before (za Z) (zs Z) = true := hX.wd (mcC _ wd_359)
  have fl35 : (Cond.fieldLink RX10 35 "OnlyFar" "way" "LOnlyFar$Road;").before (za Z) (zs Z) = true := hX.wd (mcC _ wd_360)
  have fl355 : (Cond.fieldLink RX10 355 "OnlyFar$Sheet" "lane" "I").before (za Z) (zs Z) = true := hX.wd (mcC _ wd_227)
  have fl358 : (Cond.fieldLink RX10 358 "OnlyFar$Sheet" "size" "I").before (za Z) (zs Z) = true := hX.wd (mcC _ wd_229)
  have fl41 : (Cond.fieldLink RX10 41 "OnlyFar" "images" "[LOnlyFar$Image;").before (za Z) (zs Z) = true := hX.wd (mcC _ wd_361)
  have fl48 : (Cond.fieldLink RX10 48 "OnlyFar" "sheets" "[LOnlyFar$Sheet;").before (za Z) (zs Z) = true := hX.wd (mcC _ wd_362)
  have fl94 : (Cond.fieldLink RX10 94 "OnlyFar$Tape" "length" "I").before (za Z) (zs Z) = true := hX.wd (mcC _ wd_106)
  have inX10 : ∀ w ∈ u_ws RX10 TX10 12, w ∈ wsX10_count := fun w h => mcC w (inC_X10 w h)
  have inX2 : ∀ w ∈ u_ws RX2 TX2 3, w ∈ wsX10_count := fun w h => mcC w (inC_X2 w h)
  have inX5 : ∀ w ∈ u_ws RX5 TX5 2, w ∈ wsX10_count := fun w h => mcC w (inC_X5 w h)
  have inX6 : ∀ w ∈ u_ws RX6 TX6 3, w ∈ wsX10_count := fun w h => mcC w (inC_X6 w h)
  have inX8 : ∀ w ∈ u_ws RX8 TX8 2, w ∈ wsX10_count := fun w h => mcC w (inC_X8 w h)
  have inX9 : ∀ w ∈ u_ws RX9 TX9 2, w ∈ wsX10_count := fun w h => mcC w (inC_X9 w h)
  unfold X10_count
  refine rn_iload_n hX dX10_count_0 1 rfl 1 rfl ?_
  by_cases hs1 : x1 = (0 : Int32)
  · rw [if_pos hs1]
    refine rn_tableIn hX dX10_count_1 hs1 (by decide) (by decide) rfl 40 (by decide) ?_
    refine rn_aload_n hX dX10_count_40 0 rfl 41 rfl ?_
    refine rn_get hX inX10 0 rfl rfl 2 (by decide) fl28 rfl rfl dX10_count_41 44 rfl ?_
    refine rn_get hX inX8 6 rfl rfl 0 (by decide) fl245 rfl rfl dX10_count_44 47 rfl ?_
    exact rn_iret hX hr (by rw [henc]; rfl) dX10_count_47
  rw [if_neg hs1]
  by_cases hs3 : x1 = (1 : Int32)
  · rw [if_pos hs3]
    refine rn_tableIn hX dX10_count_1 hs3 (by decide) (by decide) rfl 48 (by decide) ?_
    refine rn_aload_n hX dX10_count_48 0 rfl 49 rfl ?_
    refine rn_get hX inX10 0 rfl rfl 2 (by decide) fl28 rfl rfl dX10_count_49 52 rfl ?_
    refine rn_bind (fun u2 hu2 => ?_)
    refine rn_callV0 hX (gV mcC wd_927 wd_928 wd_929 wd_73 wd_930) rfl hdV_X8_countTold rfl rfl ⟨Nat.le_of_ble_eq_true rfl, Nat.le_of_ble_eq_true rfl⟩ (c_X8_countTold (zl Z) (zG Z) a_table a_table_squares g_table_places g_table_squares hu2) rfl [6, 7] rfl rfl (ci := 8) rfl rfl rfl (Nat.le_of_ble_eq_true rfl) dX10_count_52 55 rfl (S' := [.int u2]) rfl ⟨Nat.zero_le _, Nat.zero_le _⟩ ?_
    exact rn_iret hX hr (by rw [henc]; rfl) dX10_count_55
  rw [if_neg hs3]
  by_cases hs4 : x1 = (2 : Int32)
  · rw [if_pos hs4]
    refine rn_tableIn hX dX10_count_1 hs4 (by decide) (by decide) rfl 56 (by decide) ?_
    refine rn_aload_n hX dX10_count_56 0 rfl 57 rfl ?_
    refine rn_get hX inX10 0 rfl rfl 3 (by decide) fl35 rfl rfl dX10_count_57 60 rfl ?_
    refine rn_get hX inX5 9 rfl rfl 0 (by decide) fl112 rfl rfl dX10_count_60 63 rfl ?_
    exact rn_iret hX hr (by rw [henc]; rfl) dX10_count_63
  rw [if_neg hs4]
  by_cases hs5 : x1 = (3 : Int32)
  · rw [if_pos hs5]
    refine rn_tableIn hX dX10_count_1 hs5 (by decide) (by decide) rfl 64 (by decide) ?_
    refine rn_aload_n hX dX10_count_64 0 rfl 65 rfl ?_
    refine rn_get hX inX10 0 rfl rfl 4 (by decide) fl41 rfl rfl dX10_count_65 68 rfl ?_
    refine rn_iconst hX dX10_count_68 69 rfl ic_0 ?_
    refine rn_aald hX (t0 := 3) (n := 2) (f := rf2 a_images_0 a_images_1) 1 rfl rfl rfl (vpk (by decide)) rfl dX10_count_69 70 rfl ?_
    refine rn_get hX inX2 2 rfl rfl 0 (by decide) fl115 rfl rfl dX10_count_70 73 rfl ?_
    refine rn_callS0 hX (gS mcC wd_601 wd_602 wd_70 wd_603) rfl hdS_X10_bit rfl rfl ⟨Nat.le_of_ble_eq_true rfl, Nat.le_of_ble_eq_true rfl⟩ (c_X10_bit (zl Z) (zG Z) g_images_0_kept rfl) rfl [] rfl rfl rfl (Nat.le_of_ble_eq_true rfl) dX10_count_73 76 rfl (S' := [.int (X10_bit g_images_0_kept)]) rfl ⟨Nat.zero_le _, Nat.zero_le _⟩ ?_
    refine rn_aload_n hX dX10_count_76 0 rfl 77 rfl ?_
    refine rn_get hX inX10 0 rfl rfl 4 (by decide) fl41 rfl rfl dX10_count_77 80 rfl ?_
    refine rn_iconst hX dX10_count_80 81 rfl ic_1 ?_
    refine rn_aald hX (t0 := 3) (n := 2) (f := rf2 a_images_0 a_images_1) 1 rfl rfl rfl (vpk (by decide)) rfl dX10_count_81 82 rfl ?_
    refine rn_get hX inX2 3 rfl rfl 0 (by decide) fl115 rfl rfl dX10_count_82 85 rfl ?_
    refine rn_callS0 hX (gS mcC wd_601 wd_602 wd_70 wd_603) rfl hdS_X10_bit rfl rfl ⟨Nat.le_of_ble_eq_true rfl, Nat.le_of_ble_eq_true rfl⟩ (c_X10_bit (zl Z) (zG Z) g_images_1_kept rfl) rfl [] rfl rfl rfl (Nat.le_of_ble_eq_true rfl) dX10_count_85 88 rfl (S' := [.int (X10_bit g_images_1_kept), .int (X10_bit g_images_0_kept)]) rfl ⟨Nat.zero_le _, Nat.zero_le _⟩ ?_
    refine rn_iadd hX dX10_count_88 89 rfl ?_
    exact rn_iret hX hr (by rw [henc]; rfl) dX10_count_89
  rw [if_neg hs5]
  by_cases hs6 : x1 = (4 : Int32)
  · rw [if_pos hs6]
    refine rn_tableIn hX dX10_count_1 hs6 (by decide) (by decide) rfl 90 (by decide) ?_
    refine rn_aload_n hX dX10_count_90 0 rfl 91 rfl ?_
    refine rn_get hX inX10 0 rfl rfl 0 (by decide) fl10 rfl rfl dX10_count_91 94 rfl ?_
    refine rn_get hX inX9 8 rfl rfl 0 (by decide) fl94 rfl rfl dX10_count_94 97 rfl ?_
    exact rn_iret hX hr (by rw [henc]; rfl) dX10_count_97
  rw [if_neg hs6]
  by_cases hs7 : x1 = (5 : Int32)
  · rw [if_pos hs7]
    refine rn_tableIn hX dX10_count_1 hs7 (by decide) (by decide) rfl 98 (by decide) ?_
    refine rn_aload_n hX dX10_count_98 0 rfl 99 rfl ?_
    refine rn_get hX inX10 0 rfl rfl 5 (by decide) fl48 rfl rfl dX10_count_99 102 rfl ?_
    refine rn_iconst hX dX10_count_102 103 rfl ic_0 ?_
    refine rn_aald hX (t0 := 4) (n := 4) (f := rf4 a_sheets_0 a_sheets_1 a_sheets_2 a_sheets_3) 4 rfl rfl rfl (vpk (by decide)) rfl dX10_count_103 104 rfl ?_
    refine rn_get hX inX6 5 rfl rfl 0 (by decide) fl355 rfl rfl dX10_count_104 107 rfl ?_
    refine rn_iconst hX dX10_count_107 108 rfl ic_m1 ?_
    refine rn_icmp_ne hX dX10_count_108 116 (by decide) 111 rfl ?_ ?_
    · refine rn_aload_n hX dX10_count_116 0 rfl 117 rfl ?_
      refine rn_get hX inX10 0 rfl rfl 5 (by decide) fl48 rfl rfl dX10_count_117 120 rfl ?_
      refine rn_iconst hX dX10_count_120 121 rfl ic_0 ?_
      refine rn_aald hX (t0 := 4) (n := 4) (f := rf4 a_sheets_0 a_sheets_1 a_sheets_2 a_sheets_3) 4 rfl rfl rfl (vpk (by decide)) rfl dX10_count_121 122 rfl ?_
      refine rn_get hX inX6 5 rfl rfl 1 (by decide) fl358 rfl rfl dX10_count_122 125 rfl ?_
      exact rn_iret hX hr (by rw [henc]; rfl) dX10_count_125
    refine rn_bipush hX dX10_count_111 113 rfl bp_m4 ?_
    refine rn_goto hX dX10_count_113 125 (by decide) ?_
    exact rn_iret hX hr (by rw [henc]; rfl) dX10_count_125
  rw [if_neg hs7]
  refine rn_tableOut hX dX10_count_1 (by have qhs1 := ne_int hs1; rw [show (0 : Int32).toInt = 0 from by decide] at qhs1; have qhs3 := ne_int hs3; rw [show (1 : Int32).toInt = 1 from by decide] at qhs3; have qhs4 := ne_int hs4; rw [show (2 : Int32).toInt = 2 from by decide] at qhs4; have qhs5 := ne_int hs5; rw [show (3 : Int32).toInt = 3 from by decide] at qhs5; have qhs6 := ne_int hs6; rw [show (4 : Int32).toInt = 4 from by decide] at qhs6; have qhs7 := ne_int hs7; rw [show (5 : Int32).toInt = 5 from by decide] at qhs7; have := qhs1; omega) 126 (by decide) ?_
  refine rn_iconst hX dX10_count_126 127 rfl ic_m1 ?_
  exact rn_iret hX hr (by rw [henc]; rfl) dX10_count_127
abbrev rmX11_in : Room := { frames := 0, cells := 0, slots := 0, locals := 0 }
theorem hdS_X11_in : yX11_in.cls ≠ "java/lang/invoke/MethodHandle" ∧ yX11_in.cls ≠ "java/lang/invoke/VarHandle" ∧ (parseMethodDescriptor yX11_in.desc).map (fun d => d.parameters.length) = some 3 := by decide +kernel
set_option maxHeartbeats 4000000 in
set_option maxRecDepth 100000 in
theorem c_X11_in (l : Launch) (G : GT) (x0 : Int64) (x2 : Int64) (x4 : Int64) {u : Int32} (hu : X11_in x0 x2 x4 = u) : Ctr l G yX11_in wsX11_in rmX11_in [.long x0, .long x2, .long x4] [] (some (.int u)) [] := by
  obtain ⟨enc, henc⟩ : ∃ enc : (Int32) → Option Value × va_W, enc = fun u => (((some (.int u)) : Option Value), ([] : va_W)) := ⟨_, rfl⟩
  refine ctr_of (cc := cX11_in) (own := RX11) (E := fun o => some (enc o)) (o := X11_in x0 x2 x4) (by decide) rfl rfl (L := [(0, .long x0), (2, .long x2), (4, .long x4)]) rfl (Nat.le_of_ble_eq_true rfl) (by rw [hu, henc]) ?_
  intro Z hX hl hG hr
  subst hl; subst hG
  unfold X11_in
  refine rn_lload_n hX dX11_in_0 0 rfl 1 rfl ?_
  refine rn_lload_n hX dX11_in_1 1 rfl 2 rfl ?_
  refine rn_lcmp_lt hX dX11_in_2 3 rfl dX11_in_3 17 (by decide) 6 rfl ?_ ?_
  · refine rn_iconst hX dX11_in_17 18 rfl ic_0 ?_
    exact rn_zret hX rfl hr (by rw [henc]) dX11_in_18
  refine rn_lload_n hX dX11_in_6 0 rfl 7 rfl ?_
  refine rn_lload hX dX11_in_7 2 rfl 9 rfl ?_
  refine rn_lcmp_gt hX dX11_in_9 10 rfl dX11_in_10 17 (by decide) 13 rfl ?_ ?_
  · refine rn_iconst hX dX11_in_17 18 rfl ic_0 ?_
    exact rn_zret hX rfl hr (by rw [henc]) dX11_in_18
  refine rn_iconst hX dX11_in_13 14 rfl ic_1 ?_
  refine rn_goto hX dX11_in_14 18 (by decide) ?_
  exact rn_zret hX rfl hr (by rw [henc]) dX11_in_18
abbrev rmX11_awake : Room := { frames := 0, cells := 0, slots := 0, locals := 0 }
theorem hdV_X11_awake : yX11_awake.cls = RX11 ∧ yX11_awake.cls ≠ "java/lang/invoke/MethodHandle" ∧ yX11_awake.cls ≠ "java/lang/invoke/VarHandle" ∧ (parseMethodDescriptor yX11_awake.desc).map (fun d => d.parameters.length) = some 0 := by decide +kernel
set_option maxHeartbeats 4000000 in
set_option maxRecDepth 100000 in
theorem c_X11_awake (l : Launch) (G : GT) (a_this a_state a_readPage a_tape a_letters a_sums a_aside a_groups a_sides a_names a_firstNames a_isKept a_lanes a_lengths a_cells a_had : Nat) (g_isAwake : Int32) (g_taped : Int32) (g_fault : Int32) (g_broken : Int32) (g_brokenAt : Int32) (g_spot : Int32) (g_here : Int32) (g_token : Int32) (g_value : Int32) (g_hasPlaces : Int32) (g_highest : Int32) (g_laid : Int32) (g_groupMany : Int32) (g_isDrawn : Int32) (g_torn : Int32) (g_state : (Nat → Int32)) {u : Int32 × (Nat → Int32)} (hu : X11_awake g_isAwake g_state = u) : Ctr l G yX11_awake wsX11_awake rmX11_awake [.ref a_this] [(a_this, .inr (11, [.ref a_state, .ref a_readPage, .int g_isAwake, .ref a_tape, .int g_taped, .int g_fault, .int g_broken, .int g_brokenAt, .int g_spot, .int g_here, .int g_token, .int g_value, .ref a_letters, .int g_hasPlaces, .int g_highest, .ref a_sums, .ref a_aside, .ref a_groups, .ref a_sides, .int g_laid, .int g_groupMany, .int g_isDrawn, .ref a_names, .ref a_firstNames, .ref a_isKept, .ref a_lanes, .ref a_lengths, .ref a_cells, .int g_torn, .ref a_had])), (a_state, .inl (G.2.1 1, 96, .inl g_state))] none [(a_this, .inr (11, [.ref a_state, .ref a_readPage, .int u.1, .ref a_tape, .int g_taped, .int g_fault, .int g_broken, .int g_brokenAt, .int g_spot, .int g_here, .int g_token, .int g_value, .ref a_letters, .int g_hasPlaces, .int g_highest, .ref a_sums, .ref a_aside, .ref a_groups, .ref a_sides, .int g_laid, .int g_groupMany, .int g_isDrawn, .ref a_names, .ref a_firstNames, .ref a_isKept, .ref a_lanes, .ref a_lengths, .ref a_cells, .int g_torn, .ref a_had])), (a_state, .inl (G.2.1 1, 96, .inl u.2))] := by
  obtain ⟨enc, henc⟩ : ∃ enc : (Int32 × (Nat → Int32)) → Option Value × va_W, enc = fun u => ((none : Option Value), ([(a_this, .inr (11, [.ref a_state, .ref a_readPage, .int u.1, .ref a_tape, .int g_taped, .int g_fault, .int g_broken, .int g_brokenAt, .int g_spot, .int g_here, .int g_token, .int g_value, .ref a_letters, .int g_hasPlaces, .int g_highest, .ref a_sums, .ref a_aside, .ref a_groups, .ref a_sides, .int g_laid, .int g_groupMany, .int g_isDrawn, .ref a_names, .ref a_firstNames, .ref a_isKept, .ref a_lanes, .ref a_lengths, .ref a_cells, .int g_torn, .ref a_had])), (a_state, .inl (G.2.1 1, 96, .inl u.2))] : va_W)) := ⟨_, rfl⟩
  refine ctr_of (cc := cX11_awake) (own := RX11) (E := fun o => some (enc o)) (o := X11_awake g_isAwake g_state) (by decide) rfl rfl (L := [(0, .ref a_this)]) rfl (Nat.le_of_ble_eq_true rfl) (by rw [hu, henc]) ?_
  intro Z hX hl hG hr
  subst hl; subst hG
  have fl56 : (Cond.fieldLink RX11 56 "OnlyFarModel" "isAwake" "Z").before (za Z) (zs Z) = true := hX.wd (mcC _ wd_992)
  have fl7 : (Cond.fieldLink RX11 7 "OnlyFarModel" "state" "[I").before (za Z) (zs Z) = true := hX.wd (mcC _ wd_990)
  have inX11 : ∀ w ∈ u_ws RX11 TX11 30, w ∈ wsX11_awake := fun w h => mcC w (inC_X11 w h)
  unfold X11_awake
  refine rn_aload_n hX dX11_awake_0 0 rfl 1 rfl ?_
  refine rn_get hX inX11 0 rfl rfl 2 (by decide) fl56 rfl rfl dX11_awake_1 4 rfl ?_
  refine rn_if_ne hX dX11_awake_4 20 (by decide) 7 rfl ?_ ?_
  · exact rn_vret hX hr (by rw [henc]) dX11_awake_20
  refine rn_aload_n hX dX11_awake_7 0 rfl 8 rfl ?_
  refine rn_get hX inX11 0 rfl rfl 0 (by decide) fl7 rfl rfl dX11_awake_8 11 rfl ?_
  refine rn_bipush hX dX11_awake_11 13 rfl bp_21 ?_
  refine rn_iconst hX dX11_awake_13 14 rfl ic_3 ?_
  refine rn_iastk hX 1 rfl cl_21 (vpk (by decide)) dX11_awake_14 15 rfl (w1 := fun m1 => [(a_this, .inr (11, [.ref a_state, .ref a_readPage, .int g_isAwake, .ref a_tape, .int g_taped, .int g_fault, .int g_broken, .int g_brokenAt, .int g_spot, .int g_here, .int g_token, .int g_value, .ref a_letters, .int g_hasPlaces, .int g_highest, .ref a_sums, .ref a_aside, .ref a_groups, .ref a_sides, .int g_laid, .int g_groupMany, .int g_isDrawn, .ref a_names, .ref a_firstNames, .ref a_isKept, .ref a_lanes, .ref a_lengths, .ref a_cells, .int g_torn, .ref a_had])), (a_state, .inl ((zG Z).2.1 1, 96, .inl m1))]) (fun _ => rfl) (fun m1 => ?_)
  refine rn_aload_n hX dX11_awake_15 0 rfl 16 rfl ?_
  refine rn_iconst hX dX11_awake_16 17 rfl ic_1 ?_
  refine rn_put hX inX11 tyX11_ok nmX11 0 rfl rfl 2 (by decide) fl56 rfl rfl rfl rfl (Nat.le_of_ble_eq_true rfl) dX11_awake_17 20 rfl (w1 := [(a_this, .inr (11, [.ref a_state, .ref a_readPage, .int (1 : Int32), .ref a_tape, .int g_taped, .int g_fault, .int g_broken, .int g_brokenAt, .int g_spot, .int g_here, .int g_token, .int g_value, .ref a_letters, .int g_hasPlaces, .int g_highest, .ref a_sums, .ref a_aside, .ref a_groups, .ref a_sides, .int g_laid, .int g_groupMany, .int g_isDrawn, .ref a_names, .ref a_firstNames, .ref a_isKept, .ref a_lanes, .ref a_lengths, .ref a_cells, .int g_torn, .ref a_had])), (a_state, .inl ((zG Z).2.1 1, 96, .inl m1))]) rfl ?_
  exact rn_vret hX hr (by rw [henc]) dX11_awake_20
abbrev rmX11_feed : Room := { frames := 0, cells := 0, slots := 0, locals := 0 }
theorem hdV_X11_feed : yX11_feed.cls = RX11 ∧ yX11_feed.cls ≠ "java/lang/invoke/MethodHandle" ∧ yX11_feed.cls ≠ "java/lang/invoke/VarHandle" ∧ (parseMethodDescriptor yX11_feed.desc).map (fun d => d.parameters.length) = some 1 := by decide +kernel
set_option maxHeartbeats 4000000 in
set_option maxRecDepth 100000 in
theorem c_X11_feed (l : Launch) (G : GT) (a_this a_tape a_state a_readPage a_letters a_sums a_aside a_groups a_sides a_names a_firstNames a_isKept a_lanes a_lengths a_cells a_had : Nat) (g_isAwake : Int32) (g_taped : Int32) (g_fault : Int32) (g_broken : Int32) (g_brokenAt : Int32) (g_spot : Int32) (g_here : Int32) (g_token : Int32) (g_value : Int32) (g_hasPlaces : Int32) (g_highest : Int32) (g_laid : Int32) (g_groupMany : Int32) (g_isDrawn : Int32) (g_torn : Int32) (g_tape : (Nat → Int32)) (x1 : Int64) {u : Int32 × Int32 × (Nat → Int32)} (hu : X11_feed x1 g_taped g_tape = some u) : Ctr l G yX11_feed wsX11_feed rmX11_feed [.ref a_this, .long x1] [(a_this, .inr (11, [.ref a_state, .ref a_readPage, .int g_isAwake, .ref a_tape, .int g_taped, .int g_fault, .int g_broken, .int g_brokenAt, .int g_spot, .int g_here, .int g_token, .int g_value, .ref a_letters, .int g_hasPlaces, .int g_highest, .ref a_sums, .ref a_aside, .ref a_groups, .ref a_sides, .int g_laid, .int g_groupMany, .int g_isDrawn, .ref a_names, .ref a_firstNames, .ref a_isKept, .ref a_lanes, .ref a_lengths, .ref a_cells, .int g_torn, .ref a_had])), (a_tape, .inl (G.2.1 1, 320, .inl g_tape))] (some (.int u.1)) [(a_this, .inr (11, [.ref a_state, .ref a_readPage, .int g_isAwake, .ref a_tape, .int u.2.1, .int g_fault, .int g_broken, .int g_brokenAt, .int g_spot, .int g_here, .int g_token, .int g_value, .ref a_letters, .int g_hasPlaces, .int g_highest, .ref a_sums, .ref a_aside, .ref a_groups, .ref a_sides, .int g_laid, .int g_groupMany, .int g_isDrawn, .ref a_names, .ref a_firstNames, .ref a_isKept, .ref a_lanes, .ref a_lengths, .ref a_cells, .int g_torn, .ref a_had])), (a_tape, .inl (G.2.1 1, 320, .inl u.2.2))] := by
  obtain ⟨enc, henc⟩ : ∃ enc : (Int32 × Int32 × (Nat → Int32)) → Option Value × va_W, enc = fun u => (((some (.int u.1)) : Option Value), ([(a_this, .inr (11, [.ref a_state, .ref a_readPage, .int g_isAwake, .ref a_tape, .int u.2.1, .int g_fault, .int g_broken, .int g_brokenAt, .int g_spot, .int g_here, .int g_token, .int g_value, .ref a_letters, .int g_hasPlaces, .int g_highest, .ref a_sums, .ref a_aside, .ref a_groups, .ref a_sides, .int g_laid, .int g_groupMany, .int g_isDrawn, .ref a_names, .ref a_firstNames, .ref a_isKept, .ref a_lanes, .ref a_lengths, .ref a_cells, .int g_torn, .ref a_had])), (a_tape, .inl (G.2.1 1, 320, .inl u.2.2))] : va_W)) := ⟨_, rfl⟩
  refine ctr_of (cc := cX11_feed) (own := RX11) (E := Option.map enc) (o := X11_feed x1 g_taped g_tape) (by decide) rfl rfl (L := [(0, .ref a_this), (1, .long x1)]) rfl (Nat.le_of_ble_eq_true rfl) (by rw [hu, henc]; rfl) ?_
  intro Z hX hl hG hr
  subst hl; subst hG
  have fl16 : (Cond.fieldLink RX11 16 "OnlyFarModel" "tape" "[I").before (za Z) (zs Z) = true := hX.wd (mcC _ wd_993)
  have fl60 : (Cond.fieldLink RX11 60 "OnlyFarModel" "taped" "I").before (za Z) (zs Z) = true := hX.wd (mcC _ wd_994)
  have inX11 : ∀ w ∈ u_ws RX11 TX11 30, w ∈ wsX11_feed := fun w h => mcC w (inC_X11 w h)
  have hB19 : ∀ (again : Int64 → Int32 → Int32 → (Nat → Int32) → Option (Int32 × Int32 × (Nat → Int32))) (hagain : ∀ (x1 : Int64) (x3 : Int32) (g_taped : Int32) (g_tape : (Nat → Int32)), Rn Z 4 (Option.map enc) 0 0 19 [(0, .ref a_this), (1, .long x1), (3, .int x3)] [] [(a_this, .inr (11, [.ref a_state, .ref a_readPage, .int g_isAwake, .ref a_tape, .int g_taped, .int g_fault, .int g_broken, .int g_brokenAt, .int g_spot, .int g_here, .int g_token, .int g_value, .ref a_letters, .int g_hasPlaces, .int g_highest, .ref a_sums, .ref a_aside, .ref a_groups, .ref a_sides, .int g_laid, .int g_groupMany, .int g_isDrawn, .ref a_names, .ref a_firstNames, .ref a_isKept, .ref a_lanes, .ref a_lengths, .ref a_cells, .int g_torn, .ref a_had])), (a_tape, .inl ((zG Z).2.1 1, 320, .inl g_tape))] (again x1 x3 g_taped g_tape)) (x1 : Int64) (x3 : Int32) (g_taped : Int32) (g_tape : (Nat → Int32)), Rn Z 4 (Option.map enc) 0 0 19 [(0, .ref a_this), (1, .long x1), (3, .int x3)] [] [(a_this, .inr (11, [.ref a_state, .ref a_readPage, .int g_isAwake, .ref a_tape, .int g_taped, .int g_fault, .int g_broken, .int g_brokenAt, .int g_spot, .int g_here, .int g_token, .int g_value, .ref a_letters, .int g_hasPlaces, .int g_highest, .ref a_sums, .ref a_aside, .ref a_groups, .ref a_sides, .int g_laid, .int g_groupMany, .int g_isDrawn, .ref a_names, .ref a_firstNames, .ref a_isKept, .ref a_lanes, .ref a_lengths, .ref a_cells, .int g_torn, .ref a_had])), (a_tape, .inl ((zG Z).2.1 1, 320, .inl g_tape))] (X11_feed_B19 again x1 x3 g_taped g_tape) := by
    intro again hagain x1 x3 g_taped g_tape
    unfold X11_feed_B19
    refine rn_iload_n hX dX11_feed_19 2 rfl 20 rfl ?_
    refine rn_if_lt hX dX11_feed_20 56 (by decide) 23 rfl ?_ ?_
    · refine rn_aload_n hX dX11_feed_56 0 rfl 57 rfl ?_
      refine rn_get hX inX11 0 rfl rfl 4 (by decide) fl60 rfl rfl dX11_feed_57 60 rfl ?_
      exact rn_iret hX hr (by rw [henc]; rfl) dX11_feed_60
    refine rn_aload_n hX dX11_feed_23 0 rfl 24 rfl ?_
    refine rn_get hX inX11 0 rfl rfl 3 (by decide) fl16 rfl rfl dX11_feed_24 27 rfl ?_
    refine rn_aload_n hX dX11_feed_27 0 rfl 28 rfl ?_
    refine rn_get hX inX11 0 rfl rfl 4 (by decide) fl60 rfl rfl dX11_feed_28 31 rfl ?_
    refine rn_lload_n hX dX11_feed_31 1 rfl 32 rfl ?_
    refine rn_iload_n hX dX11_feed_32 2 rfl 33 rfl ?_
    refine rn_lshr hX dX11_feed_33 34 rfl ?_
    refine rn_l2i hX dX11_feed_34 35 rfl ?_
    refine rn_sipush hX dX11_feed_35 38 rfl sp_255 ?_
    refine rn_iand hX dX11_feed_38 39 rfl ?_
    refine rn_gd (fun hi1 => ?_)
    refine rn_iast hX 1 rfl hi1 dX11_feed_39 40 rfl (w1 := fun m2 => [(a_this, .inr (11, [.ref a_state, .ref a_readPage, .int g_isAwake, .ref a_tape, .int g_taped, .int g_fault, .int g_broken, .int g_brokenAt, .int g_spot, .int g_here, .int g_token, .int g_value, .ref a_letters, .int g_hasPlaces, .int g_highest, .ref a_sums, .ref a_aside, .ref a_groups, .ref a_sides, .int g_laid, .int g_groupMany, .int g_isDrawn, .ref a_names, .ref a_firstNames, .ref a_isKept, .ref a_lanes, .ref a_lengths, .ref a_cells, .int g_torn, .ref a_had])), (a_tape, .inl ((zG Z).2.1 1, 320, .inl m2))]) (fun _ => rfl) (fun m2 => ?_)
    refine rn_aload_n hX dX11_feed_40 0 rfl 41 rfl ?_
    refine rn_dup hX dX11_feed_41 42 rfl rfl ?_
    refine rn_get hX inX11 0 rfl rfl 4 (by decide) fl60 rfl rfl dX11_feed_42 45 rfl ?_
    refine rn_iconst hX dX11_feed_45 46 rfl ic_1 ?_
    refine rn_iadd hX dX11_feed_46 47 rfl ?_
    refine rn_lati (fun v3 => ?_)
    refine rn_put hX inX11 tyX11_ok nmX11 0 rfl rfl 4 (by decide) fl60 rfl rfl rfl rfl (Nat.le_of_ble_eq_true rfl) dX11_feed_47 50 rfl (w1 := [(a_this, .inr (11, [.ref a_state, .ref a_readPage, .int g_isAwake, .ref a_tape, .int v3, .int g_fault, .int g_broken, .int g_brokenAt, .int g_spot, .int g_here, .int g_token, .int g_value, .ref a_letters, .int g_hasPlaces, .int g_highest, .ref a_sums, .ref a_aside, .ref a_groups, .ref a_sides, .int g_laid, .int g_groupMany, .int g_isDrawn, .ref a_names, .ref a_firstNames, .ref a_isKept, .ref a_lanes, .ref a_lengths, .ref a_cells, .int g_torn, .ref a_had])), (a_tape, .inl ((zG Z).2.1 1, 320, .inl m2))]) rfl ?_
    refine rn_iinc hX dX11_feed_50 2 rfl ic_m8 (by decide) (L' := fun v4 => [(3, .int v4), (0, .ref a_this), (1, .long x1)]) (fun _ => rfl) 53 rfl (fun v4 => ?_)
    refine rn_goto hX dX11_feed_53 19 (by decide) ?_
    refine rn_sub [1, 2, 0] rfl ?_
    exact hagain x1 v4 v3 m2
  have hL19 : ∀ (n : Nat) (x1 : Int64) (x3 : Int32) (g_taped : Int32) (g_tape : (Nat → Int32)), Rn Z 4 (Option.map enc) 0 0 19 [(0, .ref a_this), (1, .long x1), (3, .int x3)] [] [(a_this, .inr (11, [.ref a_state, .ref a_readPage, .int g_isAwake, .ref a_tape, .int g_taped, .int g_fault, .int g_broken, .int g_brokenAt, .int g_spot, .int g_here, .int g_token, .int g_value, .ref a_letters, .int g_hasPlaces, .int g_highest, .ref a_sums, .ref a_aside, .ref a_groups, .ref a_sides, .int g_laid, .int g_groupMany, .int g_isDrawn, .ref a_names, .ref a_firstNames, .ref a_isKept, .ref a_lanes, .ref a_lengths, .ref a_cells, .int g_torn, .ref a_had])), (a_tape, .inl ((zG Z).2.1 1, 320, .inl g_tape))] (X11_feed_L19 n x1 x3 g_taped g_tape) := by
    intro n
    induction n with
    | zero => intros; exact rn_none
    | succ n ih => exact hB19 _ ih
  unfold X11_feed
  refine rn_aload_n hX dX11_feed_0 0 rfl 1 rfl ?_
  refine rn_get hX inX11 0 rfl rfl 4 (by decide) fl60 rfl rfl dX11_feed_1 4 rfl ?_
  refine rn_bipush hX dX11_feed_4 6 rfl bp_8 ?_
  refine rn_iadd hX dX11_feed_6 7 rfl ?_
  refine rn_sipush hX dX11_feed_7 10 rfl sp_320 ?_
  refine rn_icmp_le hX dX11_feed_10 16 (by decide) 13 rfl ?_ ?_
  · refine rn_bipush hX dX11_feed_16 18 rfl bp_56 ?_
    refine rn_istore_n hX dX11_feed_18 3 rfl (by decide) (L' := [(3, .int (56 : Int32)), (0, .ref a_this), (1, .long x1)]) rfl 19 rfl ?_
    refine rn_sub [1, 2, 0] rfl ?_
    exact (hL19  1000) x1 (56 : Int32) g_taped g_tape
  refine rn_bipush hX dX11_feed_13 15 rfl bp_m3 ?_
  exact rn_iret hX hr (by rw [henc]; rfl) dX11_feed_15
abbrev rmX11_end : Room := { frames := 1, cells := 0, slots := 0, locals := 25 }
theorem hdV_X11_end : yX11_end.cls = RX11 ∧ yX11_end.cls ≠ "java/lang/invoke/MethodHandle" ∧ yX11_end.cls ≠ "java/lang/invoke/VarHandle" ∧ (parseMethodDescriptor yX11_end.desc).map (fun d => d.parameters.length) = some 1 := by decide +kernel
set_option maxHeartbeats 4000000 in
set_option maxRecDepth 100000 in
theorem c_X11_end (l : Launch) (G : GT) (a_this a_state a_readPage a_tape a_letters a_sums a_aside a_groups a_sides a_names a_firstNames a_isKept a_lanes a_lengths a_cells a_had : Nat) (g_isAwake : Int32) (g_taped : Int32) (g_fault : Int32) (g_broken : Int32) (g_brokenAt : Int32) (g_spot : Int32) (g_here : Int32) (g_token : Int32) (g_value : Int32) (g_hasPlaces : Int32) (g_highest : Int32) (g_laid : Int32) (g_groupMany : Int32) (g_isDrawn : Int32) (g_torn : Int32) (x1 : Int32) {u : Int32 × Int32} (hu : X11_end x1 g_taped = u) : Ctr l G yX11_end wsX11_end rmX11_end [.ref a_this, .int x1] [(a_this, .inr (11, [.ref a_state, .ref a_readPage, .int g_isAwake, .ref a_tape, .int g_taped, .int g_fault, .int g_broken, .int g_brokenAt, .int g_spot, .int g_here, .int g_token, .int g_value, .ref a_letters, .int g_hasPlaces, .int g_highest, .ref a_sums, .ref a_aside, .ref a_groups, .ref a_sides, .int g_laid, .int g_groupMany, .int g_isDrawn, .ref a_names, .ref a_firstNames, .ref a_isKept, .ref a_lanes, .ref a_lengths, .ref a_cells, .int g_torn, .ref a_had]))] (some (.int u.1)) [(a_this, .inr (11, [.ref a_state, .ref a_readPage, .int g_isAwake, .ref a_tape, .int u.2, .int g_fault, .int g_broken, .int g_brokenAt, .int g_spot, .int g_here, .int g_token, .int g_value, .ref a_letters, .int g_hasPlaces, .int g_highest, .ref a_sums, .ref a_aside, .ref a_groups, .ref a_sides, .int g_laid, .int g_groupMany, .int g_isDrawn, .ref a_names, .ref a_firstNames, .ref a_isKept, .ref a_lanes, .ref a_lengths, .ref a_cells, .int g_torn, .ref a_had]))] := by
  obtain ⟨enc, henc⟩ : ∃ enc : (Int32 × Int32) → Option Value × va_W, enc = fun u => (((some (.int u.1)) : Option Value), ([(a_this, .inr (11, [.ref a_state, .ref a_readPage, .int g_isAwake, .ref a_tape, .int u.2, .int g_fault, .int g_broken, .int g_brokenAt, .int g_spot, .int g_here, .int g_token, .int g_value, .ref a_letters, .int g_hasPlaces, .int g_highest, .ref a_sums, .ref a_aside, .ref a_groups, .ref a_sides, .int g_laid, .int g_groupMany, .int g_isDrawn, .ref a_names, .ref a_firstNames, .ref a_isKept, .ref a_lanes, .ref a_lengths, .ref a_cells, .int g_torn, .ref a_had]))] : va_W)) := ⟨_, rfl⟩
  refine ctr_of (cc := cX11_end) (own := RX11) (E := fun o => some (enc o)) (o := X11_end x1 g_taped) (by decide) rfl rfl (L := [(0, .ref a_this), (1, .int x1)]) rfl (Nat.le_of_ble_eq_true rfl) (by rw [hu, henc]) ?_
  intro Z hX hl hG hr
  subst hl; subst hG
  have fl60 : (Cond.fieldLink RX11 60 "OnlyFarModel" "taped" "I").before (za Z) (zs Z) = true := hX.wd (mcC _ wd_994)
  have inX11 : ∀ w ∈ u_ws RX11 TX11 30, w ∈ wsX11_end := fun w h => mcC w (inC_X11 w h)
  unfold X11_end
  refine rn_iload_n hX dX11_end_0 1 rfl 1 rfl ?_
  refine rn_i2l hX dX11_end_1 2 rfl ?_
  refine rn_lconst hX dX11_end_2 3 rfl lc_0 ?_
  refine rn_aload_n hX dX11_end_3 0 rfl 4 rfl ?_
  refine rn_get hX inX11 0 rfl rfl 4 (by decide) fl60 rfl rfl dX11_end_4 7 rfl ?_
  refine rn_i2l hX dX11_end_7 8 rfl ?_
  refine rn_callS0 hX (gS mcC wd_1090 wd_1091 wd_81 wd_1092) rfl hdS_X11_in rfl rfl ⟨Nat.le_of_ble_eq_true rfl, Nat.le_of_ble_eq_true rfl⟩ (c_X11_in (zl Z) (zG Z) x1.toInt64 (0 : Int64) g_taped.toInt64 rfl) rfl [] rfl rfl rfl (Nat.le_of_ble_eq_true rfl) dX11_end_8 11 rfl (S' := [.int (X11_in x1.toInt64 (0 : Int64) g_taped.toInt64)]) rfl ⟨Nat.zero_le _, Nat.zero_le _⟩ ?_
  refine rn_if_ne hX dX11_end_11 16 (by decide) 14 rfl ?_ ?_
  · refine rn_aload_n hX dX11_end_16 0 rfl 17 rfl ?_
    refine rn_get hX inX11 0 rfl rfl 4 (by decide) fl60 rfl rfl dX11_end_17 20 rfl ?_
    refine rn_istore_n hX dX11_end_20 2 rfl (by decide) (L' := [(2, .int g_taped), (0, .ref a_this), (1, .int x1)]) rfl 21 rfl ?_
    refine rn_aload_n hX dX11_end_21 1 rfl 22 rfl ?_
    refine rn_iload_n hX dX11_end_22 2 rfl 23 rfl ?_
    refine rn_put hX inX11 tyX11_ok nmX11 0 rfl rfl 4 (by decide) fl60 rfl rfl rfl rfl (Nat.le_of_ble_eq_true rfl) dX11_end_23 26 rfl (w1 := [(a_this, .inr (11, [.ref a_state, .ref a_readPage, .int g_isAwake, .ref a_tape, .int x1, .int g_fault, .int g_broken, .int g_brokenAt, .int g_spot, .int g_here, .int g_token, .int g_value, .ref a_letters, .int g_hasPlaces, .int g_highest, .ref a_sums, .ref a_aside, .ref a_groups, .ref a_sides, .int g_laid, .int g_groupMany, .int g_isDrawn, .ref a_names, .ref a_firstNames, .ref a_isKept, .ref a_lanes, .ref a_lengths, .ref a_cells, .int g_torn, .ref a_had]))]) rfl ?_
    refine rn_iload_n hX dX11_end_26 0 rfl 27 rfl ?_
    exact rn_iret hX hr (by rw [henc]) dX11_end_27
  refine rn_iconst hX dX11_end_14 15 rfl ic_m1 ?_
  exact rn_iret hX hr (by rw [henc]) dX11_end_15
abbrev rmX11_byteAt : Room := { frames := 0, cells := 0, slots := 0, locals := 0 }
theorem hdV_X11_byteAt : yX11_byteAt.cls = RX11 ∧ yX11_byteAt.cls ≠ "java/lang/invoke/MethodHandle" ∧ yX11_byteAt.cls ≠ "java/lang/invoke/VarHandle" ∧ (parseMethodDescriptor yX11_byteAt.desc).map (fun d => d.parameters.length) = some 1 := by decide +kernel
set_option maxHeartbeats 4000000 in
set_option maxRecDepth 100000 in
theorem c_X11_byteAt (l : Launch) (G : GT) (a_this a_tape a_state a_readPage a_letters a_sums a_aside a_groups a_sides a_names a_firstNames a_isKept a_lanes a_lengths a_cells a_had : Nat) (g_isAwake : Int32) (g_taped : Int32) (g_fault : Int32) (g_broken : Int32) (g_brokenAt : Int32) (g_spot : Int32) (g_here : Int32) (g_token : Int32) (g_value : Int32) (g_hasPlaces : Int32) (g_highest : Int32) (g_laid : Int32) (g_groupMany : Int32) (g_isDrawn : Int32) (g_torn : Int32) (g_tape : (Nat → Int32)) (x1 : Int32) {u : Int32} (hu : X11_byteAt x1 g_taped g_tape = some u) : Ctr l G yX11_byteAt wsX11_byteAt rmX11_byteAt [.ref a_this, .int x1] [(a_this, .inr (11, [.ref a_state, .ref a_readPage, .int g_isAwake, .ref a_tape, .int g_taped, .int g_fault, .int g_broken, .int g_brokenAt, .int g_spot, .int g_here, .int g_token, .int g_value, .ref a_letters, .int g_hasPlaces, .int g_highest, .ref a_sums, .ref a_aside, .ref a_groups, .ref a_sides, .int g_laid, .int g_groupMany, .int g_isDrawn, .ref a_names, .ref a_firstNames, .ref a_isKept, .ref a_lanes, .ref a_lengths, .ref a_cells, .int g_torn, .ref a_had])), (a_tape, .inl (G.2.1 1, 320, .inl g_tape))] (some (.int u)) [(a_this, .inr (11, [.ref a_state, .ref a_readPage, .int g_isAwake, .ref a_tape, .int g_taped, .int g_fault, .int g_broken, .int g_brokenAt, .int g_spot, .int g_here, .int g_token, .int g_value, .ref a_letters, .int g_hasPlaces, .int g_highest, .ref a_sums, .ref a_aside, .ref a_groups, .ref a_sides, .int g_laid, .int g_groupMany, .int g_isDrawn, .ref a_names, .ref a_firstNames, .ref a_isKept, .ref a_lanes, .ref a_lengths, .ref a_cells, .int g_torn, .ref a_had])), (a_tape, .inl (G.2.1 1, 320, .inl g_tape))] := by
  obtain ⟨enc, henc⟩ : ∃ enc : (Int32) → Option Value × va_W, enc = fun u => (((some (.int u)) : Option Value), ([(a_this, .inr (11, [.ref a_state, .ref a_readPage, .int g_isAwake, .ref a_tape, .int g_taped, .int g_fault, .int g_broken, .int g_brokenAt, .int g_spot, .int g_here, .int g_token, .int g_value, .ref a_letters, .int g_hasPlaces, .int g_highest, .ref a_sums, .ref a_aside, .ref a_groups, .ref a_sides, .int g_laid, .int g_groupMany, .int g_isDrawn, .ref a_names, .ref a_firstNames, .ref a_isKept, .ref a_lanes, .ref a_lengths, .ref a_cells, .int g_torn, .ref a_had])), (a_tape, .inl (G.2.1 1, 320, .inl g_tape))] : va_W)) := ⟨_, rfl⟩
  refine ctr_of (cc := cX11_byteAt) (own := RX11) (E := Option.map enc) (o := X11_byteAt x1 g_taped g_tape) (by decide) rfl rfl (L := [(0, .ref a_this), (1, .int x1)]) rfl (Nat.le_of_ble_eq_true rfl) (by rw [hu, henc]; rfl) ?_
  intro Z hX hl hG hr
  subst hl; subst hG
  have fl16 : (Cond.fieldLink RX11 16 "OnlyFarModel" "tape" "[I").before (za Z) (zs Z) = true := hX.wd (mcC _ wd_993)
  have fl60 : (Cond.fieldLink RX11 60 "OnlyFarModel" "taped" "I").before (za Z) (zs Z) = true := hX.wd (mcC _ wd_994)
  have inX11 : ∀ w ∈ u_ws RX11 TX11 30, w ∈ wsX11_byteAt := fun w h => mcC w (inC_X11 w h)
  unfold X11_byteAt
  refine rn_iload_n hX dX11_byteAt_0 1 rfl 1 rfl ?_
  refine rn_aload_n hX dX11_byteAt_1 0 rfl 2 rfl ?_
  refine rn_get hX inX11 0 rfl rfl 4 (by decide) fl60 rfl rfl dX11_byteAt_2 5 rfl ?_
  refine rn_icmp_ge hX dX11_byteAt_5 17 (by decide) 8 rfl ?_ ?_
  · refine rn_bipush hX dX11_byteAt_17 19 rfl bp_m4 ?_
    exact rn_iret hX hr (by rw [henc]; rfl) dX11_byteAt_19
  refine rn_aload_n hX dX11_byteAt_8 0 rfl 9 rfl ?_
  refine rn_get hX inX11 0 rfl rfl 3 (by decide) fl16 rfl rfl dX11_byteAt_9 12 rfl ?_
  refine rn_iload_n hX dX11_byteAt_12 1 rfl 13 rfl ?_
  refine rn_gd (fun hi1 => ?_)
  refine rn_iald hX 1 rfl hi1 dX11_byteAt_13 14 rfl ?_
  refine rn_goto hX dX11_byteAt_14 19 (by decide) ?_
  exact rn_iret hX hr (by rw [henc]; rfl) dX11_byteAt_19
abbrev rmX11_fails : Room := { frames := 0, cells := 0, slots := 0, locals := 0 }
theorem hdV_X11_fails : yX11_fails.cls = RX11 ∧ yX11_fails.cls ≠ "java/lang/invoke/MethodHandle" ∧ yX11_fails.cls ≠ "java/lang/invoke/VarHandle" ∧ (parseMethodDescriptor yX11_fails.desc).map (fun d => d.parameters.length) = some 1 := by decide +kernel
set_option maxHeartbeats 4000000 in
set_option maxRecDepth 100000 in
theorem c_X11_fails (l : Launch) (G : GT) (a_this a_state a_readPage a_tape a_letters a_sums a_aside a_groups a_sides a_names a_firstNames a_isKept a_lanes a_lengths a_cells a_had : Nat) (g_isAwake : Int32) (g_taped : Int32) (g_fault : Int32) (g_broken : Int32) (g_brokenAt : Int32) (g_spot : Int32) (g_here : Int32) (g_token : Int32) (g_value : Int32) (g_hasPlaces : Int32) (g_highest : Int32) (g_laid : Int32) (g_groupMany : Int32) (g_isDrawn : Int32) (g_torn : Int32) (x1 : Int32) {u : Int32 × Int32} (hu : X11_fails x1 g_broken g_brokenAt g_here = u) : Ctr l G yX11_fails wsX11_fails rmX11_fails [.ref a_this, .int x1] [(a_this, .inr (11, [.ref a_state, .ref a_readPage, .int g_isAwake, .ref a_tape, .int g_taped, .int g_fault, .int g_broken, .int g_brokenAt, .int g_spot, .int g_here, .int g_token, .int g_value, .ref a_letters, .int g_hasPlaces, .int g_highest, .ref a_sums, .ref a_aside, .ref a_groups, .ref a_sides, .int g_laid, .int g_groupMany, .int g_isDrawn, .ref a_names, .ref a_firstNames, .ref a_isKept, .ref a_lanes, .ref a_lengths, .ref a_cells, .int g_torn, .ref a_had]))] none [(a_this, .inr (11, [.ref a_state, .ref a_readPage, .int g_isAwake, .ref a_tape, .int g_taped, .int g_fault, .int u.1, .int u.2, .int g_spot, .int g_here, .int g_token, .int g_value, .ref a_letters, .int g_hasPlaces, .int g_highest, .ref a_sums, .ref a_aside, .ref a_groups, .ref a_sides, .int g_laid, .int g_groupMany, .int g_isDrawn, .ref a_names, .ref a_firstNames, .ref a_isKept, .ref a_lanes, .ref a_lengths, .ref a_cells, .int g_torn, .ref a_had]))] := by
  obtain ⟨enc, henc⟩ : ∃ enc : (Int32 × Int32) → Option Value × va_W, enc = fun u => ((none : Option Value), ([(a_this, .inr (11, [.ref a_state, .ref a_readPage, .int g_isAwake, .ref a_tape, .int g_taped, .int g_fault, .int u.1, .int u.2, .int g_spot, .int g_here, .int g_token, .int g_value, .ref a_letters, .int g_hasPlaces, .int g_highest, .ref a_sums, .ref a_aside, .ref a_groups, .ref a_sides, .int g_laid, .int g_groupMany, .int g_isDrawn, .ref a_names, .ref a_firstNames, .ref a_isKept, .ref a_lanes, .ref a_lengths, .ref a_cells, .int g_torn, .ref a_had]))] : va_W)) := ⟨_, rfl⟩
  refine ctr_of (cc := cX11_fails) (own := RX11) (E := fun o => some (enc o)) (o := X11_fails x1 g_broken g_brokenAt g_here) (by decide) rfl rfl (L := [(0, .ref a_this), (1, .int x1)]) rfl (Nat.le_of_ble_eq_true rfl) (by rw [hu, henc]) ?_
  intro Z hX hl hG hr
  subst hl; subst hG
  have fl68 : (Cond.fieldLink RX11 68 "OnlyFarModel" "broken" "I").before (za Z) (zs Z) = true := hX.wd (mcC _ wd_996)
  have fl71 : (Cond.fieldLink RX11 71 "OnlyFarModel" "here" "I").before (za Z) (zs Z) = true := hX.wd (mcC _ wd_999)
  have fl74 : (Cond.fieldLink RX11 74 "OnlyFarModel" "brokenAt" "I").before (za Z) (zs Z) = true := hX.wd (mcC _ wd_997)
  have inX11 : ∀ w ∈ u_ws RX11 TX11 30, w ∈ wsX11_fails := fun w h => mcC w (inC_X11 w h)
  unfold X11_fails
  refine rn_aload_n hX dX11_fails_0 0 rfl 1 rfl ?_
  refine rn_get hX inX11 0 rfl rfl 6 (by decide) fl68 rfl rfl dX11_fails_1 4 rfl ?_
  refine rn_if_ne hX dX11_fails_4 20 (by decide) 7 rfl ?_ ?_
  · exact rn_vret hX hr (by rw [henc]) dX11_fails_20
  refine rn_aload_n hX dX11_fails_7 0 rfl 8 rfl ?_
  refine rn_iload_n hX dX11_fails_8 1 rfl 9 rfl ?_
  refine rn_put hX inX11 tyX11_ok nmX11 0 rfl rfl 6 (by decide) fl68 rfl rfl rfl rfl (Nat.le_of_ble_eq_true rfl) dX11_fails_9 12 rfl (w1 := [(a_this, .inr (11, [.ref a_state, .ref a_readPage, .int g_isAwake, .ref a_tape, .int g_taped, .int g_fault, .int x1, .int g_brokenAt, .int g_spot, .int g_here, .int g_token, .int g_value, .ref a_letters, .int g_hasPlaces, .int g_highest, .ref a_sums, .ref a_aside, .ref a_groups, .ref a_sides, .int g_laid, .int g_groupMany, .int g_isDrawn, .ref a_names, .ref a_firstNames, .ref a_isKept, .ref a_lanes, .ref a_lengths, .ref a_cells, .int g_torn, .ref a_had]))]) rfl ?_
  refine rn_aload_n hX dX11_fails_12 0 rfl 13 rfl ?_
  refine rn_aload_n hX dX11_fails_13 0 rfl 14 rfl ?_
  refine rn_get hX inX11 0 rfl rfl 9 (by decide) fl71 rfl rfl dX11_fails_14 17 rfl ?_
  refine rn_put hX inX11 tyX11_ok nmX11 0 rfl rfl 7 (by decide) fl74 rfl rfl rfl rfl (Nat.le_of_ble_eq_true rfl) dX11_fails_17 20 rfl (w1 := [(a_this, .inr (11, [.ref a_state, .ref a_readPage, .int g_isAwake, .ref a_tape, .int g_taped, .int g_fault, .int x1, .int g_here, .int g_spot, .int g_here, .int g_token, .int g_value, .ref a_letters, .int g_hasPlaces, .int g_highest, .ref a_sums, .ref a_aside, .ref a_groups, .ref a_sides, .int g_laid, .int g_groupMany, .int g_isDrawn, .ref a_names, .ref a_firstNames, .ref a_isKept, .ref a_lanes, .ref a_lengths, .ref a_cells, .int g_torn, .ref a_had]))]) rfl ?_
  exact rn_vret hX hr (by rw [henc]) dX11_fails_20
abbrev rmX11_isName : Room := { frames := 1, cells := 0, slots := 0, locals := 21 }
theorem hdV_X11_isName : yX11_isName.cls = RX11 ∧ yX11_isName.cls ≠ "java/lang/invoke/MethodHandle" ∧ yX11_isName.cls ≠ "java/lang/invoke/VarHandle" ∧ (parseMethodDescriptor yX11_isName.desc).map (fun d => d.parameters.length) = some 2 := by decide +kernel
set_option maxHeartbeats 4000000 in
set_option maxRecDepth 100000 in
theorem c_X11_isName (l : Launch) (G : GT) (a_this a_letters a_tape a_state a_readPage a_sums a_aside a_groups a_sides a_names a_firstNames a_isKept a_lanes a_lengths a_cells a_had : Nat) (g_isAwake : Int32) (g_taped : Int32) (g_fault : Int32) (g_broken : Int32) (g_brokenAt : Int32) (g_spot : Int32) (g_here : Int32) (g_token : Int32) (g_value : Int32) (g_hasPlaces : Int32) (g_highest : Int32) (g_laid : Int32) (g_groupMany : Int32) (g_isDrawn : Int32) (g_torn : Int32) (g_letters : (Nat → Int32)) (g_tape : (Nat → Int32)) (x1 : Int32) (x2 : Int32) {u : Int32} (hu : X11_isName x1 x2 g_here g_spot g_taped g_token g_letters g_tape = some u) : Ctr l G yX11_isName wsX11_isName rmX11_isName [.ref a_this, .int x1, .int x2] [(a_this, .inr (11, [.ref a_state, .ref a_readPage, .int g_isAwake, .ref a_tape, .int g_taped, .int g_fault, .int g_broken, .int g_brokenAt, .int g_spot, .int g_here, .int g_token, .int g_value, .ref a_letters, .int g_hasPlaces, .int g_highest, .ref a_sums, .ref a_aside, .ref a_groups, .ref a_sides, .int g_laid, .int g_groupMany, .int g_isDrawn, .ref a_names, .ref a_firstNames, .ref a_isKept, .ref a_lanes, .ref a_lengths, .ref a_cells, .int g_torn, .ref a_had])), (a_letters, .inl (G.2.1 1, 9, .inl g_letters)), (a_tape, .inl (G.2.1 1, 320, .inl g_tape))] (some (.int u)) [(a_this, .inr (11, [.ref a_state, .ref a_readPage, .int g_isAwake, .ref a_tape, .int g_taped, .int g_fault, .int g_broken, .int g_brokenAt, .int g_spot, .int g_here, .int g_token, .int g_value, .ref a_letters, .int g_hasPlaces, .int g_highest, .ref a_sums, .ref a_aside, .ref a_groups, .ref a_sides, .int g_laid, .int g_groupMany, .int g_isDrawn, .ref a_names, .ref a_firstNames, .ref a_isKept, .ref a_lanes, .ref a_lengths, .ref a_cells, .int g_torn, .ref a_had])), (a_letters, .inl (G.2.1 1, 9, .inl g_letters)), (a_tape, .inl (G.2.1 1, 320, .inl g_tape))] := by
  obtain ⟨enc, henc⟩ : ∃ enc : (Int32) → Option Value × va_W, enc = fun u => (((some (.int u)) : Option Value), ([(a_this, .inr (11, [.ref a_state, .ref a_readPage, .int g_isAwake, .ref a_tape, .int g_taped, .int g_fault, .int g_broken, .int g_brokenAt, .int g_spot, .int g_here, .int g_token, .int g_value, .ref a_letters, .int g_hasPlaces, .int g_highest, .ref a_sums, .ref a_aside, .ref a_groups, .ref a_sides, .int g_laid, .int g_groupMany, .int g_isDrawn, .ref a_names, .ref a_firstNames, .ref a_isKept, .ref a_lanes, .ref a_lengths, .ref a_cells, .int g_torn, .ref a_had])), (a_letters, .inl (G.2.1 1, 9, .inl g_letters)), (a_tape, .inl (G.2.1 1, 320, .inl g_tape))] : va_W)) := ⟨_, rfl⟩
  refine ctr_of (cc := cX11_isName) (own := RX11) (E := Option.map enc) (o := X11_isName x1 x2 g_here g_spot g_taped g_token g_letters g_tape) (by decide) rfl rfl (L := [(0, .ref a_this), (1, .int x1), (2, .int x2)]) rfl (Nat.le_of_ble_eq_true rfl) (by rw [hu, henc]; rfl) ?_
  intro Z hX hl hG hr
  subst hl; subst hG
  have fl19 : (Cond.fieldLink RX11 19 "OnlyFarModel" "letters" "[I").before (za Z) (zs Z) = true := hX.wd (mcC _ wd_1002)
  have fl71 : (Cond.fieldLink RX11 71 "OnlyFarModel" "here" "I").before (za Z) (zs Z) = true := hX.wd (mcC _ wd_999)
  have fl77 : (Cond.fieldLink RX11 77 "OnlyFarModel" "token" "I").before (za Z) (zs Z) = true := hX.wd (mcC _ wd_1000)
  have fl80 : (Cond.fieldLink RX11 80 "OnlyFarModel" "spot" "I").before (za Z) (zs Z) = true := hX.wd (mcC _ wd_998)
  have inX11 : ∀ w ∈ u_ws RX11 TX11 30, w ∈ wsX11_isName := fun w h => mcC w (inC_X11 w h)
  have hJ72 : ∀ (again : Int32 → Int32 → Int32 → Int32 → Option (Int32)) (hagain : ∀ (x1 : Int32) (x2 : Int32) (x3 : Int32) (x4 : Int32), Rn Z 5 (Option.map enc) 0 0 32 [(0, .ref a_this), (1, .int x1), (2, .int x2), (3, .int x3), (4, .int x4)] [] [(a_this, .inr (11, [.ref a_state, .ref a_readPage, .int g_isAwake, .ref a_tape, .int g_taped, .int g_fault, .int g_broken, .int g_brokenAt, .int g_spot, .int g_here, .int g_token, .int g_value, .ref a_letters, .int g_hasPlaces, .int g_highest, .ref a_sums, .ref a_aside, .ref a_groups, .ref a_sides, .int g_laid, .int g_groupMany, .int g_isDrawn, .ref a_names, .ref a_firstNames, .ref a_isKept, .ref a_lanes, .ref a_lengths, .ref a_cells, .int g_torn, .ref a_had])), (a_letters, .inl ((zG Z).2.1 1, 9, .inl g_letters)), (a_tape, .inl ((zG Z).2.1 1, 320, .inl g_tape))] (again x1 x2 x3 x4)) (x1 : Int32) (x2 : Int32) (x4 : Int32) (s0 : Int32), Rn Z 5 (Option.map enc) 0 0 72 [(0, .ref a_this), (1, .int x1), (2, .int x2), (4, .int x4)] [.int s0] [(a_this, .inr (11, [.ref a_state, .ref a_readPage, .int g_isAwake, .ref a_tape, .int g_taped, .int g_fault, .int g_broken, .int g_brokenAt, .int g_spot, .int g_here, .int g_token, .int g_value, .ref a_letters, .int g_hasPlaces, .int g_highest, .ref a_sums, .ref a_aside, .ref a_groups, .ref a_sides, .int g_laid, .int g_groupMany, .int g_isDrawn, .ref a_names, .ref a_firstNames, .ref a_isKept, .ref a_lanes, .ref a_lengths, .ref a_cells, .int g_torn, .ref a_had])), (a_letters, .inl ((zG Z).2.1 1, 9, .inl g_letters)), (a_tape, .inl ((zG Z).2.1 1, 320, .inl g_tape))] (X11_isName_J72 again x1 x2 x4 s0) := by
    intro again hagain x1 x2 x4 s0
    unfold X11_isName_J72
    refine rn_istore_n hX dX11_isName_72 3 rfl (by decide) (L' := [(3, .int s0), (0, .ref a_this), (1, .int x1), (2, .int x2), (4, .int x4)]) rfl 73 rfl ?_
    refine rn_iinc hX dX11_isName_73 4 rfl ic_1 (by decide) (L' := fun v1 => [(4, .int v1), (3, .int s0), (0, .ref a_this), (1, .int x1), (2, .int x2)]) (fun _ => rfl) 76 rfl (fun v1 => ?_)
    refine rn_goto hX dX11_isName_76 32 (by decide) ?_
    refine rn_sub [2, 3, 4, 1, 0] rfl ?_
    exact hagain x1 x2 s0 v1
  have hB32 : ∀ (again : Int32 → Int32 → Int32 → Int32 → Option (Int32)) (hagain : ∀ (x1 : Int32) (x2 : Int32) (x3 : Int32) (x4 : Int32), Rn Z 5 (Option.map enc) 0 0 32 [(0, .ref a_this), (1, .int x1), (2, .int x2), (3, .int x3), (4, .int x4)] [] [(a_this, .inr (11, [.ref a_state, .ref a_readPage, .int g_isAwake, .ref a_tape, .int g_taped, .int g_fault, .int g_broken, .int g_brokenAt, .int g_spot, .int g_here, .int g_token, .int g_value, .ref a_letters, .int g_hasPlaces, .int g_highest, .ref a_sums, .ref a_aside, .ref a_groups, .ref a_sides, .int g_laid, .int g_groupMany, .int g_isDrawn, .ref a_names, .ref a_firstNames, .ref a_isKept, .ref a_lanes, .ref a_lengths, .ref a_cells, .int g_torn, .ref a_had])), (a_letters, .inl ((zG Z).2.1 1, 9, .inl g_letters)), (a_tape, .inl ((zG Z).2.1 1, 320, .inl g_tape))] (again x1 x2 x3 x4)) (x1 : Int32) (x2 : Int32) (x3 : Int32) (x4 : Int32), Rn Z 5 (Option.map enc) 0 0 32 [(0, .ref a_this), (1, .int x1), (2, .int x2), (3, .int x3), (4, .int x4)] [] [(a_this, .inr (11, [.ref a_state, .ref a_readPage, .int g_isAwake, .ref a_tape, .int g_taped, .int g_fault, .int g_broken, .int g_brokenAt, .int g_spot, .int g_here, .int g_token, .int g_value, .ref a_letters, .int g_hasPlaces, .int g_highest, .ref a_sums, .ref a_aside, .ref a_groups, .ref a_sides, .int g_laid, .int g_groupMany, .int g_isDrawn, .ref a_names, .ref a_firstNames, .ref a_isKept, .ref a_lanes, .ref a_lengths, .ref a_cells, .int g_torn, .ref a_had])), (a_letters, .inl ((zG Z).2.1 1, 9, .inl g_letters)), (a_tape, .inl ((zG Z).2.1 1, 320, .inl g_tape))] (X11_isName_B32 g_here g_taped g_letters g_tape again x1 x2 x3 x4) := by
    intro again hagain x1 x2 x3 x4
    unfold X11_isName_B32
    refine rn_iload_n hX dX11_isName_32 3 rfl 33 rfl ?_
    refine rn_if_eq hX dX11_isName_33 79 (by decide) 36 rfl ?_ ?_
    · refine rn_iload_n hX dX11_isName_79 3 rfl 80 rfl ?_
      refine rn_gz (fun hz2 => ?_)
      exact rn_zret hX (nar_z hz2) hr (by rw [henc]; rfl) dX11_isName_80
    refine rn_iload hX dX11_isName_36 4 rfl 38 rfl ?_
    refine rn_iload_n hX dX11_isName_38 2 rfl 39 rfl ?_
    refine rn_iload_n hX dX11_isName_39 1 rfl 40 rfl ?_
    refine rn_isub hX dX11_isName_40 41 rfl ?_
    refine rn_icmp_ge hX dX11_isName_41 79 (by decide) 44 rfl ?_ ?_
    · refine rn_iload_n hX dX11_isName_79 3 rfl 80 rfl ?_
      refine rn_gz (fun hz3 => ?_)
      exact rn_zret hX (nar_z hz3) hr (by rw [henc]; rfl) dX11_isName_80
    refine rn_aload_n hX dX11_isName_44 0 rfl 45 rfl ?_
    refine rn_aload_n hX dX11_isName_45 0 rfl 46 rfl ?_
    refine rn_get hX inX11 0 rfl rfl 9 (by decide) fl71 rfl rfl dX11_isName_46 49 rfl ?_
    refine rn_iload hX dX11_isName_49 4 rfl 51 rfl ?_
    refine rn_iadd hX dX11_isName_51 52 rfl ?_
    refine rn_bind (fun u4 hu4 => ?_)
    refine rn_callV0 hX (gV mcC wd_1101 wd_1103 wd_26 wd_81 wd_1104) rfl hdV_X11_byteAt rfl rfl ⟨Nat.le_of_ble_eq_true rfl, Nat.le_of_ble_eq_true rfl⟩ (c_X11_byteAt (zl Z) (zG Z) a_this a_tape a_state a_readPage a_letters a_sums a_aside a_groups a_sides a_names a_firstNames a_isKept a_lanes a_lengths a_cells a_had g_isAwake g_taped g_fault g_broken g_brokenAt g_spot g_here g_token g_value g_hasPlaces g_highest g_laid g_groupMany g_isDrawn g_torn g_tape (g_here + x4) hu4) rfl [0, 2] rfl rfl (ci := 11) rfl rfl rfl (Nat.le_of_ble_eq_true rfl) dX11_isName_52 55 rfl (S' := [.int u4]) rfl ⟨Nat.zero_le _, Nat.zero_le _⟩ ?_
    refine rn_aload_n hX dX11_isName_55 0 rfl 56 rfl ?_
    refine rn_get hX inX11 0 rfl rfl 12 (by decide) fl19 rfl rfl dX11_isName_56 59 rfl ?_
    refine rn_iload_n hX dX11_isName_59 1 rfl 60 rfl ?_
    refine rn_iload hX dX11_isName_60 4 rfl 62 rfl ?_
    refine rn_iadd hX dX11_isName_62 63 rfl ?_
    refine rn_gd (fun hi5 => ?_)
    refine rn_iald hX 1 rfl hi5 dX11_isName_63 64 rfl ?_
    refine rn_icmp_ne hX dX11_isName_64 71 (by decide) 67 rfl ?_ ?_
    · refine rn_iconst hX dX11_isName_71 72 rfl ic_0 ?_
      refine rn_sub [0, 1, 2, 4] rfl ?_
      exact (hJ72 _ hagain) x1 x2 x4 (0 : Int32)
    refine rn_iconst hX dX11_isName_67 68 rfl ic_1 ?_
    refine rn_goto hX dX11_isName_68 72 (by decide) ?_
    refine rn_sub [0, 1, 2, 4] rfl ?_
    exact (hJ72 _ hagain) x1 x2 x4 (1 : Int32)
  have hL32 : ∀ (n : Nat) (x1 : Int32) (x2 : Int32) (x3 : Int32) (x4 : Int32), Rn Z 5 (Option.map enc) 0 0 32 [(0, .ref a_this), (1, .int x1), (2, .int x2), (3, .int x3), (4, .int x4)] [] [(a_this, .inr (11, [.ref a_state, .ref a_readPage, .int g_isAwake, .ref a_tape, .int g_taped, .int g_fault, .int g_broken, .int g_brokenAt, .int g_spot, .int g_here, .int g_token, .int g_value, .ref a_letters, .int g_hasPlaces, .int g_highest, .ref a_sums, .ref a_aside, .ref a_groups, .ref a_sides, .int g_laid, .int g_groupMany, .int g_isDrawn, .ref a_names, .ref a_firstNames, .ref a_isKept, .ref a_lanes, .ref a_lengths, .ref a_cells, .int g_torn, .ref a_had])), (a_letters, .inl ((zG Z).2.1 1, 9, .inl g_letters)), (a_tape, .inl ((zG Z).2.1 1, 320, .inl g_tape))] (X11_isName_L32 g_here g_taped g_letters g_tape n x1 x2 x3 x4) := by
    intro n
    induction n with
    | zero => intros; exact rn_none
    | succ n ih => exact hB32 _ ih
  have hJ28 : ∀ (x1 : Int32) (x2 : Int32) (s0 : Int32), Rn Z 5 (Option.map enc) 0 0 28 [(0, .ref a_this), (1, .int x1), (2, .int x2)] [.int s0] [(a_this, .inr (11, [.ref a_state, .ref a_readPage, .int g_isAwake, .ref a_tape, .int g_taped, .int g_fault, .int g_broken, .int g_brokenAt, .int g_spot, .int g_here, .int g_token, .int g_value, .ref a_letters, .int g_hasPlaces, .int g_highest, .ref a_sums, .ref a_aside, .ref a_groups, .ref a_sides, .int g_laid, .int g_groupMany, .int g_isDrawn, .ref a_names, .ref a_firstNames, .ref a_isKept, .ref a_lanes, .ref a_lengths, .ref a_cells, .int g_torn, .ref a_had])), (a_letters, .inl ((zG Z).2.1 1, 9, .inl g_letters)), (a_tape, .inl ((zG Z).2.1 1, 320, .inl g_tape))] (X11_isName_J28 g_here g_taped g_letters g_tape x1 x2 s0) := by
    intro x1 x2 s0
    unfold X11_isName_J28
    refine rn_istore_n hX dX11_isName_28 3 rfl (by decide) (L' := [(3, .int s0), (0, .ref a_this), (1, .int x1), (2, .int x2)]) rfl 29 rfl ?_
    refine rn_iconst hX dX11_isName_29 30 rfl ic_0 ?_
    refine rn_istore hX dX11_isName_30 (by decide) (L' := [(4, .int (0 : Int32)), (3, .int s0), (0, .ref a_this), (1, .int x1), (2, .int x2)]) rfl 32 rfl ?_
    refine rn_sub [2, 3, 4, 1, 0] rfl ?_
    exact (hL32  1000) x1 x2 s0 (0 : Int32)
  have hJ27 : ∀ (x1 : Int32) (x2 : Int32), Rn Z 5 (Option.map enc) 0 0 27 [(0, .ref a_this), (1, .int x1), (2, .int x2)] [] [(a_this, .inr (11, [.ref a_state, .ref a_readPage, .int g_isAwake, .ref a_tape, .int g_taped, .int g_fault, .int g_broken, .int g_brokenAt, .int g_spot, .int g_here, .int g_token, .int g_value, .ref a_letters, .int g_hasPlaces, .int g_highest, .ref a_sums, .ref a_aside, .ref a_groups, .ref a_sides, .int g_laid, .int g_groupMany, .int g_isDrawn, .ref a_names, .ref a_firstNames, .ref a_isKept, .ref a_lanes, .ref a_lengths, .ref a_cells, .int g_torn, .ref a_had])), (a_letters, .inl ((zG Z).2.1 1, 9, .inl g_letters)), (a_tape, .inl ((zG Z).2.1 1, 320, .inl g_tape))] (X11_isName_J27 g_here g_taped g_letters g_tape x1 x2) := by
    intro x1 x2
    unfold X11_isName_J27
    refine rn_iconst hX dX11_isName_27 28 rfl ic_0 ?_
    exact hJ28 x1 x2 (0 : Int32)
  unfold X11_isName
  refine rn_aload_n hX dX11_isName_0 0 rfl 1 rfl ?_
  refine rn_get hX inX11 0 rfl rfl 10 (by decide) fl77 rfl rfl dX11_isName_1 4 rfl ?_
  refine rn_iconst hX dX11_isName_4 5 rfl ic_1 ?_
  refine rn_icmp_ne hX dX11_isName_5 27 (by decide) 8 rfl ?_ ?_
  · exact hJ27 x1 x2
  refine rn_aload_n hX dX11_isName_8 0 rfl 9 rfl ?_
  refine rn_get hX inX11 0 rfl rfl 8 (by decide) fl80 rfl rfl dX11_isName_9 12 rfl ?_
  refine rn_aload_n hX dX11_isName_12 0 rfl 13 rfl ?_
  refine rn_get hX inX11 0 rfl rfl 9 (by decide) fl71 rfl rfl dX11_isName_13 16 rfl ?_
  refine rn_isub hX dX11_isName_16 17 rfl ?_
  refine rn_iload_n hX dX11_isName_17 2 rfl 18 rfl ?_
  refine rn_iload_n hX dX11_isName_18 1 rfl 19 rfl ?_
  refine rn_isub hX dX11_isName_19 20 rfl ?_
  refine rn_icmp_ne hX dX11_isName_20 27 (by decide) 23 rfl ?_ ?_
  · exact hJ27 x1 x2
  refine rn_iconst hX dX11_isName_23 24 rfl ic_1 ?_
  refine rn_goto hX dX11_isName_24 28 (by decide) ?_
  exact hJ28 x1 x2 (1 : Int32)
abbrev rmX11_step : Room := { frames := 1, cells := 0, slots := 0, locals := 25 }
theorem hdV_X11_step : yX11_step.cls = RX11 ∧ yX11_step.cls ≠ "java/lang/invoke/MethodHandle" ∧ yX11_step.cls ≠ "java/lang/invoke/VarHandle" ∧ (parseMethodDescriptor yX11_step.desc).map (fun d => d.parameters.length) = some 0 := by decide +kernel
set_option maxHeartbeats 4000000 in
set_option maxRecDepth 100000 in
theorem c_X11_step (l : Launch) (G : GT) (a_this a_tape a_state a_readPage a_letters a_sums a_aside a_groups a_sides a_names a_firstNames a_isKept a_lanes a_lengths a_cells a_had : Nat) (g_isAwake : Int32) (g_taped : Int32) (g_fault : Int32) (g_broken : Int32) (g_brokenAt : Int32) (g_spot : Int32) (g_here : Int32) (g_token : Int32) (g_value : Int32) (g_hasPlaces : Int32) (g_highest : Int32) (g_laid : Int32) (g_groupMany : Int32) (g_isDrawn : Int32) (g_torn : Int32) (g_tape : (Nat → Int32)) {u : Int32 × Int32 × Int32 × Int32 × Int32 × Int32} (hu : X11_step g_broken g_brokenAt g_here g_spot g_taped g_token g_value g_tape = some u) : Ctr l G yX11_step wsX11_step rmX11_step [.ref a_this] [(a_this, .inr (11, [.ref a_state, .ref a_readPage, .int g_isAwake, .ref a_tape, .int g_taped, .int g_fault, .int g_broken, .int g_brokenAt, .int g_spot, .int g_here, .int g_token, .int g_value, .ref a_letters, .int g_hasPlaces, .int g_highest, .ref a_sums, .ref a_aside, .ref a_groups, .ref a_sides, .int g_laid, .int g_groupMany, .int g_isDrawn, .ref a_names, .ref a_firstNames, .ref a_isKept, .ref a_lanes, .ref a_lengths, .ref a_cells, .int g_torn, .ref a_had])), (a_tape, .inl (G.2.1 1, 320, .inl g_tape))] none [(a_this, .inr (11, [.ref a_state, .ref a_readPage, .int g_isAwake, .ref a_tape, .int g_taped, .int g_fault, .int u.1, .int u.2.1, .int u.2.2.2.1, .int u.2.2.1, .int u.2.2.2.2.1, .int u.2.2.2.2.2, .ref a_letters, .int g_hasPlaces, .int g_highest, .ref a_sums, .ref a_aside, .ref a_groups, .ref a_sides, .int g_laid, .int g_groupMany, .int g_isDrawn, .ref a_names, .ref a_firstNames, .ref a_isKept, .ref a_lanes, .ref a_lengths, .ref a_cells, .int g_torn, .ref a_had])), (a_tape, .inl (G.2.1 1, 320, .inl g_tape))] := by
  obtain ⟨enc, henc⟩ : ∃ enc : (Int32 × Int32 × Int32 × Int32 × Int32 × Int32) → Option Value × va_W, enc = fun u => ((none : Option Value), ([(a_this, .inr (11, [.ref a_state, .ref a_readPage, .int g_isAwake, .ref a_tape, .int g_taped, .int g_fault, .int u.1, .int u.2.1, .int u.2.2.2.1, .int u.2.2.1, .int u.2.2.2.2.1, .int u.2.2.2.2.2, .ref a_letters, .int g_hasPlaces, .int g_highest, .ref a_sums, .ref a_aside, .ref a_groups, .ref a_sides, .int g_laid, .int g_groupMany, .int g_isDrawn, .ref a_names, .ref a_firstNames, .ref a_isKept, .ref a_lanes, .ref a_lengths, .ref a_cells, .int g_torn, .ref a_had])), (a_tape, .inl (G.2.1 1, 320, .inl g_tape))] : va_W)) := ⟨_, rfl⟩
  refine ctr_of (cc := cX11_step) (own := RX11) (E := Option.map enc) (o := X11_step g_broken g_brokenAt g_here g_spot g_taped g_token g_value g_tape) (by decide) rfl rfl (L := [(0, .ref a_this)]) rfl (Nat.le_of_ble_eq_true rfl) (by rw [hu, henc]; rfl) ?_
  intro Z hX hl hG hr
  subst hl; subst hG
  have fl68 : (Cond.fieldLink RX11 68 "OnlyFarModel" "broken" "I").before (za Z) (zs Z) = true := hX.wd (mcC _ wd_996)
  have fl71 : (Cond.fieldLink RX11 71 "OnlyFarModel" "here" "I").before (za Z) (zs Z) = true := hX.wd (mcC _ wd_999)
  have fl77 : (Cond.fieldLink RX11 77 "OnlyFarModel" "token" "I").before (za Z) (zs Z) = true := hX.wd (mcC _ wd_1000)
  have fl80 : (Cond.fieldLink RX11 80 "OnlyFarModel" "spot" "I").before (za Z) (zs Z) = true := hX.wd (mcC _ wd_998)
  have fl87 : (Cond.fieldLink RX11 87 "OnlyFarModel" "value" "I").before (za Z) (zs Z) = true := hX.wd (mcC _ wd_1001)
  have kl90 : (Cond.constantLong RX11 90 (97)).before (za Z) (zs Z) = true := hX.wd (mcC _ wd_1105)
  have kl92 : (Cond.constantLong RX11 92 (122)).before (za Z) (zs Z) = true := hX.wd (mcC _ wd_1106)
  have kl94 : (Cond.constantLong RX11 94 (48)).before (za Z) (zs Z) = true := hX.wd (mcC _ wd_1107)
  have kl96 : (Cond.constantLong RX11 96 (57)).before (za Z) (zs Z) = true := hX.wd (mcC _ wd_1108)
  have inX11 : ∀ w ∈ u_ws RX11 TX11 30, w ∈ wsX11_step := fun w h => mcC w (inC_X11 w h)
  have hJ217 : ∀ (g_broken : Int32) (g_brokenAt : Int32) (g_here : Int32) (g_spot : Int32) (g_token : Int32) (g_value : Int32), Rn Z 2 (Option.map enc) 0 0 217 [(0, .ref a_this)] [] [(a_this, .inr (11, [.ref a_state, .ref a_readPage, .int g_isAwake, .ref a_tape, .int g_taped, .int g_fault, .int g_broken, .int g_brokenAt, .int g_spot, .int g_here, .int g_token, .int g_value, .ref a_letters, .int g_hasPlaces, .int g_highest, .ref a_sums, .ref a_aside, .ref a_groups, .ref a_sides, .int g_laid, .int g_groupMany, .int g_isDrawn, .ref a_names, .ref a_firstNames, .ref a_isKept, .ref a_lanes, .ref a_lengths, .ref a_cells, .int g_torn, .ref a_had])), (a_tape, .inl ((zG Z).2.1 1, 320, .inl g_tape))] (X11_step_J217 g_broken g_brokenAt g_here g_spot g_token g_value) := by
    intro g_broken g_brokenAt g_here g_spot g_token g_value
    unfold X11_step_J217
    refine rn_aload_n hX dX11_step_217 0 rfl 218 rfl ?_
    refine rn_iconst hX dX11_step_218 219 rfl ic_2 ?_
    refine rn_put hX inX11 tyX11_ok nmX11 0 rfl rfl 10 (by decide) fl77 rfl rfl rfl rfl (Nat.le_of_ble_eq_true rfl) dX11_step_219 222 rfl (w1 := [(a_this, .inr (11, [.ref a_state, .ref a_readPage, .int g_isAwake, .ref a_tape, .int g_taped, .int g_fault, .int g_broken, .int g_brokenAt, .int g_spot, .int g_here, .int (2 : Int32), .int g_value, .ref a_letters, .int g_hasPlaces, .int g_highest, .ref a_sums, .ref a_aside, .ref a_groups, .ref a_sides, .int g_laid, .int g_groupMany, .int g_isDrawn, .ref a_names, .ref a_firstNames, .ref a_isKept, .ref a_lanes, .ref a_lengths, .ref a_cells, .int g_torn, .ref a_had])), (a_tape, .inl ((zG Z).2.1 1, 320, .inl g_tape))]) rfl ?_
    refine rn_aload_n hX dX11_step_222 0 rfl 223 rfl ?_
    refine rn_get hX inX11 0 rfl rfl 8 (by decide) fl80 rfl rfl dX11_step_223 226 rfl ?_
    refine rn_aload_n hX dX11_step_226 0 rfl 227 rfl ?_
    refine rn_get hX inX11 0 rfl rfl 9 (by decide) fl71 rfl rfl dX11_step_227 230 rfl ?_
    refine rn_isub hX dX11_step_230 231 rfl ?_
    refine rn_iconst hX dX11_step_231 232 rfl ic_4 ?_
    refine rn_icmp_le hX dX11_step_232 269 (by decide) 235 rfl ?_ ?_
    · exact rn_vret hX hr (by rw [henc]; rfl) dX11_step_269
    refine rn_aload_n hX dX11_step_235 0 rfl 236 rfl ?_
    refine rn_iconst hX dX11_step_236 237 rfl ic_1 ?_
    refine rn_lat (fun u1 hu1 => ?_)
    refine rn_callV hX (gV mcC wd_1109 wd_1111 wd_27 wd_81 wd_1112) rfl hdV_X11_fails rfl rfl ⟨Nat.le_of_ble_eq_true rfl, Nat.le_of_ble_eq_true rfl⟩ (c_X11_fails (zl Z) (zG Z) a_this a_state a_readPage a_tape a_letters a_sums a_aside a_groups a_sides a_names a_firstNames a_isKept a_lanes a_lengths a_cells a_had g_isAwake g_taped g_fault g_broken g_brokenAt g_spot g_here (2 : Int32) g_value g_hasPlaces g_highest g_laid g_groupMany g_isDrawn g_torn (1 : Int32) hu1) rfl [0] rfl rfl rfl (ci := 11) rfl rfl rfl (Nat.le_of_ble_eq_true rfl) dX11_step_237 240 rfl (wn := [(a_this, .inr (11, [.ref a_state, .ref a_readPage, .int g_isAwake, .ref a_tape, .int g_taped, .int g_fault, .int u1.1, .int u1.2, .int g_spot, .int g_here, .int (2 : Int32), .int g_value, .ref a_letters, .int g_hasPlaces, .int g_highest, .ref a_sums, .ref a_aside, .ref a_groups, .ref a_sides, .int g_laid, .int g_groupMany, .int g_isDrawn, .ref a_names, .ref a_firstNames, .ref a_isKept, .ref a_lanes, .ref a_lengths, .ref a_cells, .int g_torn, .ref a_had])), (a_tape, .inl ((zG Z).2.1 1, 320, .inl g_tape))]) rfl (S' := []) rfl ⟨Nat.zero_le _, Nat.zero_le _⟩ ?_
    refine rn_goto hX dX11_step_240 269 (by decide) ?_
    exact rn_vret hX hr (by rw [henc]; rfl) dX11_step_269
  have hJ201 : ∀ (again : Int32 → Int32 → Int32 → Int32 → Int32 → Int32 → Option (Int32 × Int32 × Int32 × Int32 × Int32 × Int32)) (k217 : Int32 → Int32 → Int32 → Int32 → Int32 → Int32 → Option (Int32 × Int32 × Int32 × Int32 × Int32 × Int32)) (hagain : ∀ (g_broken : Int32) (g_brokenAt : Int32) (g_here : Int32) (g_spot : Int32) (g_token : Int32) (g_value : Int32), Rn Z 2 (Option.map enc) 0 0 140 [(0, .ref a_this)] [] [(a_this, .inr (11, [.ref a_state, .ref a_readPage, .int g_isAwake, .ref a_tape, .int g_taped, .int g_fault, .int g_broken, .int g_brokenAt, .int g_spot, .int g_here, .int g_token, .int g_value, .ref a_letters, .int g_hasPlaces, .int g_highest, .ref a_sums, .ref a_aside, .ref a_groups, .ref a_sides, .int g_laid, .int g_groupMany, .int g_isDrawn, .ref a_names, .ref a_firstNames, .ref a_isKept, .ref a_lanes, .ref a_lengths, .ref a_cells, .int g_torn, .ref a_had])), (a_tape, .inl ((zG Z).2.1 1, 320, .inl g_tape))] (again g_broken g_brokenAt g_here g_spot g_token g_value)) (hk217 : ∀ (g_broken : Int32) (g_brokenAt : Int32) (g_here : Int32) (g_spot : Int32) (g_token : Int32) (g_value : Int32), Rn Z 2 (Option.map enc) 0 0 217 [(0, .ref a_this)] [] [(a_this, .inr (11, [.ref a_state, .ref a_readPage, .int g_isAwake, .ref a_tape, .int g_taped, .int g_fault, .int g_broken, .int g_brokenAt, .int g_spot, .int g_here, .int g_token, .int g_value, .ref a_letters, .int g_hasPlaces, .int g_highest, .ref a_sums, .ref a_aside, .ref a_groups, .ref a_sides, .int g_laid, .int g_groupMany, .int g_isDrawn, .ref a_names, .ref a_firstNames, .ref a_isKept, .ref a_lanes, .ref a_lengths, .ref a_cells, .int g_torn, .ref a_had])), (a_tape, .inl ((zG Z).2.1 1, 320, .inl g_tape))] (k217 g_broken g_brokenAt g_here g_spot g_token g_value)) (s1 : Int32) (g_broken : Int32) (g_brokenAt : Int32) (g_here : Int32) (g_spot : Int32) (g_token : Int32) (g_value : Int32), Rn Z 2 (Option.map enc) 0 0 201 [(0, .ref a_this)] [.int s1, .ref a_this] [(a_this, .inr (11, [.ref a_state, .ref a_readPage, .int g_isAwake, .ref a_tape, .int g_taped, .int g_fault, .int g_broken, .int g_brokenAt, .int g_spot, .int g_here, .int g_token, .int g_value, .ref a_letters, .int g_hasPlaces, .int g_highest, .ref a_sums, .ref a_aside, .ref a_groups, .ref a_sides, .int g_laid, .int g_groupMany, .int g_isDrawn, .ref a_names, .ref a_firstNames, .ref a_isKept, .ref a_lanes, .ref a_lengths, .ref a_cells, .int g_torn, .ref a_had])), (a_tape, .inl ((zG Z).2.1 1, 320, .inl g_tape))] (X11_step_J201 again k217 s1 g_broken g_brokenAt g_here g_spot g_token g_value) := by
    intro again k217 hagain hk217 s1 g_broken g_brokenAt g_here g_spot g_token g_value
    unfold X11_step_J201
    refine rn_put hX inX11 tyX11_ok nmX11 0 rfl rfl 11 (by decide) fl87 rfl rfl rfl rfl (Nat.le_of_ble_eq_true rfl) dX11_step_201 204 rfl (w1 := [(a_this, .inr (11, [.ref a_state, .ref a_readPage, .int g_isAwake, .ref a_tape, .int g_taped, .int g_fault, .int g_broken, .int g_brokenAt, .int g_spot, .int g_here, .int g_token, .int s1, .ref a_letters, .int g_hasPlaces, .int g_highest, .ref a_sums, .ref a_aside, .ref a_groups, .ref a_sides, .int g_laid, .int g_groupMany, .int g_isDrawn, .ref a_names, .ref a_firstNames, .ref a_isKept, .ref a_lanes, .ref a_lengths, .ref a_cells, .int g_torn, .ref a_had])), (a_tape, .inl ((zG Z).2.1 1, 320, .inl g_tape))]) rfl ?_
    refine rn_aload_n hX dX11_step_204 0 rfl 205 rfl ?_
    refine rn_dup hX dX11_step_205 206 rfl rfl ?_
    refine rn_get hX inX11 0 rfl rfl 8 (by decide) fl80 rfl rfl dX11_step_206 209 rfl ?_
    refine rn_iconst hX dX11_step_209 210 rfl ic_1 ?_
    refine rn_iadd hX dX11_step_210 211 rfl ?_
    refine rn_lati (fun v2 => ?_)
    refine rn_put hX inX11 tyX11_ok nmX11 0 rfl rfl 8 (by decide) fl80 rfl rfl rfl rfl (Nat.le_of_ble_eq_true rfl) dX11_step_211 214 rfl (w1 := [(a_this, .inr (11, [.ref a_state, .ref a_readPage, .int g_isAwake, .ref a_tape, .int g_taped, .int g_fault, .int g_broken, .int g_brokenAt, .int v2, .int g_here, .int g_token, .int s1, .ref a_letters, .int g_hasPlaces, .int g_highest, .ref a_sums, .ref a_aside, .ref a_groups, .ref a_sides, .int g_laid, .int g_groupMany, .int g_isDrawn, .ref a_names, .ref a_firstNames, .ref a_isKept, .ref a_lanes, .ref a_lengths, .ref a_cells, .int g_torn, .ref a_had])), (a_tape, .inl ((zG Z).2.1 1, 320, .inl g_tape))]) rfl ?_
    refine rn_goto hX dX11_step_214 140 (by decide) ?_
    exact hagain g_broken g_brokenAt g_here v2 g_token s1
  have hB140 : ∀ (again : Int32 → Int32 → Int32 → Int32 → Int32 → Int32 → Option (Int32 × Int32 × Int32 × Int32 × Int32 × Int32)) (k217 : Int32 → Int32 → Int32 → Int32 → Int32 → Int32 → Option (Int32 × Int32 × Int32 × Int32 × Int32 × Int32)) (hagain : ∀ (g_broken : Int32) (g_brokenAt : Int32) (g_here : Int32) (g_spot : Int32) (g_token : Int32) (g_value : Int32), Rn Z 2 (Option.map enc) 0 0 140 [(0, .ref a_this)] [] [(a_this, .inr (11, [.ref a_state, .ref a_readPage, .int g_isAwake, .ref a_tape, .int g_taped, .int g_fault, .int g_broken, .int g_brokenAt, .int g_spot, .int g_here, .int g_token, .int g_value, .ref a_letters, .int g_hasPlaces, .int g_highest, .ref a_sums, .ref a_aside, .ref a_groups, .ref a_sides, .int g_laid, .int g_groupMany, .int g_isDrawn, .ref a_names, .ref a_firstNames, .ref a_isKept, .ref a_lanes, .ref a_lengths, .ref a_cells, .int g_torn, .ref a_had])), (a_tape, .inl ((zG Z).2.1 1, 320, .inl g_tape))] (again g_broken g_brokenAt g_here g_spot g_token g_value)) (hk217 : ∀ (g_broken : Int32) (g_brokenAt : Int32) (g_here : Int32) (g_spot : Int32) (g_token : Int32) (g_value : Int32), Rn Z 2 (Option.map enc) 0 0 217 [(0, .ref a_this)] [] [(a_this, .inr (11, [.ref a_state, .ref a_readPage, .int g_isAwake, .ref a_tape, .int g_taped, .int g_fault, .int g_broken, .int g_brokenAt, .int g_spot, .int g_here, .int g_token, .int g_value, .ref a_letters, .int g_hasPlaces, .int g_highest, .ref a_sums, .ref a_aside, .ref a_groups, .ref a_sides, .int g_laid, .int g_groupMany, .int g_isDrawn, .ref a_names, .ref a_firstNames, .ref a_isKept, .ref a_lanes, .ref a_lengths, .ref a_cells, .int g_torn, .ref a_had])), (a_tape, .inl ((zG Z).2.1 1, 320, .inl g_tape))] (k217 g_broken g_brokenAt g_here g_spot g_token g_value)) (g_broken : Int32) (g_brokenAt : Int32) (g_here : Int32) (g_spot : Int32) (g_token : Int32) (g_value : Int32), Rn Z 2 (Option.map enc) 0 0 140 [(0, .ref a_this)] [] [(a_this, .inr (11, [.ref a_state, .ref a_readPage, .int g_isAwake, .ref a_tape, .int g_taped, .int g_fault, .int g_broken, .int g_brokenAt, .int g_spot, .int g_here, .int g_token, .int g_value, .ref a_letters, .int g_hasPlaces, .int g_highest, .ref a_sums, .ref a_aside, .ref a_groups, .ref a_sides, .int g_laid, .int g_groupMany, .int g_isDrawn, .ref a_names, .ref a_firstNames, .ref a_isKept, .ref a_lanes, .ref a_lengths, .ref a_cells, .int g_torn, .ref a_had])), (a_tape, .inl ((zG Z).2.1 1, 320, .inl g_tape))] (X11_step_B140 g_taped g_tape again k217 g_broken g_brokenAt g_here g_spot g_token g_value) := by
    intro again k217 hagain hk217 g_broken g_brokenAt g_here g_spot g_token g_value
    unfold X11_step_B140
    refine rn_aload_n hX dX11_step_140 0 rfl 141 rfl ?_
    refine rn_aload_n hX dX11_step_141 0 rfl 142 rfl ?_
    refine rn_get hX inX11 0 rfl rfl 8 (by decide) fl80 rfl rfl dX11_step_142 145 rfl ?_
    refine rn_bind (fun u3 hu3 => ?_)
    refine rn_callV0 hX (gV mcC wd_1101 wd_1103 wd_26 wd_81 wd_1104) rfl hdV_X11_byteAt rfl rfl ⟨Nat.le_of_ble_eq_true rfl, Nat.le_of_ble_eq_true rfl⟩ (c_X11_byteAt (zl Z) (zG Z) a_this a_tape a_state a_readPage a_letters a_sums a_aside a_groups a_sides a_names a_firstNames a_isKept a_lanes a_lengths a_cells a_had g_isAwake g_taped g_fault g_broken g_brokenAt g_spot g_here g_token g_value g_hasPlaces g_highest g_laid g_groupMany g_isDrawn g_torn g_tape g_spot hu3) rfl [0, 1] rfl rfl (ci := 11) rfl rfl rfl (Nat.le_of_ble_eq_true rfl) dX11_step_145 148 rfl (S' := [.int u3]) rfl ⟨Nat.zero_le _, Nat.zero_le _⟩ ?_
    refine rn_i2l hX dX11_step_148 149 rfl ?_
    refine rn_ldc2 hX kl94 dX11_step_149 152 rfl ?_
    refine rn_ldc2 hX kl96 dX11_step_152 155 rfl ?_
    refine rn_callS0 hX (gS mcC wd_1090 wd_1091 wd_81 wd_1092) rfl hdS_X11_in rfl rfl ⟨Nat.le_of_ble_eq_true rfl, Nat.le_of_ble_eq_true rfl⟩ (c_X11_in (zl Z) (zG Z) u3.toInt64 (48 : Int64) (57 : Int64) rfl) rfl [] rfl rfl rfl (Nat.le_of_ble_eq_true rfl) dX11_step_155 158 rfl (S' := [.int (X11_in u3.toInt64 (48 : Int64) (57 : Int64))]) rfl ⟨Nat.zero_le _, Nat.zero_le _⟩ ?_
    refine rn_if_eq hX dX11_step_158 217 (by decide) 161 rfl ?_ ?_
    · exact hk217 g_broken g_brokenAt g_here g_spot g_token g_value
    refine rn_aload_n hX dX11_step_161 0 rfl 162 rfl ?_
    refine rn_aload_n hX dX11_step_162 0 rfl 163 rfl ?_
    refine rn_get hX inX11 0 rfl rfl 8 (by decide) fl80 rfl rfl dX11_step_163 166 rfl ?_
    refine rn_aload_n hX dX11_step_166 0 rfl 167 rfl ?_
    refine rn_get hX inX11 0 rfl rfl 9 (by decide) fl71 rfl rfl dX11_step_167 170 rfl ?_
    refine rn_isub hX dX11_step_170 171 rfl ?_
    refine rn_iconst hX dX11_step_171 172 rfl ic_4 ?_
    refine rn_icmp_ge hX dX11_step_172 197 (by decide) 175 rfl ?_ ?_
    · refine rn_aload_n hX dX11_step_197 0 rfl 198 rfl ?_
      refine rn_get hX inX11 0 rfl rfl 11 (by decide) fl87 rfl rfl dX11_step_198 201 rfl ?_
      exact (hJ201 _ _ hagain hk217) g_value g_broken g_brokenAt g_here g_spot g_token g_value
    refine rn_bipush hX dX11_step_175 177 rfl bp_10 ?_
    refine rn_aload_n hX dX11_step_177 0 rfl 178 rfl ?_
    refine rn_get hX inX11 0 rfl rfl 11 (by decide) fl87 rfl rfl dX11_step_178 181 rfl ?_
    refine rn_imul hX dX11_step_181 182 rfl ?_
    refine rn_aload_n hX dX11_step_182 0 rfl 183 rfl ?_
    refine rn_aload_n hX dX11_step_183 0 rfl 184 rfl ?_
    refine rn_get hX inX11 0 rfl rfl 8 (by decide) fl80 rfl rfl dX11_step_184 187 rfl ?_
    refine rn_bind (fun u4 hu4 => ?_)
    refine rn_callV0 hX (gV mcC wd_1101 wd_1103 wd_26 wd_81 wd_1104) rfl hdV_X11_byteAt rfl rfl ⟨Nat.le_of_ble_eq_true rfl, Nat.le_of_ble_eq_true rfl⟩ (c_X11_byteAt (zl Z) (zG Z) a_this a_tape a_state a_readPage a_letters a_sums a_aside a_groups a_sides a_names a_firstNames a_isKept a_lanes a_lengths a_cells a_had g_isAwake g_taped g_fault g_broken g_brokenAt g_spot g_here g_token g_value g_hasPlaces g_highest g_laid g_groupMany g_isDrawn g_torn g_tape g_spot hu4) rfl [0, 1] rfl rfl (ci := 11) rfl rfl rfl (Nat.le_of_ble_eq_true rfl) dX11_step_187 190 rfl (S' := [.int u4, .int ((10 : Int32) * g_value), .ref a_this]) rfl ⟨Nat.zero_le _, Nat.zero_le _⟩ ?_
    refine rn_iadd hX dX11_step_190 191 rfl ?_
    refine rn_bipush hX dX11_step_191 193 rfl bp_48 ?_
    refine rn_isub hX dX11_step_193 194 rfl ?_
    refine rn_goto hX dX11_step_194 201 (by decide) ?_
    exact (hJ201 _ _ hagain hk217) ((((10 : Int32) * g_value) + u4) - (48 : Int32)) g_broken g_brokenAt g_here g_spot g_token g_value
  have hL140 : ∀ (k217 : Int32 → Int32 → Int32 → Int32 → Int32 → Int32 → Option (Int32 × Int32 × Int32 × Int32 × Int32 × Int32)) (hk217 : ∀ (g_broken : Int32) (g_brokenAt : Int32) (g_here : Int32) (g_spot : Int32) (g_token : Int32) (g_value : Int32), Rn Z 2 (Option.map enc) 0 0 217 [(0, .ref a_this)] [] [(a_this, .inr (11, [.ref a_state, .ref a_readPage, .int g_isAwake, .ref a_tape, .int g_taped, .int g_fault, .int g_broken, .int g_brokenAt, .int g_spot, .int g_here, .int g_token, .int g_value, .ref a_letters, .int g_hasPlaces, .int g_highest, .ref a_sums, .ref a_aside, .ref a_groups, .ref a_sides, .int g_laid, .int g_groupMany, .int g_isDrawn, .ref a_names, .ref a_firstNames, .ref a_isKept, .ref a_lanes, .ref a_lengths, .ref a_cells, .int g_torn, .ref a_had])), (a_tape, .inl ((zG Z).2.1 1, 320, .inl g_tape))] (k217 g_broken g_brokenAt g_here g_spot g_token g_value)) (n : Nat) (g_broken : Int32) (g_brokenAt : Int32) (g_here : Int32) (g_spot : Int32) (g_token : Int32) (g_value : Int32), Rn Z 2 (Option.map enc) 0 0 140 [(0, .ref a_this)] [] [(a_this, .inr (11, [.ref a_state, .ref a_readPage, .int g_isAwake, .ref a_tape, .int g_taped, .int g_fault, .int g_broken, .int g_brokenAt, .int g_spot, .int g_here, .int g_token, .int g_value, .ref a_letters, .int g_hasPlaces, .int g_highest, .ref a_sums, .ref a_aside, .ref a_groups, .ref a_sides, .int g_laid, .int g_groupMany, .int g_isDrawn, .ref a_names, .ref a_firstNames, .ref a_isKept, .ref a_lanes, .ref a_lengths, .ref a_cells, .int g_torn, .ref a_had])), (a_tape, .inl ((zG Z).2.1 1, 320, .inl g_tape))] (X11_step_L140 g_taped g_tape k217 n g_broken g_brokenAt g_here g_spot g_token g_value) := by
    intro k217 hk217 n
    induction n with
    | zero => intros; exact rn_none
    | succ n ih => exact hB140 _ _ ih hk217
  have hB84 : ∀ (again : Int32 → Int32 → Int32 → Int32 → Int32 → Int32 → Option (Int32 × Int32 × Int32 × Int32 × Int32 × Int32)) (hagain : ∀ (g_broken : Int32) (g_brokenAt : Int32) (g_here : Int32) (g_spot : Int32) (g_token : Int32) (g_value : Int32), Rn Z 2 (Option.map enc) 0 0 84 [(0, .ref a_this)] [] [(a_this, .inr (11, [.ref a_state, .ref a_readPage, .int g_isAwake, .ref a_tape, .int g_taped, .int g_fault, .int g_broken, .int g_brokenAt, .int g_spot, .int g_here, .int g_token, .int g_value, .ref a_letters, .int g_hasPlaces, .int g_highest, .ref a_sums, .ref a_aside, .ref a_groups, .ref a_sides, .int g_laid, .int g_groupMany, .int g_isDrawn, .ref a_names, .ref a_firstNames, .ref a_isKept, .ref a_lanes, .ref a_lengths, .ref a_cells, .int g_torn, .ref a_had])), (a_tape, .inl ((zG Z).2.1 1, 320, .inl g_tape))] (again g_broken g_brokenAt g_here g_spot g_token g_value)) (g_broken : Int32) (g_brokenAt : Int32) (g_here : Int32) (g_spot : Int32) (g_token : Int32) (g_value : Int32), Rn Z 2 (Option.map enc) 0 0 84 [(0, .ref a_this)] [] [(a_this, .inr (11, [.ref a_state, .ref a_readPage, .int g_isAwake, .ref a_tape, .int g_taped, .int g_fault, .int g_broken, .int g_brokenAt, .int g_spot, .int g_here, .int g_token, .int g_value, .ref a_letters, .int g_hasPlaces, .int g_highest, .ref a_sums, .ref a_aside, .ref a_groups, .ref a_sides, .int g_laid, .int g_groupMany, .int g_isDrawn, .ref a_names, .ref a_firstNames, .ref a_isKept, .ref a_lanes, .ref a_lengths, .ref a_cells, .int g_torn, .ref a_had])), (a_tape, .inl ((zG Z).2.1 1, 320, .inl g_tape))] (X11_step_B84 g_taped g_tape again g_broken g_brokenAt g_here g_spot g_token g_value) := by
    intro again hagain g_broken g_brokenAt g_here g_spot g_token g_value
    unfold X11_step_B84
    refine rn_aload_n hX dX11_step_84 0 rfl 85 rfl ?_
    refine rn_aload_n hX dX11_step_85 0 rfl 86 rfl ?_
    refine rn_get hX inX11 0 rfl rfl 8 (by decide) fl80 rfl rfl dX11_step_86 89 rfl ?_
    refine rn_bind (fun u5 hu5 => ?_)
    refine rn_callV0 hX (gV mcC wd_1101 wd_1103 wd_26 wd_81 wd_1104) rfl hdV_X11_byteAt rfl rfl ⟨Nat.le_of_ble_eq_true rfl, Nat.le_of_ble_eq_true rfl⟩ (c_X11_byteAt (zl Z) (zG Z) a_this a_tape a_state a_readPage a_letters a_sums a_aside a_groups a_sides a_names a_firstNames a_isKept a_lanes a_lengths a_cells a_had g_isAwake g_taped g_fault g_broken g_brokenAt g_spot g_here g_token g_value g_hasPlaces g_highest g_laid g_groupMany g_isDrawn g_torn g_tape g_spot hu5) rfl [0, 1] rfl rfl (ci := 11) rfl rfl rfl (Nat.le_of_ble_eq_true rfl) dX11_step_89 92 rfl (S' := [.int u5]) rfl ⟨Nat.zero_le _, Nat.zero_le _⟩ ?_
    refine rn_i2l hX dX11_step_92 93 rfl ?_
    refine rn_ldc2 hX kl90 dX11_step_93 96 rfl ?_
    refine rn_ldc2 hX kl92 dX11_step_96 99 rfl ?_
    refine rn_callS0 hX (gS mcC wd_1090 wd_1091 wd_81 wd_1092) rfl hdS_X11_in rfl rfl ⟨Nat.le_of_ble_eq_true rfl, Nat.le_of_ble_eq_true rfl⟩ (c_X11_in (zl Z) (zG Z) u5.toInt64 (97 : Int64) (122 : Int64) rfl) rfl [] rfl rfl rfl (Nat.le_of_ble_eq_true rfl) dX11_step_99 102 rfl (S' := [.int (X11_in u5.toInt64 (97 : Int64) (122 : Int64))]) rfl ⟨Nat.zero_le _, Nat.zero_le _⟩ ?_
    refine rn_if_eq hX dX11_step_102 118 (by decide) 105 rfl ?_ ?_
    · refine rn_aload_n hX dX11_step_118 0 rfl 119 rfl ?_
      refine rn_iconst hX dX11_step_119 120 rfl ic_1 ?_
      refine rn_put hX inX11 tyX11_ok nmX11 0 rfl rfl 10 (by decide) fl77 rfl rfl rfl rfl (Nat.le_of_ble_eq_true rfl) dX11_step_120 123 rfl (w1 := [(a_this, .inr (11, [.ref a_state, .ref a_readPage, .int g_isAwake, .ref a_tape, .int g_taped, .int g_fault, .int g_broken, .int g_brokenAt, .int g_spot, .int g_here, .int (1 : Int32), .int g_value, .ref a_letters, .int g_hasPlaces, .int g_highest, .ref a_sums, .ref a_aside, .ref a_groups, .ref a_sides, .int g_laid, .int g_groupMany, .int g_isDrawn, .ref a_names, .ref a_firstNames, .ref a_isKept, .ref a_lanes, .ref a_lengths, .ref a_cells, .int g_torn, .ref a_had])), (a_tape, .inl ((zG Z).2.1 1, 320, .inl g_tape))]) rfl ?_
      refine rn_goto hX dX11_step_123 269 (by decide) ?_
      exact rn_vret hX hr (by rw [henc]; rfl) dX11_step_269
    refine rn_aload_n hX dX11_step_105 0 rfl 106 rfl ?_
    refine rn_dup hX dX11_step_106 107 rfl rfl ?_
    refine rn_get hX inX11 0 rfl rfl 8 (by decide) fl80 rfl rfl dX11_step_107 110 rfl ?_
    refine rn_iconst hX dX11_step_110 111 rfl ic_1 ?_
    refine rn_iadd hX dX11_step_111 112 rfl ?_
    refine rn_lati (fun v6 => ?_)
    refine rn_put hX inX11 tyX11_ok nmX11 0 rfl rfl 8 (by decide) fl80 rfl rfl rfl rfl (Nat.le_of_ble_eq_true rfl) dX11_step_112 115 rfl (w1 := [(a_this, .inr (11, [.ref a_state, .ref a_readPage, .int g_isAwake, .ref a_tape, .int g_taped, .int g_fault, .int g_broken, .int g_brokenAt, .int v6, .int g_here, .int g_token, .int g_value, .ref a_letters, .int g_hasPlaces, .int g_highest, .ref a_sums, .ref a_aside, .ref a_groups, .ref a_sides, .int g_laid, .int g_groupMany, .int g_isDrawn, .ref a_names, .ref a_firstNames, .ref a_isKept, .ref a_lanes, .ref a_lengths, .ref a_cells, .int g_torn, .ref a_had])), (a_tape, .inl ((zG Z).2.1 1, 320, .inl g_tape))]) rfl ?_
    refine rn_goto hX dX11_step_115 84 (by decide) ?_
    exact hagain g_broken g_brokenAt g_here v6 g_token g_value
  have hL84 : ∀ (n : Nat) (g_broken : Int32) (g_brokenAt : Int32) (g_here : Int32) (g_spot : Int32) (g_token : Int32) (g_value : Int32), Rn Z 2 (Option.map enc) 0 0 84 [(0, .ref a_this)] [] [(a_this, .inr (11, [.ref a_state, .ref a_readPage, .int g_isAwake, .ref a_tape, .int g_taped, .int g_fault, .int g_broken, .int g_brokenAt, .int g_spot, .int g_here, .int g_token, .int g_value, .ref a_letters, .int g_hasPlaces, .int g_highest, .ref a_sums, .ref a_aside, .ref a_groups, .ref a_sides, .int g_laid, .int g_groupMany, .int g_isDrawn, .ref a_names, .ref a_firstNames, .ref a_isKept, .ref a_lanes, .ref a_lengths, .ref a_cells, .int g_torn, .ref a_had])), (a_tape, .inl ((zG Z).2.1 1, 320, .inl g_tape))] (X11_step_L84 g_taped g_tape n g_broken g_brokenAt g_here g_spot g_token g_value) := by
    intro n
    induction n with
    | zero => intros; exact rn_none
    | succ n ih => exact hB84 _ ih
  have hJ34 : ∀ (g_broken : Int32) (g_brokenAt : Int32) (g_here : Int32) (g_spot : Int32) (g_token : Int32) (g_value : Int32), Rn Z 2 (Option.map enc) 0 0 34 [(0, .ref a_this)] [] [(a_this, .inr (11, [.ref a_state, .ref a_readPage, .int g_isAwake, .ref a_tape, .int g_taped, .int g_fault, .int g_broken, .int g_brokenAt, .int g_spot, .int g_here, .int g_token, .int g_value, .ref a_letters, .int g_hasPlaces, .int g_highest, .ref a_sums, .ref a_aside, .ref a_groups, .ref a_sides, .int g_laid, .int g_groupMany, .int g_isDrawn, .ref a_names, .ref a_firstNames, .ref a_isKept, .ref a_lanes, .ref a_lengths, .ref a_cells, .int g_torn, .ref a_had])), (a_tape, .inl ((zG Z).2.1 1, 320, .inl g_tape))] (X11_step_J34 g_taped g_tape g_broken g_brokenAt g_here g_spot g_token g_value) := by
    intro g_broken g_brokenAt g_here g_spot g_token g_value
    unfold X11_step_J34
    refine rn_aload_n hX dX11_step_34 0 rfl 35 rfl ?_
    refine rn_aload_n hX dX11_step_35 0 rfl 36 rfl ?_
    refine rn_get hX inX11 0 rfl rfl 8 (by decide) fl80 rfl rfl dX11_step_36 39 rfl ?_
    refine rn_put hX inX11 tyX11_ok nmX11 0 rfl rfl 9 (by decide) fl71 rfl rfl rfl rfl (Nat.le_of_ble_eq_true rfl) dX11_step_39 42 rfl (w1 := [(a_this, .inr (11, [.ref a_state, .ref a_readPage, .int g_isAwake, .ref a_tape, .int g_taped, .int g_fault, .int g_broken, .int g_brokenAt, .int g_spot, .int g_spot, .int g_token, .int g_value, .ref a_letters, .int g_hasPlaces, .int g_highest, .ref a_sums, .ref a_aside, .ref a_groups, .ref a_sides, .int g_laid, .int g_groupMany, .int g_isDrawn, .ref a_names, .ref a_firstNames, .ref a_isKept, .ref a_lanes, .ref a_lengths, .ref a_cells, .int g_torn, .ref a_had])), (a_tape, .inl ((zG Z).2.1 1, 320, .inl g_tape))]) rfl ?_
    refine rn_aload_n hX dX11_step_42 0 rfl 43 rfl ?_
    refine rn_aload_n hX dX11_step_43 0 rfl 44 rfl ?_
    refine rn_get hX inX11 0 rfl rfl 8 (by decide) fl80 rfl rfl dX11_step_44 47 rfl ?_
    refine rn_bind (fun u7 hu7 => ?_)
    refine rn_callV0 hX (gV mcC wd_1101 wd_1103 wd_26 wd_81 wd_1104) rfl hdV_X11_byteAt rfl rfl ⟨Nat.le_of_ble_eq_true rfl, Nat.le_of_ble_eq_true rfl⟩ (c_X11_byteAt (zl Z) (zG Z) a_this a_tape a_state a_readPage a_letters a_sums a_aside a_groups a_sides a_names a_firstNames a_isKept a_lanes a_lengths a_cells a_had g_isAwake g_taped g_fault g_broken g_brokenAt g_spot g_spot g_token g_value g_hasPlaces g_highest g_laid g_groupMany g_isDrawn g_torn g_tape g_spot hu7) rfl [0, 1] rfl rfl (ci := 11) rfl rfl rfl (Nat.le_of_ble_eq_true rfl) dX11_step_47 50 rfl (S' := [.int u7]) rfl ⟨Nat.zero_le _, Nat.zero_le _⟩ ?_
    refine rn_istore_n hX dX11_step_50 1 rfl (by decide) (L' := [(1, .int u7), (0, .ref a_this)]) rfl 51 rfl ?_
    refine rn_aload_n hX dX11_step_51 1 rfl 52 rfl ?_
    refine rn_iconst hX dX11_step_52 53 rfl ic_0 ?_
    refine rn_put hX inX11 tyX11_ok nmX11 0 rfl rfl 11 (by decide) fl87 rfl rfl rfl rfl (Nat.le_of_ble_eq_true rfl) dX11_step_53 56 rfl (w1 := [(a_this, .inr (11, [.ref a_state, .ref a_readPage, .int g_isAwake, .ref a_tape, .int g_taped, .int g_fault, .int g_broken, .int g_brokenAt, .int g_spot, .int g_spot, .int g_token, .int (0 : Int32), .ref a_letters, .int g_hasPlaces, .int g_highest, .ref a_sums, .ref a_aside, .ref a_groups, .ref a_sides, .int g_laid, .int g_groupMany, .int g_isDrawn, .ref a_names, .ref a_firstNames, .ref a_isKept, .ref a_lanes, .ref a_lengths, .ref a_cells, .int g_torn, .ref a_had])), (a_tape, .inl ((zG Z).2.1 1, 320, .inl g_tape))]) rfl ?_
    refine rn_iload_n hX dX11_step_56 0 rfl 57 rfl ?_
    refine rn_bipush hX dX11_step_57 59 rfl bp_m4 ?_
    refine rn_icmp_ne hX dX11_step_59 70 (by decide) 62 rfl ?_ ?_
    · refine rn_iload_n hX dX11_step_70 0 rfl 71 rfl ?_
      refine rn_i2l hX dX11_step_71 72 rfl ?_
      refine rn_ldc2 hX kl90 dX11_step_72 75 rfl ?_
      refine rn_ldc2 hX kl92 dX11_step_75 78 rfl ?_
      refine rn_callS0 hX (gS mcC wd_1090 wd_1091 wd_81 wd_1092) rfl hdS_X11_in rfl rfl ⟨Nat.le_of_ble_eq_true rfl, Nat.le_of_ble_eq_true rfl⟩ (c_X11_in (zl Z) (zG Z) u7.toInt64 (97 : Int64) (122 : Int64) rfl) rfl [] rfl rfl rfl (Nat.le_of_ble_eq_true rfl) dX11_step_78 81 rfl (S' := [.int (X11_in u7.toInt64 (97 : Int64) (122 : Int64))]) rfl ⟨Nat.zero_le _, Nat.zero_le _⟩ ?_
      refine rn_if_eq hX dX11_step_81 126 (by decide) 84 rfl ?_ ?_
      · refine rn_iload_n hX dX11_step_126 0 rfl 127 rfl ?_
        refine rn_i2l hX dX11_step_127 128 rfl ?_
        refine rn_ldc2 hX kl94 dX11_step_128 131 rfl ?_
        refine rn_ldc2 hX kl96 dX11_step_131 134 rfl ?_
        refine rn_callS0 hX (gS mcC wd_1090 wd_1091 wd_81 wd_1092) rfl hdS_X11_in rfl rfl ⟨Nat.le_of_ble_eq_true rfl, Nat.le_of_ble_eq_true rfl⟩ (c_X11_in (zl Z) (zG Z) u7.toInt64 (48 : Int64) (57 : Int64) rfl) rfl [] rfl rfl rfl (Nat.le_of_ble_eq_true rfl) dX11_step_134 137 rfl (S' := [.int (X11_in u7.toInt64 (48 : Int64) (57 : Int64))]) rfl ⟨Nat.zero_le _, Nat.zero_le _⟩ ?_
        refine rn_if_eq hX dX11_step_137 243 (by decide) 140 rfl ?_ ?_
        · refine rn_aload_n hX dX11_step_243 1 rfl 244 rfl ?_
          refine rn_iconst hX dX11_step_244 245 rfl ic_3 ?_
          refine rn_put hX inX11 tyX11_ok nmX11 0 rfl rfl 10 (by decide) fl77 rfl rfl rfl rfl (Nat.le_of_ble_eq_true rfl) dX11_step_245 248 rfl (w1 := [(a_this, .inr (11, [.ref a_state, .ref a_readPage, .int g_isAwake, .ref a_tape, .int g_taped, .int g_fault, .int g_broken, .int g_brokenAt, .int g_spot, .int g_spot, .int (3 : Int32), .int (0 : Int32), .ref a_letters, .int g_hasPlaces, .int g_highest, .ref a_sums, .ref a_aside, .ref a_groups, .ref a_sides, .int g_laid, .int g_groupMany, .int g_isDrawn, .ref a_names, .ref a_firstNames, .ref a_isKept, .ref a_lanes, .ref a_lengths, .ref a_cells, .int g_torn, .ref a_had])), (a_tape, .inl ((zG Z).2.1 1, 320, .inl g_tape))]) rfl ?_
          refine rn_aload_n hX dX11_step_248 1 rfl 249 rfl ?_
          refine rn_dup hX dX11_step_249 250 rfl rfl ?_
          refine rn_get hX inX11 0 rfl rfl 8 (by decide) fl80 rfl rfl dX11_step_250 253 rfl ?_
          refine rn_iconst hX dX11_step_253 254 rfl ic_1 ?_
          refine rn_iadd hX dX11_step_254 255 rfl ?_
          refine rn_lati (fun v8 => ?_)
          refine rn_put hX inX11 tyX11_ok nmX11 0 rfl rfl 8 (by decide) fl80 rfl rfl rfl rfl (Nat.le_of_ble_eq_true rfl) dX11_step_255 258 rfl (w1 := [(a_this, .inr (11, [.ref a_state, .ref a_readPage, .int g_isAwake, .ref a_tape, .int g_taped, .int g_fault, .int g_broken, .int g_brokenAt, .int v8, .int g_spot, .int (3 : Int32), .int (0 : Int32), .ref a_letters, .int g_hasPlaces, .int g_highest, .ref a_sums, .ref a_aside, .ref a_groups, .ref a_sides, .int g_laid, .int g_groupMany, .int g_isDrawn, .ref a_names, .ref a_firstNames, .ref a_isKept, .ref a_lanes, .ref a_lengths, .ref a_cells, .int g_torn, .ref a_had])), (a_tape, .inl ((zG Z).2.1 1, 320, .inl g_tape))]) rfl ?_
          refine rn_iload_n hX dX11_step_258 0 rfl 259 rfl ?_
          refine rn_bipush hX dX11_step_259 261 rfl bp_59 ?_
          refine rn_icmp_eq hX dX11_step_261 269 (by decide) 264 rfl ?_ ?_
          · exact rn_vret hX hr (by rw [henc]; rfl) dX11_step_269
          refine rn_aload_n hX dX11_step_264 1 rfl 265 rfl ?_
          refine rn_iconst hX dX11_step_265 266 rfl ic_1 ?_
          refine rn_lat (fun u9 hu9 => ?_)
          refine rn_callV hX (gV mcC wd_1109 wd_1111 wd_27 wd_81 wd_1112) rfl hdV_X11_fails rfl rfl ⟨Nat.le_of_ble_eq_true rfl, Nat.le_of_ble_eq_true rfl⟩ (c_X11_fails (zl Z) (zG Z) a_this a_state a_readPage a_tape a_letters a_sums a_aside a_groups a_sides a_names a_firstNames a_isKept a_lanes a_lengths a_cells a_had g_isAwake g_taped g_fault g_broken g_brokenAt v8 g_spot (3 : Int32) (0 : Int32) g_hasPlaces g_highest g_laid g_groupMany g_isDrawn g_torn (1 : Int32) hu9) rfl [0] rfl rfl rfl (ci := 11) rfl rfl rfl (Nat.le_of_ble_eq_true rfl) dX11_step_266 269 rfl (wn := [(a_this, .inr (11, [.ref a_state, .ref a_readPage, .int g_isAwake, .ref a_tape, .int g_taped, .int g_fault, .int u9.1, .int u9.2, .int v8, .int g_spot, .int (3 : Int32), .int (0 : Int32), .ref a_letters, .int g_hasPlaces, .int g_highest, .ref a_sums, .ref a_aside, .ref a_groups, .ref a_sides, .int g_laid, .int g_groupMany, .int g_isDrawn, .ref a_names, .ref a_firstNames, .ref a_isKept, .ref a_lanes, .ref a_lengths, .ref a_cells, .int g_torn, .ref a_had])), (a_tape, .inl ((zG Z).2.1 1, 320, .inl g_tape))]) rfl (S' := []) rfl ⟨Nat.zero_le _, Nat.zero_le _⟩ ?_
          exact rn_vret hX hr (by rw [henc]; rfl) dX11_step_269
        refine rn_sub [1] rfl ?_
        exact (hL140 _ hJ217 1000) g_broken g_brokenAt g_spot g_spot g_token (0 : Int32)
      refine rn_sub [1] rfl ?_
      exact (hL84  1000) g_broken g_brokenAt g_spot g_spot g_token (0 : Int32)
    refine rn_aload_n hX dX11_step_62 1 rfl 63 rfl ?_
    refine rn_iconst hX dX11_step_63 64 rfl ic_0 ?_
    refine rn_put hX inX11 tyX11_ok nmX11 0 rfl rfl 10 (by decide) fl77 rfl rfl rfl rfl (Nat.le_of_ble_eq_true rfl) dX11_step_64 67 rfl (w1 := [(a_this, .inr (11, [.ref a_state, .ref a_readPage, .int g_isAwake, .ref a_tape, .int g_taped, .int g_fault, .int g_broken, .int g_brokenAt, .int g_spot, .int g_spot, .int (0 : Int32), .int (0 : Int32), .ref a_letters, .int g_hasPlaces, .int g_highest, .ref a_sums, .ref a_aside, .ref a_groups, .ref a_sides, .int g_laid, .int g_groupMany, .int g_isDrawn, .ref a_names, .ref a_firstNames, .ref a_isKept, .ref a_lanes, .ref a_lengths, .ref a_cells, .int g_torn, .ref a_had])), (a_tape, .inl ((zG Z).2.1 1, 320, .inl g_tape))]) rfl ?_
    refine rn_goto hX dX11_step_67 269 (by decide) ?_
    exact rn_vret hX hr (by rw [henc]; rfl) dX11_step_269
  have hB8 : ∀ (again : Int32 → Int32 → Int32 → Int32 → Int32 → Int32 → Option (Int32 × Int32 × Int32 × Int32 × Int32 × Int32)) (k34 : Int32 → Int32 → Int32 → Int32 → Int32 → Int32 → Option (Int32 × Int32 × Int32 × Int32 × Int32 × Int32)) (hagain : ∀ (g_broken : Int32) (g_brokenAt : Int32) (g_here : Int32) (g_spot : Int32) (g_token : Int32) (g_value : Int32), Rn Z 2 (Option.map enc) 0 0 8 [(0, .ref a_this)] [] [(a_this, .inr (11, [.ref a_state, .ref a_readPage, .int g_isAwake, .ref a_tape, .int g_taped, .int g_fault, .int g_broken, .int g_brokenAt, .int g_spot, .int g_here, .int g_token, .int g_value, .ref a_letters, .int g_hasPlaces, .int g_highest, .ref a_sums, .ref a_aside, .ref a_groups, .ref a_sides, .int g_laid, .int g_groupMany, .int g_isDrawn, .ref a_names, .ref a_firstNames, .ref a_isKept, .ref a_lanes, .ref a_lengths, .ref a_cells, .int g_torn, .ref a_had])), (a_tape, .inl ((zG Z).2.1 1, 320, .inl g_tape))] (again g_broken g_brokenAt g_here g_spot g_token g_value)) (hk34 : ∀ (g_broken : Int32) (g_brokenAt : Int32) (g_here : Int32) (g_spot : Int32) (g_token : Int32) (g_value : Int32), Rn Z 2 (Option.map enc) 0 0 34 [(0, .ref a_this)] [] [(a_this, .inr (11, [.ref a_state, .ref a_readPage, .int g_isAwake, .ref a_tape, .int g_taped, .int g_fault, .int g_broken, .int g_brokenAt, .int g_spot, .int g_here, .int g_token, .int g_value, .ref a_letters, .int g_hasPlaces, .int g_highest, .ref a_sums, .ref a_aside, .ref a_groups, .ref a_sides, .int g_laid, .int g_groupMany, .int g_isDrawn, .ref a_names, .ref a_firstNames, .ref a_isKept, .ref a_lanes, .ref a_lengths, .ref a_cells, .int g_torn, .ref a_had])), (a_tape, .inl ((zG Z).2.1 1, 320, .inl g_tape))] (k34 g_broken g_brokenAt g_here g_spot g_token g_value)) (g_broken : Int32) (g_brokenAt : Int32) (g_here : Int32) (g_spot : Int32) (g_token : Int32) (g_value : Int32), Rn Z 2 (Option.map enc) 0 0 8 [(0, .ref a_this)] [] [(a_this, .inr (11, [.ref a_state, .ref a_readPage, .int g_isAwake, .ref a_tape, .int g_taped, .int g_fault, .int g_broken, .int g_brokenAt, .int g_spot, .int g_here, .int g_token, .int g_value, .ref a_letters, .int g_hasPlaces, .int g_highest, .ref a_sums, .ref a_aside, .ref a_groups, .ref a_sides, .int g_laid, .int g_groupMany, .int g_isDrawn, .ref a_names, .ref a_firstNames, .ref a_isKept, .ref a_lanes, .ref a_lengths, .ref a_cells, .int g_torn, .ref a_had])), (a_tape, .inl ((zG Z).2.1 1, 320, .inl g_tape))] (X11_step_B8 g_taped g_tape again k34 g_broken g_brokenAt g_here g_spot g_token g_value) := by
    intro again k34 hagain hk34 g_broken g_brokenAt g_here g_spot g_token g_value
    unfold X11_step_B8
    refine rn_aload_n hX dX11_step_8 0 rfl 9 rfl ?_
    refine rn_aload_n hX dX11_step_9 0 rfl 10 rfl ?_
    refine rn_get hX inX11 0 rfl rfl 8 (by decide) fl80 rfl rfl dX11_step_10 13 rfl ?_
    refine rn_bind (fun u10 hu10 => ?_)
    refine rn_callV0 hX (gV mcC wd_1101 wd_1103 wd_26 wd_81 wd_1104) rfl hdV_X11_byteAt rfl rfl ⟨Nat.le_of_ble_eq_true rfl, Nat.le_of_ble_eq_true rfl⟩ (c_X11_byteAt (zl Z) (zG Z) a_this a_tape a_state a_readPage a_letters a_sums a_aside a_groups a_sides a_names a_firstNames a_isKept a_lanes a_lengths a_cells a_had g_isAwake g_taped g_fault g_broken g_brokenAt g_spot g_here g_token g_value g_hasPlaces g_highest g_laid g_groupMany g_isDrawn g_torn g_tape g_spot hu10) rfl [0, 1] rfl rfl (ci := 11) rfl rfl rfl (Nat.le_of_ble_eq_true rfl) dX11_step_13 16 rfl (S' := [.int u10]) rfl ⟨Nat.zero_le _, Nat.zero_le _⟩ ?_
    refine rn_bipush hX dX11_step_16 18 rfl bp_32 ?_
    refine rn_icmp_ne hX dX11_step_18 34 (by decide) 21 rfl ?_ ?_
    · exact hk34 g_broken g_brokenAt g_here g_spot g_token g_value
    refine rn_aload_n hX dX11_step_21 0 rfl 22 rfl ?_
    refine rn_dup hX dX11_step_22 23 rfl rfl ?_
    refine rn_get hX inX11 0 rfl rfl 8 (by decide) fl80 rfl rfl dX11_step_23 26 rfl ?_
    refine rn_iconst hX dX11_step_26 27 rfl ic_1 ?_
    refine rn_iadd hX dX11_step_27 28 rfl ?_
    refine rn_lati (fun v11 => ?_)
    refine rn_put hX inX11 tyX11_ok nmX11 0 rfl rfl 8 (by decide) fl80 rfl rfl rfl rfl (Nat.le_of_ble_eq_true rfl) dX11_step_28 31 rfl (w1 := [(a_this, .inr (11, [.ref a_state, .ref a_readPage, .int g_isAwake, .ref a_tape, .int g_taped, .int g_fault, .int g_broken, .int g_brokenAt, .int v11, .int g_here, .int g_token, .int g_value, .ref a_letters, .int g_hasPlaces, .int g_highest, .ref a_sums, .ref a_aside, .ref a_groups, .ref a_sides, .int g_laid, .int g_groupMany, .int g_isDrawn, .ref a_names, .ref a_firstNames, .ref a_isKept, .ref a_lanes, .ref a_lengths, .ref a_cells, .int g_torn, .ref a_had])), (a_tape, .inl ((zG Z).2.1 1, 320, .inl g_tape))]) rfl ?_
    refine rn_goto hX dX11_step_31 8 (by decide) ?_
    exact hagain g_broken g_brokenAt g_here v11 g_token g_value
  have hL8 : ∀ (k34 : Int32 → Int32 → Int32 → Int32 → Int32 → Int32 → Option (Int32 × Int32 × Int32 × Int32 × Int32 × Int32)) (hk34 : ∀ (g_broken : Int32) (g_brokenAt : Int32) (g_here : Int32) (g_spot : Int32) (g_token : Int32) (g_value : Int32), Rn Z 2 (Option.map enc) 0 0 34 [(0, .ref a_this)] [] [(a_this, .inr (11, [.ref a_state, .ref a_readPage, .int g_isAwake, .ref a_tape, .int g_taped, .int g_fault, .int g_broken, .int g_brokenAt, .int g_spot, .int g_here, .int g_token, .int g_value, .ref a_letters, .int g_hasPlaces, .int g_highest, .ref a_sums, .ref a_aside, .ref a_groups, .ref a_sides, .int g_laid, .int g_groupMany, .int g_isDrawn, .ref a_names, .ref a_firstNames, .ref a_isKept, .ref a_lanes, .ref a_lengths, .ref a_cells, .int g_torn, .ref a_had])), (a_tape, .inl ((zG Z).2.1 1, 320, .inl g_tape))] (k34 g_broken g_brokenAt g_here g_spot g_token g_value)) (n : Nat) (g_broken : Int32) (g_brokenAt : Int32) (g_here : Int32) (g_spot : Int32) (g_token : Int32) (g_value : Int32), Rn Z 2 (Option.map enc) 0 0 8 [(0, .ref a_this)] [] [(a_this, .inr (11, [.ref a_state, .ref a_readPage, .int g_isAwake, .ref a_tape, .int g_taped, .int g_fault, .int g_broken, .int g_brokenAt, .int g_spot, .int g_here, .int g_token, .int g_value, .ref a_letters, .int g_hasPlaces, .int g_highest, .ref a_sums, .ref a_aside, .ref a_groups, .ref a_sides, .int g_laid, .int g_groupMany, .int g_isDrawn, .ref a_names, .ref a_firstNames, .ref a_isKept, .ref a_lanes, .ref a_lengths, .ref a_cells, .int g_torn, .ref a_had])), (a_tape, .inl ((zG Z).2.1 1, 320, .inl g_tape))] (X11_step_L8 g_taped g_tape k34 n g_broken g_brokenAt g_here g_spot g_token g_value) := by
    intro k34 hk34 n
    induction n with
    | zero => intros; exact rn_none
    | succ n ih => exact hB8 _ _ ih hk34
  unfold X11_step
  refine rn_aload_n hX dX11_step_0 0 rfl 1 rfl ?_
  refine rn_get hX inX11 0 rfl rfl 6 (by decide) fl68 rfl rfl dX11_step_1 4 rfl ?_
  refine rn_if_le hX dX11_step_4 8 (by decide) 7 rfl ?_ ?_
  · exact (hL8 _ hJ34 1000) g_broken g_brokenAt g_here g_spot g_token g_value
  exact rn_vret hX hr (by rw [henc]; rfl) dX11_step_7
abbrev rmX11_looks : Room := { frames := 1, cells := 0, slots := 0, locals := 25 }
theorem hdV_X11_looks : yX11_looks.cls = RX11 ∧ yX11_looks.cls ≠ "java/lang/invoke/MethodHandle" ∧ yX11_looks.cls ≠ "java/lang/invoke/VarHandle" ∧ (parseMethodDescriptor yX11_looks.desc).map (fun d => d.parameters.length) = some 2 := by decide +kernel
set_option maxHeartbeats 4000000 in
set_option maxRecDepth 100000 in
theorem c_X11_looks (l : Launch) (G : GT) (a_this a_state a_readPage a_tape a_letters a_sums a_aside a_groups a_sides a_names a_firstNames a_isKept a_lanes a_lengths a_cells a_had : Nat) (g_isAwake : Int32) (g_taped : Int32) (g_fault : Int32) (g_broken : Int32) (g_brokenAt : Int32) (g_spot : Int32) (g_here : Int32) (g_token : Int32) (g_value : Int32) (g_hasPlaces : Int32) (g_highest : Int32) (g_laid : Int32) (g_groupMany : Int32) (g_isDrawn : Int32) (g_torn : Int32) (x1 : Int32) (x2 : Int32) {u : Int32 × Int32} (hu : X11_looks x1 x2 g_broken g_brokenAt g_here g_token g_value = u) : Ctr l G yX11_looks wsX11_looks rmX11_looks [.ref a_this, .int x1, .int x2] [(a_this, .inr (11, [.ref a_state, .ref a_readPage, .int g_isAwake, .ref a_tape, .int g_taped, .int g_fault, .int g_broken, .int g_brokenAt, .int g_spot, .int g_here, .int g_token, .int g_value, .ref a_letters, .int g_hasPlaces, .int g_highest, .ref a_sums, .ref a_aside, .ref a_groups, .ref a_sides, .int g_laid, .int g_groupMany, .int g_isDrawn, .ref a_names, .ref a_firstNames, .ref a_isKept, .ref a_lanes, .ref a_lengths, .ref a_cells, .int g_torn, .ref a_had]))] none [(a_this, .inr (11, [.ref a_state, .ref a_readPage, .int g_isAwake, .ref a_tape, .int g_taped, .int g_fault, .int u.1, .int u.2, .int g_spot, .int g_here, .int g_token, .int g_value, .ref a_letters, .int g_hasPlaces, .int g_highest, .ref a_sums, .ref a_aside, .ref a_groups, .ref a_sides, .int g_laid, .int g_groupMany, .int g_isDrawn, .ref a_names, .ref a_firstNames, .ref a_isKept, .ref a_lanes, .ref a_lengths, .ref a_cells, .int g_torn, .ref a_had]))] := by
  obtain ⟨enc, henc⟩ : ∃ enc : (Int32 × Int32) → Option Value × va_W, enc = fun u => ((none : Option Value), ([(a_this, .inr (11, [.ref a_state, .ref a_readPage, .int g_isAwake, .ref a_tape, .int g_taped, .int g_fault, .int u.1, .int u.2, .int g_spot, .int g_here, .int g_token, .int g_value, .ref a_letters, .int g_hasPlaces, .int g_highest, .ref a_sums, .ref a_aside, .ref a_groups, .ref a_sides, .int g_laid, .int g_groupMany, .int g_isDrawn, .ref a_names, .ref a_firstNames, .ref a_isKept, .ref a_lanes, .ref a_lengths, .ref a_cells, .int g_torn, .ref a_had]))] : va_W)) := ⟨_, rfl⟩
  refine ctr_of (cc := cX11_looks) (own := RX11) (E := fun o => some (enc o)) (o := X11_looks x1 x2 g_broken g_brokenAt g_here g_token g_value) (by decide) rfl rfl (L := [(0, .ref a_this), (1, .int x1), (2, .int x2)]) rfl (Nat.le_of_ble_eq_true rfl) (by rw [hu, henc]) ?_
  intro Z hX hl hG hr
  subst hl; subst hG
  have fl68 : (Cond.fieldLink RX11 68 "OnlyFarModel" "broken" "I").before (za Z) (zs Z) = true := hX.wd (mcC _ wd_996)
  have fl77 : (Cond.fieldLink RX11 77 "OnlyFarModel" "token" "I").before (za Z) (zs Z) = true := hX.wd (mcC _ wd_1000)
  have fl87 : (Cond.fieldLink RX11 87 "OnlyFarModel" "value" "I").before (za Z) (zs Z) = true := hX.wd (mcC _ wd_1001)
  have inX11 : ∀ w ∈ u_ws RX11 TX11 30, w ∈ wsX11_looks := fun w h => mcC w (inC_X11 w h)
  have hJ20 : ∀ (x1 : Int32) (x2 : Int32) (g_broken : Int32) (g_brokenAt : Int32), Rn Z 3 (fun o => some (enc o)) 0 0 20 [(0, .ref a_this), (1, .int x1), (2, .int x2)] [] [(a_this, .inr (11, [.ref a_state, .ref a_readPage, .int g_isAwake, .ref a_tape, .int g_taped, .int g_fault, .int g_broken, .int g_brokenAt, .int g_spot, .int g_here, .int g_token, .int g_value, .ref a_letters, .int g_hasPlaces, .int g_highest, .ref a_sums, .ref a_aside, .ref a_groups, .ref a_sides, .int g_laid, .int g_groupMany, .int g_isDrawn, .ref a_names, .ref a_firstNames, .ref a_isKept, .ref a_lanes, .ref a_lengths, .ref a_cells, .int g_torn, .ref a_had]))] (X11_looks_J20 g_here g_value x1 x2 g_broken g_brokenAt) := by
    intro x1 x2 g_broken g_brokenAt
    unfold X11_looks_J20
    refine rn_aload_n hX dX11_looks_20 0 rfl 21 rfl ?_
    refine rn_get hX inX11 0 rfl rfl 6 (by decide) fl68 rfl rfl dX11_looks_21 24 rfl ?_
    refine rn_if_ne hX dX11_looks_24 47 (by decide) 27 rfl ?_ ?_
    · exact rn_vret hX hr (by rw [henc]) dX11_looks_47
    refine rn_aload_n hX dX11_looks_27 0 rfl 28 rfl ?_
    refine rn_get hX inX11 0 rfl rfl 11 (by decide) fl87 rfl rfl dX11_looks_28 31 rfl ?_
    refine rn_i2l hX dX11_looks_31 32 rfl ?_
    refine rn_iload_n hX dX11_looks_32 1 rfl 33 rfl ?_
    refine rn_i2l hX dX11_looks_33 34 rfl ?_
    refine rn_iload_n hX dX11_looks_34 2 rfl 35 rfl ?_
    refine rn_i2l hX dX11_looks_35 36 rfl ?_
    refine rn_callS0 hX (gS mcC wd_1090 wd_1091 wd_81 wd_1092) rfl hdS_X11_in rfl rfl ⟨Nat.le_of_ble_eq_true rfl, Nat.le_of_ble_eq_true rfl⟩ (c_X11_in (zl Z) (zG Z) g_value.toInt64 x1.toInt64 x2.toInt64 rfl) rfl [] rfl rfl rfl (Nat.le_of_ble_eq_true rfl) dX11_looks_36 39 rfl (S' := [.int (X11_in g_value.toInt64 x1.toInt64 x2.toInt64)]) rfl ⟨Nat.zero_le _, Nat.zero_le _⟩ ?_
    refine rn_if_ne hX dX11_looks_39 47 (by decide) 42 rfl ?_ ?_
    · exact rn_vret hX hr (by rw [henc]) dX11_looks_47
    refine rn_aload_n hX dX11_looks_42 0 rfl 43 rfl ?_
    refine rn_iconst hX dX11_looks_43 44 rfl ic_3 ?_
    refine rn_lat (fun u1 hu1 => ?_)
    refine rn_callV hX (gV mcC wd_1109 wd_1111 wd_27 wd_81 wd_1112) rfl hdV_X11_fails rfl rfl ⟨Nat.le_of_ble_eq_true rfl, Nat.le_of_ble_eq_true rfl⟩ (c_X11_fails (zl Z) (zG Z) a_this a_state a_readPage a_tape a_letters a_sums a_aside a_groups a_sides a_names a_firstNames a_isKept a_lanes a_lengths a_cells a_had g_isAwake g_taped g_fault g_broken g_brokenAt g_spot g_here g_token g_value g_hasPlaces g_highest g_laid g_groupMany g_isDrawn g_torn (3 : Int32) hu1) rfl [0] rfl rfl rfl (ci := 11) rfl rfl rfl (Nat.le_of_ble_eq_true rfl) dX11_looks_44 47 rfl (wn := [(a_this, .inr (11, [.ref a_state, .ref a_readPage, .int g_isAwake, .ref a_tape, .int g_taped, .int g_fault, .int u1.1, .int u1.2, .int g_spot, .int g_here, .int g_token, .int g_value, .ref a_letters, .int g_hasPlaces, .int g_highest, .ref a_sums, .ref a_aside, .ref a_groups, .ref a_sides, .int g_laid, .int g_groupMany, .int g_isDrawn, .ref a_names, .ref a_firstNames, .ref a_isKept, .ref a_lanes, .ref a_lengths, .ref a_cells, .int g_torn, .ref a_had]))]) rfl (S' := []) rfl ⟨Nat.zero_le _, Nat.zero_le _⟩ ?_
    exact rn_vret hX hr (by rw [henc]) dX11_looks_47
  unfold X11_looks
  refine rn_aload_n hX dX11_looks_0 0 rfl 1 rfl ?_
  refine rn_get hX inX11 0 rfl rfl 6 (by decide) fl68 rfl rfl dX11_looks_1 4 rfl ?_
  refine rn_if_ne hX dX11_looks_4 20 (by decide) 7 rfl ?_ ?_
  · exact hJ20 x1 x2 g_broken g_brokenAt
  refine rn_aload_n hX dX11_looks_7 0 rfl 8 rfl ?_
  refine rn_get hX inX11 0 rfl rfl 10 (by decide) fl77 rfl rfl dX11_looks_8 11 rfl ?_
  refine rn_iconst hX dX11_looks_11 12 rfl ic_2 ?_
  refine rn_icmp_eq hX dX11_looks_12 20 (by decide) 15 rfl ?_ ?_
  · exact hJ20 x1 x2 g_broken g_brokenAt
  refine rn_aload_n hX dX11_looks_15 0 rfl 16 rfl ?_
  refine rn_iconst hX dX11_looks_16 17 rfl ic_2 ?_
  refine rn_lat (fun u2 hu2 => ?_)
  refine rn_callV hX (gV mcC wd_1109 wd_1111 wd_27 wd_81 wd_1112) rfl hdV_X11_fails rfl rfl ⟨Nat.le_of_ble_eq_true rfl, Nat.le_of_ble_eq_true rfl⟩ (c_X11_fails (zl Z) (zG Z) a_this a_state a_readPage a_tape a_letters a_sums a_aside a_groups a_sides a_names a_firstNames a_isKept a_lanes a_lengths a_cells a_had g_isAwake g_taped g_fault g_broken g_brokenAt g_spot g_here g_token g_value g_hasPlaces g_highest g_laid g_groupMany g_isDrawn g_torn (2 : Int32) hu2) rfl [0] rfl rfl rfl (ci := 11) rfl rfl rfl (Nat.le_of_ble_eq_true rfl) dX11_looks_17 20 rfl (wn := [(a_this, .inr (11, [.ref a_state, .ref a_readPage, .int g_isAwake, .ref a_tape, .int g_taped, .int g_fault, .int u2.1, .int u2.2, .int g_spot, .int g_here, .int g_token, .int g_value, .ref a_letters, .int g_hasPlaces, .int g_highest, .ref a_sums, .ref a_aside, .ref a_groups, .ref a_sides, .int g_laid, .int g_groupMany, .int g_isDrawn, .ref a_names, .ref a_firstNames, .ref a_isKept, .ref a_lanes, .ref a_lengths, .ref a_cells, .int g_torn, .ref a_had]))]) rfl (S' := []) rfl ⟨Nat.zero_le _, Nat.zero_le _⟩ ?_
  exact hJ20 x1 x2 u2.1 u2.2
abbrev rmX11_number : Room := { frames := 2, cells := 0, slots := 0, locals := 47 }
theorem hdV_X11_number : yX11_number.cls = RX11 ∧ yX11_number.cls ≠ "java/lang/invoke/MethodHandle" ∧ yX11_number.cls ≠ "java/lang/invoke/VarHandle" ∧ (parseMethodDescriptor yX11_number.desc).map (fun d => d.parameters.length) = some 2 := by decide +kernel
set_option maxHeartbeats 4000000 in
set_option maxRecDepth 100000 in
theorem c_X11_number (l : Launch) (G : GT) (a_this a_tape a_state a_readPage a_letters a_sums a_aside a_groups a_sides a_names a_firstNames a_isKept a_lanes a_lengths a_cells a_had : Nat) (g_isAwake : Int32) (g_taped : Int32) (g_fault : Int32) (g_broken : Int32) (g_brokenAt : Int32) (g_spot : Int32) (g_here : Int32) (g_token : Int32) (g_value : Int32) (g_hasPlaces : Int32) (g_highest : Int32) (g_laid : Int32) (g_groupMany : Int32) (g_isDrawn : Int32) (g_torn : Int32) (g_tape : (Nat → Int32)) (x1 : Int32) (x2 : Int32) {u : Int32 × Int32 × Int32 × Int32 × Int32 × Int32 × Int32} (hu : X11_number x1 x2 g_broken g_brokenAt g_here g_spot g_taped g_token g_value g_tape = some u) : Ctr l G yX11_number wsX11_number rmX11_number [.ref a_this, .int x1, .int x2] [(a_this, .inr (11, [.ref a_state, .ref a_readPage, .int g_isAwake, .ref a_tape, .int g_taped, .int g_fault, .int g_broken, .int g_brokenAt, .int g_spot, .int g_here, .int g_token, .int g_value, .ref a_letters, .int g_hasPlaces, .int g_highest, .ref a_sums, .ref a_aside, .ref a_groups, .ref a_sides, .int g_laid, .int g_groupMany, .int g_isDrawn, .ref a_names, .ref a_firstNames, .ref a_isKept, .ref a_lanes, .ref a_lengths, .ref a_cells, .int g_torn, .ref a_had])), (a_tape, .inl (G.2.1 1, 320, .inl g_tape))] (some (.int u.1)) [(a_this, .inr (11, [.ref a_state, .ref a_readPage, .int g_isAwake, .ref a_tape, .int g_taped, .int g_fault, .int u.2.1, .int u.2.2.1, .int u.2.2.2.2.1, .int u.2.2.2.1, .int u.2.2.2.2.2.1, .int u.2.2.2.2.2.2, .ref a_letters, .int g_hasPlaces, .int g_highest, .ref a_sums, .ref a_aside, .ref a_groups, .ref a_sides, .int g_laid, .int g_groupMany, .int g_isDrawn, .ref a_names, .ref a_firstNames, .ref a_isKept, .ref a_lanes, .ref a_lengths, .ref a_cells, .int g_torn, .ref a_had])), (a_tape, .inl (G.2.1 1, 320, .inl g_tape))] := by
  obtain ⟨enc, henc⟩ : ∃ enc : (Int32 × Int32 × Int32 × Int32 × Int32 × Int32 × Int32) → Option Value × va_W, enc = fun u => (((some (.int u.1)) : Option Value), ([(a_this, .inr (11, [.ref a_state, .ref a_readPage, .int g_isAwake, .ref a_tape, .int g_taped, .int g_fault, .int u.2.1, .int u.2.2.1, .int u.2.2.2.2.1, .int u.2.2.2.1, .int u.2.2.2.2.2.1, .int u.2.2.2.2.2.2, .ref a_letters, .int g_hasPlaces, .int g_highest, .ref a_sums, .ref a_aside, .ref a_groups, .ref a_sides, .int g_laid, .int g_groupMany, .int g_isDrawn, .ref a_names, .ref a_firstNames, .ref a_isKept, .ref a_lanes, .ref a_lengths, .ref a_cells, .int g_torn, .ref a_had])), (a_tape, .inl (G.2.1 1, 320, .inl g_tape))] : va_W)) := ⟨_, rfl⟩
  refine ctr_of (cc := cX11_number) (own := RX11) (E := Option.map enc) (o := X11_number x1 x2 g_broken g_brokenAt g_here g_spot g_taped g_token g_value g_tape) (by decide) rfl rfl (L := [(0, .ref a_this), (1, .int x1), (2, .int x2)]) rfl (Nat.le_of_ble_eq_true rfl) (by rw [hu, henc]; rfl) ?_
  intro Z hX hl hG hr
  subst hl; subst hG
  have fl68 : (Cond.fieldLink RX11 68 "OnlyFarModel" "broken" "I").before (za Z) (zs Z) = true := hX.wd (mcC _ wd_996)
  have fl87 : (Cond.fieldLink RX11 87 "OnlyFarModel" "value" "I").before (za Z) (zs Z) = true := hX.wd (mcC _ wd_1001)
  have inX11 : ∀ w ∈ u_ws RX11 TX11 30, w ∈ wsX11_number := fun w h => mcC w (inC_X11 w h)
  have hJ21 : ∀ (s0 : Int32) (g_broken : Int32) (g_brokenAt : Int32) (g_here : Int32) (g_spot : Int32) (g_token : Int32) (g_value : Int32), Rn Z 4 (Option.map enc) 0 0 21 [(0, .ref a_this)] [.int s0] [(a_this, .inr (11, [.ref a_state, .ref a_readPage, .int g_isAwake, .ref a_tape, .int g_taped, .int g_fault, .int g_broken, .int g_brokenAt, .int g_spot, .int g_here, .int g_token, .int g_value, .ref a_letters, .int g_hasPlaces, .int g_highest, .ref a_sums, .ref a_aside, .ref a_groups, .ref a_sides, .int g_laid, .int g_groupMany, .int g_isDrawn, .ref a_names, .ref a_firstNames, .ref a_isKept, .ref a_lanes, .ref a_lengths, .ref a_cells, .int g_torn, .ref a_had])), (a_tape, .inl ((zG Z).2.1 1, 320, .inl g_tape))] (X11_number_J21 g_taped g_tape s0 g_broken g_brokenAt g_here g_spot g_token g_value) := by
    intro s0 g_broken g_brokenAt g_here g_spot g_token g_value
    unfold X11_number_J21
    refine rn_istore_n hX dX11_number_21 3 rfl (by decide) (L' := [(3, .int s0), (0, .ref a_this)]) rfl 22 rfl ?_
    refine rn_aload_n hX dX11_number_22 1 rfl 23 rfl ?_
    refine rn_bind (fun u1 hu1 => ?_)
    refine rn_callV hX (gV mcC wd_1097 wd_1099 wd_25 wd_81 wd_1100) rfl hdV_X11_step rfl rfl ⟨Nat.le_of_ble_eq_true rfl, Nat.le_of_ble_eq_true rfl⟩ (c_X11_step (zl Z) (zG Z) a_this a_tape a_state a_readPage a_letters a_sums a_aside a_groups a_sides a_names a_firstNames a_isKept a_lanes a_lengths a_cells a_had g_isAwake g_taped g_fault g_broken g_brokenAt g_spot g_here g_token g_value g_hasPlaces g_highest g_laid g_groupMany g_isDrawn g_torn g_tape hu1) rfl [0, 1] rfl rfl rfl (ci := 11) rfl rfl rfl (Nat.le_of_ble_eq_true rfl) dX11_number_23 26 rfl (wn := [(a_this, .inr (11, [.ref a_state, .ref a_readPage, .int g_isAwake, .ref a_tape, .int g_taped, .int g_fault, .int u1.1, .int u1.2.1, .int u1.2.2.2.1, .int u1.2.2.1, .int u1.2.2.2.2.1, .int u1.2.2.2.2.2, .ref a_letters, .int g_hasPlaces, .int g_highest, .ref a_sums, .ref a_aside, .ref a_groups, .ref a_sides, .int g_laid, .int g_groupMany, .int g_isDrawn, .ref a_names, .ref a_firstNames, .ref a_isKept, .ref a_lanes, .ref a_lengths, .ref a_cells, .int g_torn, .ref a_had])), (a_tape, .inl ((zG Z).2.1 1, 320, .inl g_tape))]) rfl (S' := []) rfl ⟨Nat.zero_le _, Nat.zero_le _⟩ ?_
    refine rn_iload_n hX dX11_number_26 0 rfl 27 rfl ?_
    exact rn_iret hX hr (by rw [henc]; rfl) dX11_number_27
  unfold X11_number
  refine rn_aload_n hX dX11_number_0 0 rfl 1 rfl ?_
  refine rn_iload_n hX dX11_number_1 1 rfl 2 rfl ?_
  refine rn_iload_n hX dX11_number_2 2 rfl 3 rfl ?_
  refine rn_lat (fun u2 hu2 => ?_)
  refine rn_callV hX (gV mcC wd_1125 wd_1127 wd_31 wd_81 wd_1128) rfl hdV_X11_looks rfl rfl ⟨Nat.le_of_ble_eq_true rfl, Nat.le_of_ble_eq_true rfl⟩ (c_X11_looks (zl Z) (zG Z) a_this a_state a_readPage a_tape a_letters a_sums a_aside a_groups a_sides a_names a_firstNames a_isKept a_lanes a_lengths a_cells a_had g_isAwake g_taped g_fault g_broken g_brokenAt g_spot g_here g_token g_value g_hasPlaces g_highest g_laid g_groupMany g_isDrawn g_torn x1 x2 hu2) rfl [0] rfl rfl rfl (ci := 11) rfl rfl rfl (Nat.le_of_ble_eq_true rfl) dX11_number_3 6 rfl (wn := [(a_this, .inr (11, [.ref a_state, .ref a_readPage, .int g_isAwake, .ref a_tape, .int g_taped, .int g_fault, .int u2.1, .int u2.2, .int g_spot, .int g_here, .int g_token, .int g_value, .ref a_letters, .int g_hasPlaces, .int g_highest, .ref a_sums, .ref a_aside, .ref a_groups, .ref a_sides, .int g_laid, .int g_groupMany, .int g_isDrawn, .ref a_names, .ref a_firstNames, .ref a_isKept, .ref a_lanes, .ref a_lengths, .ref a_cells, .int g_torn, .ref a_had])), (a_tape, .inl ((zG Z).2.1 1, 320, .inl g_tape))]) rfl (S' := []) rfl ⟨Nat.zero_le _, Nat.zero_le _⟩ ?_
  refine rn_aload_n hX dX11_number_6 0 rfl 7 rfl ?_
  refine rn_get hX inX11 0 rfl rfl 6 (by decide) fl68 rfl rfl dX11_number_7 10 rfl ?_
  refine rn_if_ne hX dX11_number_10 20 (by decide) 13 rfl ?_ ?_
  · refine rn_iload_n hX dX11_number_20 1 rfl 21 rfl ?_
    refine rn_sub [0] rfl ?_
    exact hJ21 x1 u2.1 u2.2 g_here g_spot g_token g_value
  refine rn_aload_n hX dX11_number_13 0 rfl 14 rfl ?_
  refine rn_get hX inX11 0 rfl rfl 11 (by decide) fl87 rfl rfl dX11_number_14 17 rfl ?_
  refine rn_goto hX dX11_number_17 21 (by decide) ?_
  refine rn_sub [0] rfl ?_
  exact hJ21 g_value u2.1 u2.2 g_here g_spot g_token g_value
