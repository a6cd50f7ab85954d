abbrev rmX10_side : Room := { frames := 4, cells := 0, slots := 0, locals := 105 }
theorem hdV_X10_side : yX10_side.cls = RX10 ∧ yX10_side.cls ≠ "java/lang/invoke/MethodHandle" ∧ yX10_side.cls ≠ "java/lang/invoke/VarHandle" ∧ (parseMethodDescriptor yX10_side.desc).map (fun d => d.parameters.length) = some 4 := by decide +kernel
set_option maxHeartbeats 4000000 in
set_option maxRecDepth 100000 in
theorem c_X10_side (l : Launch) (G : GT) (a_this a_table a_table_squares a_tape a_reader a_way a_images a_sheets a_flaws a_sixthOf a_drawing a_naming : Nat) (g_lastFault : Int32) (g_lastTear : Int32) (g_table_places : Int32) (g_table_squares : (Nat → Int32)) (x1 : Int32) (x2 : Int32) (x3 : Int32) (x4 : Int32) {u : Int32} (hu : X10_side x1 x2 x3 x4 g_table_places g_table_squares = some u) : Ctr l G yX10_side wsX10_side rmX10_side [.ref a_this, .int x1, .int x2, .int x3, .int x4] [(a_this, .inr (10, [.ref a_tape, .ref a_reader, .ref a_table, .ref a_way, .ref a_images, .ref a_sheets, .ref a_flaws, .ref a_sixthOf, .ref a_drawing, .ref a_naming, .int g_lastFault, .int g_lastTear])), (a_table, .inr (8, [.int g_table_places, .ref a_table_squares])), (a_table_squares, .inl (G.2.1 1, 49, .inl g_table_squares))] (some (.int u)) [(a_this, .inr (10, [.ref a_tape, .ref a_reader, .ref a_table, .ref a_way, .ref a_images, .ref a_sheets, .ref a_flaws, .ref a_sixthOf, .ref a_drawing, .ref a_naming, .int g_lastFault, .int g_lastTear])), (a_table, .inr (8, [.int g_table_places, .ref a_table_squares])), (a_table_squares, .inl (G.2.1 1, 49, .inl g_table_squares))] := by
  obtain ⟨enc, henc⟩ : ∃ enc : (Int32) → Option Value × va_W, enc = fun u => (((some (.int u)) : Option Value), ([(a_this, .inr (10, [.ref a_tape, .ref a_reader, .ref a_table, .ref a_way, .ref a_images, .ref a_sheets, .ref a_flaws, .ref a_sixthOf, .ref a_drawing, .ref a_naming, .int g_lastFault, .int g_lastTear])), (a_table, .inr (8, [.int g_table_places, .ref a_table_squares])), (a_table_squares, .inl (G.2.1 1, 49, .inl g_table_squares))] : va_W)) := ⟨_, rfl⟩
  refine ctr_of (cc := cX10_side) (own := RX10) (E := Option.map enc) (o := X10_side x1 x2 x3 x4 g_table_places g_table_squares) (by decide) rfl rfl (L := [(0, .ref a_this), (1, .int x1), (2, .int x2), (3, .int x3), (4, .int x4)]) rfl (Nat.le_of_ble_eq_true rfl) (by rw [hu, henc]; rfl) ?_
  intro Z hX hl hG hr
  subst hl; subst hG
  have fl28 : (Cond.fieldLink RX10 28 "OnlyFar" "table" "LOnlyFar$Table;").before (za Z) (zs Z) = true := hX.wd (List.mem_of_getElem? (i := 1) rfl)
  have inX10 : ∀ w ∈ u_ws RX10 TX10 12, w ∈ wsX10_side := fun _ h => List.mem_cons_of_mem _ (List.mem_append_left _ ((List.mem_append_right _ h)))
  unfold X10_side
  refine rn_aload_n hX dX10_side_0 0 rfl 1 rfl ?_
  refine rn_get hX inX10 0 rfl rfl 2 (by decide) fl28 rfl rfl dX10_side_1 4 rfl ?_
  refine rn_iload_n hX dX10_side_4 1 rfl 5 rfl ?_
  refine rn_iload_n hX dX10_side_5 2 rfl 6 rfl ?_
  refine rn_iload_n hX dX10_side_6 3 rfl 7 rfl ?_
  refine rn_iload hX dX10_side_7 4 rfl 9 rfl ?_
  refine rn_callV0 hX gX10_side_X8_areFour rfl hdV_X8_areFour rfl rfl ⟨Nat.le_of_ble_eq_true rfl, Nat.le_of_ble_eq_true rfl⟩ (c_X8_areFour (zl Z) (zG Z) a_table a_table_squares g_table_places x1 x2 x3 x4 rfl) rfl [1] rfl rfl (ci := 8) rfl rfl rfl (Nat.le_of_ble_eq_true rfl) dX10_side_9 12 rfl (S' := [.int (X8_areFour x1 x2 x3 x4 g_table_places)]) rfl ⟨Nat.zero_le _, Nat.zero_le _⟩ ?_
  refine rn_if_ne hX dX10_side_12 17 (by decide) 15 rfl ?_ ?_
  · refine rn_aload_n hX dX10_side_17 0 rfl 18 rfl ?_
    refine rn_get hX inX10 0 rfl rfl 2 (by decide) fl28 rfl rfl dX10_side_18 21 rfl ?_
    refine rn_iload_n hX dX10_side_21 1 rfl 22 rfl ?_
    refine rn_iload_n hX dX10_side_22 2 rfl 23 rfl ?_
    refine rn_iload_n hX dX10_side_23 3 rfl 24 rfl ?_
    refine rn_iload hX dX10_side_24 4 rfl 26 rfl ?_
    refine rn_bind (fun u1 hu1 => ?_)
    refine rn_callV0 hX gX10_side_X8_isToldFour rfl hdV_X8_isToldFour rfl rfl ⟨Nat.le_of_ble_eq_true rfl, Nat.le_of_ble_eq_true rfl⟩ (c_X8_isToldFour (zl Z) (zG Z) a_table a_table_squares g_table_places g_table_squares x1 x2 x3 x4 hu1) rfl [1, 2] rfl rfl (ci := 8) rfl rfl rfl (Nat.le_of_ble_eq_true rfl) dX10_side_26 29 rfl (S' := [.int u1]) rfl ⟨Nat.zero_le _, Nat.zero_le _⟩ ?_
    refine rn_if_eq hX dX10_side_29 47 (by decide) 32 rfl ?_ ?_
    · refine rn_bipush hX dX10_side_47 49 rfl bp_m2 ?_
      exact rn_iret hX hr (by rw [henc]; rfl) dX10_side_49
    refine rn_aload_n hX dX10_side_32 0 rfl 33 rfl ?_
    refine rn_get hX inX10 0 rfl rfl 2 (by decide) fl28 rfl rfl dX10_side_33 36 rfl ?_
    refine rn_iload_n hX dX10_side_36 1 rfl 37 rfl ?_
    refine rn_iload_n hX dX10_side_37 2 rfl 38 rfl ?_
    refine rn_iload_n hX dX10_side_38 3 rfl 39 rfl ?_
    refine rn_iload hX dX10_side_39 4 rfl 41 rfl ?_
    refine rn_bind (fun u2 hu2 => ?_)
    refine rn_callV0 hX gX10_side_X8_canBeFour rfl hdV_X8_canBeFour rfl rfl ⟨Nat.le_of_ble_eq_true rfl, Nat.le_of_ble_eq_true rfl⟩ (c_X8_canBeFour (zl Z) (zG Z) a_table a_table_squares g_table_places g_table_squares x1 x2 x3 x4 hu2) rfl [1, 2] rfl rfl (ci := 8) rfl rfl rfl (Nat.le_of_ble_eq_true rfl) dX10_side_41 44 rfl (S' := [.int u2]) rfl ⟨Nat.zero_le _, Nat.zero_le _⟩ ?_
    refine rn_if_ne hX dX10_side_44 50 (by decide) 47 rfl ?_ ?_
    · refine rn_aload_n hX dX10_side_50 0 rfl 51 rfl ?_
      refine rn_get hX inX10 0 rfl rfl 2 (by decide) fl28 rfl rfl dX10_side_51 54 rfl ?_
      refine rn_iload_n hX dX10_side_54 1 rfl 55 rfl ?_
      refine rn_iload_n hX dX10_side_55 2 rfl 56 rfl ?_
      refine rn_iload_n hX dX10_side_56 3 rfl 57 rfl ?_
      refine rn_iload hX dX10_side_57 4 rfl 59 rfl ?_
      refine rn_bind (fun u3 hu3 => ?_)
      refine rn_callV0 hX gX10_side_X8_sideSign rfl hdV_X8_sideSign rfl rfl ⟨Nat.le_of_ble_eq_true rfl, Nat.le_of_ble_eq_true rfl⟩ (c_X8_sideSign (zl Z) (zG Z) a_table a_table_squares g_table_places g_table_squares x1 x2 x3 x4 hu3) rfl [1, 2] rfl rfl (ci := 8) rfl rfl rfl (Nat.le_of_ble_eq_true rfl) dX10_side_59 62 rfl (S' := [.int u3]) rfl ⟨Nat.zero_le _, Nat.zero_le _⟩ ?_
      refine rn_istore hX dX10_side_62 (by decide) (L' := [(5, .int u3), (0, .ref a_this), (1, .int x1), (2, .int x2), (3, .int x3), (4, .int x4)]) rfl 64 rfl ?_
      refine rn_iload hX dX10_side_64 0 rfl 66 rfl ?_
      refine rn_if_ge hX dX10_side_66 74 (by decide) 69 rfl ?_ ?_
      · refine rn_iload hX dX10_side_74 0 rfl 76 rfl ?_
        exact rn_iret hX hr (by rw [henc]; rfl) dX10_side_76
      refine rn_bipush hX dX10_side_69 71 rfl bp_m5 ?_
      refine rn_goto hX dX10_side_71 76 (by decide) ?_
      exact rn_iret hX hr (by rw [henc]; rfl) dX10_side_76
    refine rn_bipush hX dX10_side_47 49 rfl bp_m2 ?_
    exact rn_iret hX hr (by rw [henc]; rfl) dX10_side_49
  refine rn_iconst hX dX10_side_15 16 rfl ic_m1 ?_
  exact rn_iret hX hr (by rw [henc]; rfl) dX10_side_16
abbrev rmX10_within : Room := { frames := 4, cells := 0, slots := 0, locals := 105 }
theorem hdV_X10_within : yX10_within.cls = RX10 ∧ yX10_within.cls ≠ "java/lang/invoke/MethodHandle" ∧ yX10_within.cls ≠ "java/lang/invoke/VarHandle" ∧ (parseMethodDescriptor yX10_within.desc).map (fun d => d.parameters.length) = some 4 := by decide +kernel
set_option maxHeartbeats 4000000 in
set_option maxRecDepth 100000 in
theorem c_X10_within (l : Launch) (G : GT) (a_this a_table a_table_squares a_tape a_reader a_way a_images a_sheets a_flaws a_sixthOf a_drawing a_naming : Nat) (g_lastFault : Int32) (g_lastTear : Int32) (g_table_places : Int32) (g_table_squares : (Nat → Int32)) (x1 : Int32) (x2 : Int32) (x3 : Int32) (x4 : Int32) {u : Int32} (hu : X10_within x1 x2 x3 x4 g_table_places g_table_squares = some u) : Ctr l G yX10_within wsX10_within rmX10_within [.ref a_this, .int x1, .int x2, .int x3, .int x4] [(a_this, .inr (10, [.ref a_tape, .ref a_reader, .ref a_table, .ref a_way, .ref a_images, .ref a_sheets, .ref a_flaws, .ref a_sixthOf, .ref a_drawing, .ref a_naming, .int g_lastFault, .int g_lastTear])), (a_table, .inr (8, [.int g_table_places, .ref a_table_squares])), (a_table_squares, .inl (G.2.1 1, 49, .inl g_table_squares))] (some (.int u)) [(a_this, .inr (10, [.ref a_tape, .ref a_reader, .ref a_table, .ref a_way, .ref a_images, .ref a_sheets, .ref a_flaws, .ref a_sixthOf, .ref a_drawing, .ref a_naming, .int g_lastFault, .int g_lastTear])), (a_table, .inr (8, [.int g_table_places, .ref a_table_squares])), (a_table_squares, .inl (G.2.1 1, 49, .inl g_table_squares))] := by
  obtain ⟨enc, henc⟩ : ∃ enc : (Int32) → Option Value × va_W, enc = fun u => (((some (.int u)) : Option Value), ([(a_this, .inr (10, [.ref a_tape, .ref a_reader, .ref a_table, .ref a_way, .ref a_images, .ref a_sheets, .ref a_flaws, .ref a_sixthOf, .ref a_drawing, .ref a_naming, .int g_lastFault, .int g_lastTear])), (a_table, .inr (8, [.int g_table_places, .ref a_table_squares])), (a_table_squares, .inl (G.2.1 1, 49, .inl g_table_squares))] : va_W)) := ⟨_, rfl⟩
  refine ctr_of (cc := cX10_within) (own := RX10) (E := Option.map enc) (o := X10_within x1 x2 x3 x4 g_table_places g_table_squares) (by decide) rfl rfl (L := [(0, .ref a_this), (1, .int x1), (2, .int x2), (3, .int x3), (4, .int x4)]) rfl (Nat.le_of_ble_eq_true rfl) (by rw [hu, henc]; rfl) ?_
  intro Z hX hl hG hr
  subst hl; subst hG
  have fl28 : (Cond.fieldLink RX10 28 "OnlyFar" "table" "LOnlyFar$Table;").before (za Z) (zs Z) = true := hX.wd (List.mem_of_getElem? (i := 1) rfl)
  have inX10 : ∀ w ∈ u_ws RX10 TX10 12, w ∈ wsX10_within := fun _ h => List.mem_cons_of_mem _ (List.mem_append_left _ ((List.mem_append_right _ h)))
  have hJ115 : ∀ (s0 : Int32), Rn Z 5 (Option.map enc) 0 0 115 [] [.int s0] [(a_this, .inr (10, [.ref a_tape, .ref a_reader, .ref a_table, .ref a_way, .ref a_images, .ref a_sheets, .ref a_flaws, .ref a_sixthOf, .ref a_drawing, .ref a_naming, .int g_lastFault, .int g_lastTear])), (a_table, .inr (8, [.int g_table_places, .ref a_table_squares])), (a_table_squares, .inl ((zG Z).2.1 1, 49, .inl g_table_squares))] (X10_within_J115 s0) := by
    intro s0
    unfold X10_within_J115
    refine rn_callS0 hX gX10_within_X10_bit rfl hdS_X10_bit rfl rfl ⟨Nat.le_of_ble_eq_true rfl, Nat.le_of_ble_eq_true rfl⟩ (c_X10_bit (zl Z) (zG Z) s0 rfl) rfl [] rfl rfl rfl (Nat.le_of_ble_eq_true rfl) dX10_within_115 118 rfl (S' := [.int (X10_bit s0)]) rfl ⟨Nat.zero_le _, Nat.zero_le _⟩ ?_
    exact rn_iret hX hr (by rw [henc]; rfl) dX10_within_118
  have hJ114 : Rn Z 5 (Option.map enc) 0 0 114 [] [] [(a_this, .inr (10, [.ref a_tape, .ref a_reader, .ref a_table, .ref a_way, .ref a_images, .ref a_sheets, .ref a_flaws, .ref a_sixthOf, .ref a_drawing, .ref a_naming, .int g_lastFault, .int g_lastTear])), (a_table, .inr (8, [.int g_table_places, .ref a_table_squares])), (a_table_squares, .inl ((zG Z).2.1 1, 49, .inl g_table_squares))] (X10_within_J114) := by
    unfold X10_within_J114
    refine rn_iconst hX dX10_within_114 115 rfl ic_0 ?_
    exact hJ115 (0 : Int32)
  unfold X10_within
  refine rn_aload_n hX dX10_within_0 0 rfl 1 rfl ?_
  refine rn_get hX inX10 0 rfl rfl 2 (by decide) fl28 rfl rfl dX10_within_1 4 rfl ?_
  refine rn_iload_n hX dX10_within_4 1 rfl 5 rfl ?_
  refine rn_iload_n hX dX10_within_5 2 rfl 6 rfl ?_
  refine rn_iload_n hX dX10_within_6 3 rfl 7 rfl ?_
  refine rn_iload hX dX10_within_7 4 rfl 9 rfl ?_
  refine rn_callV0 hX gX10_within_X8_areFour rfl hdV_X8_areFour rfl rfl ⟨Nat.le_of_ble_eq_true rfl, Nat.le_of_ble_eq_true rfl⟩ (c_X8_areFour (zl Z) (zG Z) a_table a_table_squares g_table_places x1 x2 x3 x4 rfl) rfl [1] rfl rfl (ci := 8) rfl rfl rfl (Nat.le_of_ble_eq_true rfl) dX10_within_9 12 rfl (S' := [.int (X8_areFour x1 x2 x3 x4 g_table_places)]) rfl ⟨Nat.zero_le _, Nat.zero_le _⟩ ?_
  refine rn_if_ne hX dX10_within_12 17 (by decide) 15 rfl ?_ ?_
  · refine rn_aload_n hX dX10_within_17 0 rfl 18 rfl ?_
    refine rn_get hX inX10 0 rfl rfl 2 (by decide) fl28 rfl rfl dX10_within_18 21 rfl ?_
    refine rn_iload_n hX dX10_within_21 1 rfl 22 rfl ?_
    refine rn_iload_n hX dX10_within_22 2 rfl 23 rfl ?_
    refine rn_iload_n hX dX10_within_23 3 rfl 24 rfl ?_
    refine rn_iload hX dX10_within_24 4 rfl 26 rfl ?_
    refine rn_bind (fun u1 hu1 => ?_)
    refine rn_callV0 hX gX10_within_X8_isToldFour rfl hdV_X8_isToldFour rfl rfl ⟨Nat.le_of_ble_eq_true rfl, Nat.le_of_ble_eq_true rfl⟩ (c_X8_isToldFour (zl Z) (zG Z) a_table a_table_squares g_table_places g_table_squares x1 x2 x3 x4 hu1) rfl [1, 2] rfl rfl (ci := 8) rfl rfl rfl (Nat.le_of_ble_eq_true rfl) dX10_within_26 29 rfl (S' := [.int u1]) rfl ⟨Nat.zero_le _, Nat.zero_le _⟩ ?_
    refine rn_if_eq hX dX10_within_29 62 (by decide) 32 rfl ?_ ?_
    · refine rn_bipush hX dX10_within_62 64 rfl bp_m2 ?_
      exact rn_iret hX hr (by rw [henc]; rfl) dX10_within_64
    refine rn_aload_n hX dX10_within_32 0 rfl 33 rfl ?_
    refine rn_get hX inX10 0 rfl rfl 2 (by decide) fl28 rfl rfl dX10_within_33 36 rfl ?_
    refine rn_iload_n hX dX10_within_36 1 rfl 37 rfl ?_
    refine rn_iload_n hX dX10_within_37 2 rfl 38 rfl ?_
    refine rn_iload_n hX dX10_within_38 3 rfl 39 rfl ?_
    refine rn_iload hX dX10_within_39 4 rfl 41 rfl ?_
    refine rn_bind (fun u2 hu2 => ?_)
    refine rn_callV0 hX gX10_within_X8_canBeFour rfl hdV_X8_canBeFour rfl rfl ⟨Nat.le_of_ble_eq_true rfl, Nat.le_of_ble_eq_true rfl⟩ (c_X8_canBeFour (zl Z) (zG Z) a_table a_table_squares g_table_places g_table_squares x1 x2 x3 x4 hu2) rfl [1, 2] rfl rfl (ci := 8) rfl rfl rfl (Nat.le_of_ble_eq_true rfl) dX10_within_41 44 rfl (S' := [.int u2]) rfl ⟨Nat.zero_le _, Nat.zero_le _⟩ ?_
    refine rn_if_eq hX dX10_within_44 62 (by decide) 47 rfl ?_ ?_
    · refine rn_bipush hX dX10_within_62 64 rfl bp_m2 ?_
      exact rn_iret hX hr (by rw [henc]; rfl) dX10_within_64
    refine rn_aload_n hX dX10_within_47 0 rfl 48 rfl ?_
    refine rn_get hX inX10 0 rfl rfl 2 (by decide) fl28 rfl rfl dX10_within_48 51 rfl ?_
    refine rn_iload_n hX dX10_within_51 1 rfl 52 rfl ?_
    refine rn_iload_n hX dX10_within_52 2 rfl 53 rfl ?_
    refine rn_iload_n hX dX10_within_53 3 rfl 54 rfl ?_
    refine rn_bind (fun u3 hu3 => ?_)
    refine rn_callV0 hX gX10_within_X8_wideOf rfl hdV_X8_wideOf rfl rfl ⟨Nat.le_of_ble_eq_true rfl, Nat.le_of_ble_eq_true rfl⟩ (c_X8_wideOf (zl Z) (zG Z) a_table a_table_squares g_table_places g_table_squares x1 x2 x3 hu3) rfl [1, 2] rfl rfl (ci := 8) rfl rfl rfl (Nat.le_of_ble_eq_true rfl) dX10_within_54 57 rfl (S' := [.long u3]) rfl ⟨Nat.zero_le _, Nat.zero_le _⟩ ?_
    refine rn_lconst hX dX10_within_57 58 rfl lc_0 ?_
    refine rn_lcmp_ne hX dX10_within_58 59 rfl dX10_within_59 65 (by decide) 62 rfl ?_ ?_
    · refine rn_aload_n hX dX10_within_65 0 rfl 66 rfl ?_
      refine rn_get hX inX10 0 rfl rfl 2 (by decide) fl28 rfl rfl dX10_within_66 69 rfl ?_
      refine rn_iload_n hX dX10_within_69 1 rfl 70 rfl ?_
      refine rn_iload_n hX dX10_within_70 2 rfl 71 rfl ?_
      refine rn_iload_n hX dX10_within_71 3 rfl 72 rfl ?_
      refine rn_iload hX dX10_within_72 4 rfl 74 rfl ?_
      refine rn_bind (fun u4 hu4 => ?_)
      refine rn_callV0 hX gX10_within_X8_sideSign rfl hdV_X8_sideSign rfl rfl ⟨Nat.le_of_ble_eq_true rfl, Nat.le_of_ble_eq_true rfl⟩ (c_X8_sideSign (zl Z) (zG Z) a_table a_table_squares g_table_places g_table_squares x1 x2 x3 x4 hu4) rfl [1, 2] rfl rfl (ci := 8) rfl rfl rfl (Nat.le_of_ble_eq_true rfl) dX10_within_74 77 rfl (S' := [.int u4]) rfl ⟨Nat.zero_le _, Nat.zero_le _⟩ ?_
      refine rn_if_lt hX dX10_within_77 114 (by decide) 80 rfl ?_ ?_
      · refine rn_sub [] rfl ?_
        exact hJ114
      refine rn_aload_n hX dX10_within_80 0 rfl 81 rfl ?_
      refine rn_get hX inX10 0 rfl rfl 2 (by decide) fl28 rfl rfl dX10_within_81 84 rfl ?_
      refine rn_iload_n hX dX10_within_84 2 rfl 85 rfl ?_
      refine rn_iload_n hX dX10_within_85 3 rfl 86 rfl ?_
      refine rn_iload_n hX dX10_within_86 1 rfl 87 rfl ?_
      refine rn_iload hX dX10_within_87 4 rfl 89 rfl ?_
      refine rn_bind (fun u5 hu5 => ?_)
      refine rn_callV0 hX gX10_within_X8_sideSign rfl hdV_X8_sideSign rfl rfl ⟨Nat.le_of_ble_eq_true rfl, Nat.le_of_ble_eq_true rfl⟩ (c_X8_sideSign (zl Z) (zG Z) a_table a_table_squares g_table_places g_table_squares x2 x3 x1 x4 hu5) rfl [1, 2] rfl rfl (ci := 8) rfl rfl rfl (Nat.le_of_ble_eq_true rfl) dX10_within_89 92 rfl (S' := [.int u5]) rfl ⟨Nat.zero_le _, Nat.zero_le _⟩ ?_
      refine rn_if_lt hX dX10_within_92 114 (by decide) 95 rfl ?_ ?_
      · refine rn_sub [] rfl ?_
        exact hJ114
      refine rn_aload_n hX dX10_within_95 0 rfl 96 rfl ?_
      refine rn_get hX inX10 0 rfl rfl 2 (by decide) fl28 rfl rfl dX10_within_96 99 rfl ?_
      refine rn_iload_n hX dX10_within_99 1 rfl 100 rfl ?_
      refine rn_iload_n hX dX10_within_100 3 rfl 101 rfl ?_
      refine rn_iload_n hX dX10_within_101 2 rfl 102 rfl ?_
      refine rn_iload hX dX10_within_102 4 rfl 104 rfl ?_
      refine rn_bind (fun u6 hu6 => ?_)
      refine rn_callV0 hX gX10_within_X8_sideSign rfl hdV_X8_sideSign rfl rfl ⟨Nat.le_of_ble_eq_true rfl, Nat.le_of_ble_eq_true rfl⟩ (c_X8_sideSign (zl Z) (zG Z) a_table a_table_squares g_table_places g_table_squares x1 x3 x2 x4 hu6) rfl [1, 2] rfl rfl (ci := 8) rfl rfl rfl (Nat.le_of_ble_eq_true rfl) dX10_within_104 107 rfl (S' := [.int u6]) rfl ⟨Nat.zero_le _, Nat.zero_le _⟩ ?_
      refine rn_if_lt hX dX10_within_107 114 (by decide) 110 rfl ?_ ?_
      · refine rn_sub [] rfl ?_
        exact hJ114
      refine rn_iconst hX dX10_within_110 111 rfl ic_1 ?_
      refine rn_goto hX dX10_within_111 115 (by decide) ?_
      refine rn_sub [] rfl ?_
      exact hJ115 (1 : Int32)
    refine rn_bipush hX dX10_within_62 64 rfl bp_m2 ?_
    exact rn_iret hX hr (by rw [henc]; rfl) dX10_within_64
  refine rn_iconst hX dX10_within_15 16 rfl ic_m1 ?_
  exact rn_iret hX hr (by rw [henc]; rfl) dX10_within_16
abbrev rmX10_sixth : Room := { frames := 4, cells := 0, slots := 0, locals := 90 }
theorem hdV_X10_sixth : yX10_sixth.cls = RX10 ∧ yX10_sixth.cls ≠ "java/lang/invoke/MethodHandle" ∧ yX10_sixth.cls ≠ "java/lang/invoke/VarHandle" ∧ (parseMethodDescriptor yX10_sixth.desc).map (fun d => d.parameters.length) = some 5 := by decide +kernel
set_option maxHeartbeats 4000000 in
set_option maxRecDepth 100000 in
theorem c_X10_sixth (l : Launch) (G : GT) (a_this a_sixthOf a_table a_table_squares a_tape a_reader a_way a_images a_sheets a_flaws a_drawing a_naming : Nat) (g_lastFault : Int32) (g_lastTear : Int32) (g_sixthOf_middle : Int64) (g_sixthOf_spread : Int64) (g_sixthOf_divisor : Int64) (g_table_places : Int32) (g_table_squares : (Nat → Int32)) (x1 : Int32) (x2 : Int32) (x3 : Int32) (x4 : Int32) (x5 : Int32) {u : Int64 × Int64 × Int64 × Int64} (hu : X10_sixth x1 x2 x3 x4 x5 g_sixthOf_divisor g_sixthOf_middle g_sixthOf_spread g_table_places g_table_squares = some u) : Ctr l G yX10_sixth wsX10_sixth rmX10_sixth [.ref a_this, .int x1, .int x2, .int x3, .int x4, .int x5] [(a_this, .inr (10, [.ref a_tape, .ref a_reader, .ref a_table, .ref a_way, .ref a_images, .ref a_sheets, .ref a_flaws, .ref a_sixthOf, .ref a_drawing, .ref a_naming, .int g_lastFault, .int g_lastTear])), (a_sixthOf, .inr (7, [.long g_sixthOf_middle, .long g_sixthOf_spread, .long g_sixthOf_divisor])), (a_table, .inr (8, [.int g_table_places, .ref a_table_squares])), (a_table_squares, .inl (G.2.1 1, 49, .inl g_table_squares))] (some (.long u.1)) [(a_this, .inr (10, [.ref a_tape, .ref a_reader, .ref a_table, .ref a_way, .ref a_images, .ref a_sheets, .ref a_flaws, .ref a_sixthOf, .ref a_drawing, .ref a_naming, .int g_lastFault, .int g_lastTear])), (a_sixthOf, .inr (7, [.long u.2.2.1, .long u.2.2.2, .long u.2.1])), (a_table, .inr (8, [.int g_table_places, .ref a_table_squares])), (a_table_squares, .inl (G.2.1 1, 49, .inl g_table_squares))] := by
  obtain ⟨enc, henc⟩ : ∃ enc : (Int64 × Int64 × Int64 × Int64) → Option Value × va_W, enc = fun u => (((some (.long u.1)) : Option Value), ([(a_this, .inr (10, [.ref a_tape, .ref a_reader, .ref a_table, .ref a_way, .ref a_images, .ref a_sheets, .ref a_flaws, .ref a_sixthOf, .ref a_drawing, .ref a_naming, .int g_lastFault, .int g_lastTear])), (a_sixthOf, .inr (7, [.long u.2.2.1, .long u.2.2.2, .long u.2.1])), (a_table, .inr (8, [.int g_table_places, .ref a_table_squares])), (a_table_squares, .inl (G.2.1 1, 49, .inl g_table_squares))] : va_W)) := ⟨_, rfl⟩
  refine ctr_of (cc := cX10_sixth) (own := RX10) (E := Option.map enc) (o := X10_sixth x1 x2 x3 x4 x5 g_sixthOf_divisor g_sixthOf_middle g_sixthOf_spread g_table_places g_table_squares) (by decide) rfl rfl (L := [(0, .ref a_this), (1, .int x1), (2, .int x2), (3, .int x3), (4, .int x4), (5, .int x5)]) rfl (Nat.le_of_ble_eq_true rfl) (by rw [hu, henc]; rfl) ?_
  intro Z hX hl hG hr
  subst hl; subst hG
  have fl230 : (Cond.fieldLink RX10 230 "OnlyFar$Sixth" "middle" "J").before (za Z) (zs Z) = true := hX.wd (List.mem_of_getElem? (i := 5) rfl)
  have fl234 : (Cond.fieldLink RX10 234 "OnlyFar$Sixth" "spread" "J").before (za Z) (zs Z) = true := hX.wd (List.mem_of_getElem? (i := 6) rfl)
  have fl237 : (Cond.fieldLink RX10 237 "OnlyFar$Sixth" "divisor" "J").before (za Z) (zs Z) = true := hX.wd (List.mem_of_getElem? (i := 7) rfl)
  have fl28 : (Cond.fieldLink RX10 28 "OnlyFar" "table" "LOnlyFar$Table;").before (za Z) (zs Z) = true := hX.wd (List.mem_of_getElem? (i := 1) rfl)
  have fl63 : (Cond.fieldLink RX10 63 "OnlyFar" "sixthOf" "LOnlyFar$Sixth;").before (za Z) (zs Z) = true := hX.wd (List.mem_of_getElem? (i := 4) rfl)
  have kl145 : (Cond.constantLong RX10 145 (-9000000000)).before (za Z) (zs Z) = true := hX.wd (List.mem_of_getElem? (i := 2) rfl)
  have kl154 : (Cond.constantLong RX10 154 (-9000000001)).before (za Z) (zs Z) = true := hX.wd (List.mem_of_getElem? (i := 3) rfl)
  have inX10 : ∀ w ∈ u_ws RX10 TX10 12, w ∈ wsX10_sixth := fun _ h => List.mem_cons_of_mem _ (List.mem_append_left _ (List.mem_append_left _ ((List.mem_append_right _ h))))
  have inX7 : ∀ w ∈ u_ws RX7 TX7 3, w ∈ wsX10_sixth := fun _ h => List.mem_cons_of_mem _ (List.mem_append_left _ ((List.mem_append_right _ h)))
  have hJ175 : ∀ (s1 : Int32) (g_sixthOf_divisor : Int64) (g_sixthOf_middle : Int64) (g_sixthOf_spread : Int64), Rn Z 6 (Option.map enc) 0 0 175 [] [.int s1, .ref a_sixthOf] [(a_this, .inr (10, [.ref a_tape, .ref a_reader, .ref a_table, .ref a_way, .ref a_images, .ref a_sheets, .ref a_flaws, .ref a_sixthOf, .ref a_drawing, .ref a_naming, .int g_lastFault, .int g_lastTear])), (a_sixthOf, .inr (7, [.long g_sixthOf_middle, .long g_sixthOf_spread, .long g_sixthOf_divisor])), (a_table, .inr (8, [.int g_table_places, .ref a_table_squares])), (a_table_squares, .inl ((zG Z).2.1 1, 49, .inl g_table_squares))] (X10_sixth_J175 s1 g_sixthOf_divisor g_sixthOf_middle g_sixthOf_spread) := by
    intro s1 g_sixthOf_divisor g_sixthOf_middle g_sixthOf_spread
    unfold X10_sixth_J175
    refine rn_bind (fun u1 hu1 => ?_)
    refine rn_callV0 hX gX10_sixth_X7_wholeLength rfl hdV_X7_wholeLength rfl rfl ⟨Nat.le_of_ble_eq_true rfl, Nat.le_of_ble_eq_true rfl⟩ (c_X7_wholeLength (zl Z) (zG Z) a_sixthOf g_sixthOf_middle g_sixthOf_spread g_sixthOf_divisor s1 hu1) rfl [1] rfl rfl (ci := 7) rfl rfl rfl (Nat.le_of_ble_eq_true rfl) dX10_sixth_175 178 rfl (S' := [.long u1]) rfl ⟨Nat.zero_le _, Nat.zero_le _⟩ ?_
    exact rn_lret hX hr (by rw [henc]; rfl) dX10_sixth_178
  unfold X10_sixth
  refine rn_aload_n hX dX10_sixth_0 0 rfl 1 rfl ?_
  refine rn_get hX inX10 0 rfl rfl 2 (by decide) fl28 rfl rfl dX10_sixth_1 4 rfl ?_
  refine rn_iload_n hX dX10_sixth_4 1 rfl 5 rfl ?_
  refine rn_iload_n hX dX10_sixth_5 2 rfl 6 rfl ?_
  refine rn_iload_n hX dX10_sixth_6 3 rfl 7 rfl ?_
  refine rn_iload hX dX10_sixth_7 4 rfl 9 rfl ?_
  refine rn_callV0 hX gX10_sixth_X8_areFour rfl hdV_X8_areFour rfl rfl ⟨Nat.le_of_ble_eq_true rfl, Nat.le_of_ble_eq_true rfl⟩ (c_X8_areFour (zl Z) (zG Z) a_table a_table_squares g_table_places x1 x2 x3 x4 rfl) rfl [2] rfl rfl (ci := 8) rfl rfl rfl (Nat.le_of_ble_eq_true rfl) dX10_sixth_9 12 rfl (S' := [.int (X8_areFour x1 x2 x3 x4 g_table_places)]) rfl ⟨Nat.zero_le _, Nat.zero_le _⟩ ?_
  refine rn_if_eq hX dX10_sixth_12 26 (by decide) 15 rfl ?_ ?_
  · refine rn_ldc2 hX kl145 dX10_sixth_26 29 rfl ?_
    exact rn_lret hX hr (by rw [henc]; rfl) dX10_sixth_29
  refine rn_iload hX dX10_sixth_15 5 rfl 17 rfl ?_
  refine rn_if_lt hX dX10_sixth_17 26 (by decide) 20 rfl ?_ ?_
  · refine rn_ldc2 hX kl145 dX10_sixth_26 29 rfl ?_
    exact rn_lret hX hr (by rw [henc]; rfl) dX10_sixth_29
  refine rn_iload hX dX10_sixth_20 5 rfl 22 rfl ?_
  refine rn_iconst hX dX10_sixth_22 23 rfl ic_4 ?_
  refine rn_icmp_le hX dX10_sixth_23 30 (by decide) 26 rfl ?_ ?_
  · refine rn_aload_n hX dX10_sixth_30 0 rfl 31 rfl ?_
    refine rn_get hX inX10 0 rfl rfl 2 (by decide) fl28 rfl rfl dX10_sixth_31 34 rfl ?_
    refine rn_iload_n hX dX10_sixth_34 1 rfl 35 rfl ?_
    refine rn_iload_n hX dX10_sixth_35 3 rfl 36 rfl ?_
    refine rn_iload hX dX10_sixth_36 4 rfl 38 rfl ?_
    refine rn_bind (fun u2 hu2 => ?_)
    refine rn_callV0 hX gX10_sixth_X8_isToldThree rfl hdV_X8_isToldThree rfl rfl ⟨Nat.le_of_ble_eq_true rfl, Nat.le_of_ble_eq_true rfl⟩ (c_X8_isToldThree (zl Z) (zG Z) a_table a_table_squares g_table_places g_table_squares x1 x3 x4 hu2) rfl [2, 3] rfl rfl (ci := 8) rfl rfl rfl (Nat.le_of_ble_eq_true rfl) dX10_sixth_38 41 rfl (S' := [.int u2]) rfl ⟨Nat.zero_le _, Nat.zero_le _⟩ ?_
    refine rn_if_eq hX dX10_sixth_41 86 (by decide) 44 rfl ?_ ?_
    · refine rn_ldc2 hX kl154 dX10_sixth_86 89 rfl ?_
      exact rn_lret hX hr (by rw [henc]; rfl) dX10_sixth_89
    refine rn_aload_n hX dX10_sixth_44 0 rfl 45 rfl ?_
    refine rn_get hX inX10 0 rfl rfl 2 (by decide) fl28 rfl rfl dX10_sixth_45 48 rfl ?_
    refine rn_iload_n hX dX10_sixth_48 2 rfl 49 rfl ?_
    refine rn_iload_n hX dX10_sixth_49 3 rfl 50 rfl ?_
    refine rn_iload hX dX10_sixth_50 4 rfl 52 rfl ?_
    refine rn_bind (fun u3 hu3 => ?_)
    refine rn_callV0 hX gX10_sixth_X8_isToldThree rfl hdV_X8_isToldThree rfl rfl ⟨Nat.le_of_ble_eq_true rfl, Nat.le_of_ble_eq_true rfl⟩ (c_X8_isToldThree (zl Z) (zG Z) a_table a_table_squares g_table_places g_table_squares x2 x3 x4 hu3) rfl [2, 3] rfl rfl (ci := 8) rfl rfl rfl (Nat.le_of_ble_eq_true rfl) dX10_sixth_52 55 rfl (S' := [.int u3]) rfl ⟨Nat.zero_le _, Nat.zero_le _⟩ ?_
    refine rn_if_eq hX dX10_sixth_55 86 (by decide) 58 rfl ?_ ?_
    · refine rn_ldc2 hX kl154 dX10_sixth_86 89 rfl ?_
      exact rn_lret hX hr (by rw [henc]; rfl) dX10_sixth_89
    refine rn_aload_n hX dX10_sixth_58 0 rfl 59 rfl ?_
    refine rn_get hX inX10 0 rfl rfl 2 (by decide) fl28 rfl rfl dX10_sixth_59 62 rfl ?_
    refine rn_iload_n hX dX10_sixth_62 1 rfl 63 rfl ?_
    refine rn_iload_n hX dX10_sixth_63 3 rfl 64 rfl ?_
    refine rn_iload hX dX10_sixth_64 4 rfl 66 rfl ?_
    refine rn_bind (fun u4 hu4 => ?_)
    refine rn_callV0 hX gX10_sixth_X8_canBeThree rfl hdV_X8_canBeThree rfl rfl ⟨Nat.le_of_ble_eq_true rfl, Nat.le_of_ble_eq_true rfl⟩ (c_X8_canBeThree (zl Z) (zG Z) a_table a_table_squares g_table_places g_table_squares x1 x3 x4 hu4) rfl [2, 3] rfl rfl (ci := 8) rfl rfl rfl (Nat.le_of_ble_eq_true rfl) dX10_sixth_66 69 rfl (S' := [.int u4]) rfl ⟨Nat.zero_le _, Nat.zero_le _⟩ ?_
    refine rn_if_eq hX dX10_sixth_69 86 (by decide) 72 rfl ?_ ?_
    · refine rn_ldc2 hX kl154 dX10_sixth_86 89 rfl ?_
      exact rn_lret hX hr (by rw [henc]; rfl) dX10_sixth_89
    refine rn_aload_n hX dX10_sixth_72 0 rfl 73 rfl ?_
    refine rn_get hX inX10 0 rfl rfl 2 (by decide) fl28 rfl rfl dX10_sixth_73 76 rfl ?_
    refine rn_iload_n hX dX10_sixth_76 2 rfl 77 rfl ?_
    refine rn_iload_n hX dX10_sixth_77 3 rfl 78 rfl ?_
    refine rn_iload hX dX10_sixth_78 4 rfl 80 rfl ?_
    refine rn_bind (fun u5 hu5 => ?_)
    refine rn_callV0 hX gX10_sixth_X8_canBeThree rfl hdV_X8_canBeThree rfl rfl ⟨Nat.le_of_ble_eq_true rfl, Nat.le_of_ble_eq_true rfl⟩ (c_X8_canBeThree (zl Z) (zG Z) a_table a_table_squares g_table_places g_table_squares x2 x3 x4 hu5) rfl [2, 3] rfl rfl (ci := 8) rfl rfl rfl (Nat.le_of_ble_eq_true rfl) dX10_sixth_80 83 rfl (S' := [.int u5]) rfl ⟨Nat.zero_le _, Nat.zero_le _⟩ ?_
    refine rn_if_ne hX dX10_sixth_83 90 (by decide) 86 rfl ?_ ?_
    · refine rn_aload_n hX dX10_sixth_90 0 rfl 91 rfl ?_
      refine rn_get hX inX10 0 rfl rfl 7 (by decide) fl63 rfl rfl dX10_sixth_91 94 rfl ?_
      refine rn_aload_n hX dX10_sixth_94 0 rfl 95 rfl ?_
      refine rn_get hX inX10 0 rfl rfl 2 (by decide) fl28 rfl rfl dX10_sixth_95 98 rfl ?_
      refine rn_iload_n hX dX10_sixth_98 1 rfl 99 rfl ?_
      refine rn_iload_n hX dX10_sixth_99 2 rfl 100 rfl ?_
      refine rn_iload_n hX dX10_sixth_100 3 rfl 101 rfl ?_
      refine rn_iload hX dX10_sixth_101 4 rfl 103 rfl ?_
      refine rn_bind (fun u6 hu6 => ?_)
      refine rn_callV hX gX10_sixth_X7_take rfl hdV_X7_take rfl rfl ⟨Nat.le_of_ble_eq_true rfl, Nat.le_of_ble_eq_true rfl⟩ (c_X7_take (zl Z) (zG Z) a_sixthOf a_table a_table_squares g_sixthOf_middle g_sixthOf_spread g_sixthOf_divisor g_table_places g_table_squares x1 x2 x3 x4 hu6) rfl [1, 2, 3] rfl rfl rfl (ci := 7) rfl rfl rfl (Nat.le_of_ble_eq_true rfl) dX10_sixth_103 106 rfl (wn := [(a_this, .inr (10, [.ref a_tape, .ref a_reader, .ref a_table, .ref a_way, .ref a_images, .ref a_sheets, .ref a_flaws, .ref a_sixthOf, .ref a_drawing, .ref a_naming, .int g_lastFault, .int g_lastTear])), (a_sixthOf, .inr (7, [.long u6.2.1, .long u6.2.2, .long u6.1])), (a_table, .inr (8, [.int g_table_places, .ref a_table_squares])), (a_table_squares, .inl ((zG Z).2.1 1, 49, .inl g_table_squares))]) rfl (S' := []) rfl ⟨Nat.zero_le _, Nat.zero_le _⟩ ?_
      refine rn_iload hX dX10_sixth_106 5 rfl 108 rfl ?_
      by_cases hs7 : x5 = (0 : Int32)
      · rw [if_pos hs7]
        refine rn_tableIn hX dX10_sixth_108 hs7 (by decide) (by decide) rfl 136 (by decide) ?_
        refine rn_aload_n hX dX10_sixth_136 0 rfl 137 rfl ?_
        refine rn_get hX inX10 0 rfl rfl 7 (by decide) fl63 rfl rfl dX10_sixth_137 140 rfl ?_
        refine rn_get hX inX7 1 rfl rfl 0 (by decide) fl230 rfl rfl dX10_sixth_140 143 rfl ?_
        exact rn_lret hX hr (by rw [henc]; rfl) dX10_sixth_143
      rw [if_neg hs7]
      by_cases hs8 : x5 = (1 : Int32)
      · rw [if_pos hs8]
        refine rn_tableIn hX dX10_sixth_108 hs8 (by decide) (by decide) rfl 144 (by decide) ?_
        refine rn_aload_n hX dX10_sixth_144 0 rfl 145 rfl ?_
        refine rn_get hX inX10 0 rfl rfl 7 (by decide) fl63 rfl rfl dX10_sixth_145 148 rfl ?_
        refine rn_get hX inX7 1 rfl rfl 1 (by decide) fl234 rfl rfl dX10_sixth_148 151 rfl ?_
        exact rn_lret hX hr (by rw [henc]; rfl) dX10_sixth_151
      rw [if_neg hs8]
      by_cases hs9 : x5 = (2 : Int32)
      · rw [if_pos hs9]
        refine rn_tableIn hX dX10_sixth_108 hs9 (by decide) (by decide) rfl 152 (by decide) ?_
        refine rn_aload_n hX dX10_sixth_152 0 rfl 153 rfl ?_
        refine rn_get hX inX10 0 rfl rfl 7 (by decide) fl63 rfl rfl dX10_sixth_153 156 rfl ?_
        refine rn_get hX inX7 1 rfl rfl 2 (by decide) fl237 rfl rfl dX10_sixth_156 159 rfl ?_
        exact rn_lret hX hr (by rw [henc]; rfl) dX10_sixth_159
      rw [if_neg hs9]
      refine rn_tableOut hX dX10_sixth_108 (by have qhs7 := ne_int hs7; rw [show (0 : Int32).toInt = 0 from by decide] at qhs7; have qhs8 := ne_int hs8; rw [show (1 : Int32).toInt = 1 from by decide] at qhs8; have qhs9 := ne_int hs9; rw [show (2 : Int32).toInt = 2 from by decide] at qhs9; have := qhs7; omega) 160 (by decide) ?_
      refine rn_aload_n hX dX10_sixth_160 0 rfl 161 rfl ?_
      refine rn_get hX inX10 0 rfl rfl 7 (by decide) fl63 rfl rfl dX10_sixth_161 164 rfl ?_
      refine rn_iload hX dX10_sixth_164 5 rfl 166 rfl ?_
      refine rn_iconst hX dX10_sixth_166 167 rfl ic_3 ?_
      refine rn_icmp_ne hX dX10_sixth_167 174 (by decide) 170 rfl ?_ ?_
      · refine rn_iconst hX dX10_sixth_174 175 rfl ic_0 ?_
        refine rn_sub [] rfl ?_
        exact hJ175 (0 : Int32) u6.1 u6.2.1 u6.2.2
      refine rn_iconst hX dX10_sixth_170 171 rfl ic_1 ?_
      refine rn_goto hX dX10_sixth_171 175 (by decide) ?_
      refine rn_sub [] rfl ?_
      exact hJ175 (1 : Int32) u6.1 u6.2.1 u6.2.2
    refine rn_ldc2 hX kl154 dX10_sixth_86 89 rfl ?_
    exact rn_lret hX hr (by rw [henc]; rfl) dX10_sixth_89
  refine rn_ldc2 hX kl145 dX10_sixth_26 29 rfl ?_
  exact rn_lret hX hr (by rw [henc]; rfl) dX10_sixth_29
abbrev rmX10_ends : Room := { frames := 2, cells := 0, slots := 0, locals := 43 }
theorem hdV_X10_ends : yX10_ends.cls = RX10 ∧ yX10_ends.cls ≠ "java/lang/invoke/MethodHandle" ∧ yX10_ends.cls ≠ "java/lang/invoke/VarHandle" ∧ (parseMethodDescriptor yX10_ends.desc).map (fun d => d.parameters.length) = some 3 := by decide +kernel
set_option maxHeartbeats 4000000 in
set_option maxRecDepth 100000 in
theorem c_X10_ends (l : Launch) (G : GT) (a_this a_table a_table_squares a_tape a_reader a_way a_images a_sheets a_flaws a_sixthOf a_drawing a_naming : Nat) (g_lastFault : Int32) (g_lastTear : Int32) (g_table_places : Int32) (g_table_squares : (Nat → Int32)) (x1 : Int32) (x2 : Int32) (x3 : Int32) {u : Int32} (hu : X10_ends x1 x2 x3 g_table_places g_table_squares = some u) : Ctr l G yX10_ends wsX10_ends rmX10_ends [.ref a_this, .int x1, .int x2, .int x3] [(a_this, .inr (10, [.ref a_tape, .ref a_reader, .ref a_table, .ref a_way, .ref a_images, .ref a_sheets, .ref a_flaws, .ref a_sixthOf, .ref a_drawing, .ref a_naming, .int g_lastFault, .int g_lastTear])), (a_table, .inr (8, [.int g_table_places, .ref a_table_squares])), (a_table_squares, .inl (G.2.1 1, 49, .inl g_table_squares))] (some (.int u)) [(a_this, .inr (10, [.ref a_tape, .ref a_reader, .ref a_table, .ref a_way, .ref a_images, .ref a_sheets, .ref a_flaws, .ref a_sixthOf, .ref a_drawing, .ref a_naming, .int g_lastFault, .int g_lastTear])), (a_table, .inr (8, [.int g_table_places, .ref a_table_squares])), (a_table_squares, .inl (G.2.1 1, 49, .inl g_table_squares))] := by
  obtain ⟨enc, henc⟩ : ∃ enc : (Int32) → Option Value × va_W, enc = fun u => (((some (.int u)) : Option Value), ([(a_this, .inr (10, [.ref a_tape, .ref a_reader, .ref a_table, .ref a_way, .ref a_images, .ref a_sheets, .ref a_flaws, .ref a_sixthOf, .ref a_drawing, .ref a_naming, .int g_lastFault, .int g_lastTear])), (a_table, .inr (8, [.int g_table_places, .ref a_table_squares])), (a_table_squares, .inl (G.2.1 1, 49, .inl g_table_squares))] : va_W)) := ⟨_, rfl⟩
  refine ctr_of (cc := cX10_ends) (own := RX10) (E := Option.map enc) (o := X10_ends x1 x2 x3 g_table_places g_table_squares) (by decide) rfl rfl (L := [(0, .ref a_this), (1, .int x1), (2, .int x2), (3, .int x3)]) rfl (Nat.le_of_ble_eq_true rfl) (by rw [hu, henc]; rfl) ?_
  intro Z hX hl hG hr
  subst hl; subst hG
  have fl245 : (Cond.fieldLink RX10 245 "OnlyFar$Table" "places" "I").before (za Z) (zs Z) = true := hX.wd (List.mem_of_getElem? (i := 3) rfl)
  have fl28 : (Cond.fieldLink RX10 28 "OnlyFar" "table" "LOnlyFar$Table;").before (za Z) (zs Z) = true := hX.wd (List.mem_of_getElem? (i := 1) rfl)
  have kl220 : (Cond.constantLong RX10 220 (4)).before (za Z) (zs Z) = true := hX.wd (List.mem_of_getElem? (i := 4) rfl)
  have kl244 : (Cond.constant RX10 244 (99999)).before (za Z) (zs Z) = true := hX.wd (List.mem_of_getElem? (i := 2) rfl)
  have mathmaxS : (Cond.static Lib.Math.max.name).before (za Z) (zs Z) = true := hX.wd (List.mem_of_getElem? (i := 6) rfl)
  have mathmaxI : (Cond.initialized "java/lang/Math").before (za Z) (zs Z) = true := hX.wd (List.mem_of_getElem? (i := 7) rfl)
  have mathmaxC : (Cond.code Lib.Math.max.name Lib.Math.max.code 2 (some .int)).before (za Z) (zs Z) = true := hX.wd (List.mem_of_getElem? (i := 8) rfl)
  have mathminS : (Cond.static Lib.Math.min.name).before (za Z) (zs Z) = true := hX.wd (List.mem_of_getElem? (i := 10) rfl)
  have mathminI : (Cond.initialized "java/lang/Math").before (za Z) (zs Z) = true := hX.wd (List.mem_of_getElem? (i := 7) rfl)
  have mathminC : (Cond.code Lib.Math.min.name Lib.Math.min.code 2 (some .int)).before (za Z) (zs Z) = true := hX.wd (List.mem_of_getElem? (i := 11) rfl)
  have ml252 : (Cond.methodLink RX10 252 Lib.Math.max.name).before (za Z) (zs Z) = true := hX.wd (List.mem_of_getElem? (i := 5) rfl)
  have ml257 : (Cond.methodLink RX10 257 Lib.Math.min.name).before (za Z) (zs Z) = true := hX.wd (List.mem_of_getElem? (i := 9) rfl)
  have inX10 : ∀ w ∈ u_ws RX10 TX10 12, w ∈ wsX10_ends := fun _ h => List.mem_cons_of_mem _ (List.mem_append_left _ ((List.mem_append_right _ h)))
  have inX8 : ∀ w ∈ u_ws RX8 TX8 2, w ∈ wsX10_ends := fun _ h => List.mem_cons_of_mem _ ((List.mem_append_right _ h))
  have hJ132 : ∀ (x3 : Int32) (x4 : Int32) (x5 : Int32), Rn Z 10 (Option.map enc) 0 0 132 [(3, .int x3), (4, .int x4), (5, .int x5)] [] [(a_this, .inr (10, [.ref a_tape, .ref a_reader, .ref a_table, .ref a_way, .ref a_images, .ref a_sheets, .ref a_flaws, .ref a_sixthOf, .ref a_drawing, .ref a_naming, .int g_lastFault, .int g_lastTear])), (a_table, .inr (8, [.int g_table_places, .ref a_table_squares])), (a_table_squares, .inl ((zG Z).2.1 1, 49, .inl g_table_squares))] (X10_ends_J132 x3 x4 x5) := by
    intro x3 x4 x5
    unfold X10_ends_J132
    refine rn_iload_n hX dX10_ends_132 0 rfl 133 rfl ?_
    refine rn_if_ne hX dX10_ends_133 141 (by decide) 136 rfl ?_ ?_
    · refine rn_iload hX dX10_ends_141 2 rfl 143 rfl ?_
      exact rn_iret hX hr (by rw [henc]; rfl) dX10_ends_143
    refine rn_iload hX dX10_ends_136 1 rfl 138 rfl ?_
    refine rn_goto hX dX10_ends_138 143 (by decide) ?_
    exact rn_iret hX hr (by rw [henc]; rfl) dX10_ends_143
  have hJ126 : ∀ (again : Int32 → Int32 → Int32 → Int32 → Int32 → Int32 → Option (Int32)) (k132 : Int32 → Int32 → Int32 → Option (Int32)) (hagain : ∀ (x1 : Int32) (x2 : Int32) (x3 : Int32) (x4 : Int32) (x5 : Int32) (x6 : Int32), Rn Z 10 (Option.map enc) 0 0 33 [(0, .ref a_this), (1, .int x1), (2, .int x2), (3, .int x3), (4, .int x4), (5, .int x5), (6, .int x6)] [] [(a_this, .inr (10, [.ref a_tape, .ref a_reader, .ref a_table, .ref a_way, .ref a_images, .ref a_sheets, .ref a_flaws, .ref a_sixthOf, .ref a_drawing, .ref a_naming, .int g_lastFault, .int g_lastTear])), (a_table, .inr (8, [.int g_table_places, .ref a_table_squares])), (a_table_squares, .inl ((zG Z).2.1 1, 49, .inl g_table_squares))] (again x1 x2 x3 x4 x5 x6)) (hk132 : ∀ (x3 : Int32) (x4 : Int32) (x5 : Int32), Rn Z 10 (Option.map enc) 0 0 132 [(3, .int x3), (4, .int x4), (5, .int x5)] [] [(a_this, .inr (10, [.ref a_tape, .ref a_reader, .ref a_table, .ref a_way, .ref a_images, .ref a_sheets, .ref a_flaws, .ref a_sixthOf, .ref a_drawing, .ref a_naming, .int g_lastFault, .int g_lastTear])), (a_table, .inr (8, [.int g_table_places, .ref a_table_squares])), (a_table_squares, .inl ((zG Z).2.1 1, 49, .inl g_table_squares))] (k132 x3 x4 x5)) (x1 : Int32) (x2 : Int32) (x3 : Int32) (x4 : Int32) (x5 : Int32) (x6 : Int32), Rn Z 10 (Option.map enc) 0 0 126 [(0, .ref a_this), (1, .int x1), (2, .int x2), (3, .int x3), (4, .int x4), (5, .int x5), (6, .int x6)] [] [(a_this, .inr (10, [.ref a_tape, .ref a_reader, .ref a_table, .ref a_way, .ref a_images, .ref a_sheets, .ref a_flaws, .ref a_sixthOf, .ref a_drawing, .ref a_naming, .int g_lastFault, .int g_lastTear])), (a_table, .inr (8, [.int g_table_places, .ref a_table_squares])), (a_table_squares, .inl ((zG Z).2.1 1, 49, .inl g_table_squares))] (X10_ends_J126 again k132 x1 x2 x3 x4 x5 x6) := by
    intro again k132 hagain hk132 x1 x2 x3 x4 x5 x6
    unfold X10_ends_J126
    refine rn_iinc hX dX10_ends_126 6 rfl ic_1 (by decide) (L' := fun v1 => [(6, .int v1), (0, .ref a_this), (1, .int x1), (2, .int x2), (3, .int x3), (4, .int x4), (5, .int x5)]) (fun _ => rfl) 129 rfl (fun v1 => ?_)
    refine rn_goto hX dX10_ends_129 33 (by decide) ?_
    refine rn_sub [1, 2, 3, 4, 5, 6, 0] rfl ?_
    exact hagain x1 x2 x3 x4 x5 v1
  have hB33 : ∀ (again : Int32 → Int32 → Int32 → Int32 → Int32 → Int32 → Option (Int32)) (k132 : Int32 → Int32 → Int32 → Option (Int32)) (hagain : ∀ (x1 : Int32) (x2 : Int32) (x3 : Int32) (x4 : Int32) (x5 : Int32) (x6 : Int32), Rn Z 10 (Option.map enc) 0 0 33 [(0, .ref a_this), (1, .int x1), (2, .int x2), (3, .int x3), (4, .int x4), (5, .int x5), (6, .int x6)] [] [(a_this, .inr (10, [.ref a_tape, .ref a_reader, .ref a_table, .ref a_way, .ref a_images, .ref a_sheets, .ref a_flaws, .ref a_sixthOf, .ref a_drawing, .ref a_naming, .int g_lastFault, .int g_lastTear])), (a_table, .inr (8, [.int g_table_places, .ref a_table_squares])), (a_table_squares, .inl ((zG Z).2.1 1, 49, .inl g_table_squares))] (again x1 x2 x3 x4 x5 x6)) (hk132 : ∀ (x3 : Int32) (x4 : Int32) (x5 : Int32), Rn Z 10 (Option.map enc) 0 0 132 [(3, .int x3), (4, .int x4), (5, .int x5)] [] [(a_this, .inr (10, [.ref a_tape, .ref a_reader, .ref a_table, .ref a_way, .ref a_images, .ref a_sheets, .ref a_flaws, .ref a_sixthOf, .ref a_drawing, .ref a_naming, .int g_lastFault, .int g_lastTear])), (a_table, .inr (8, [.int g_table_places, .ref a_table_squares])), (a_table_squares, .inl ((zG Z).2.1 1, 49, .inl g_table_squares))] (k132 x3 x4 x5)) (x1 : Int32) (x2 : Int32) (x3 : Int32) (x4 : Int32) (x5 : Int32) (x6 : Int32), Rn Z 10 (Option.map enc) 0 0 33 [(0, .ref a_this), (1, .int x1), (2, .int x2), (3, .int x3), (4, .int x4), (5, .int x5), (6, .int x6)] [] [(a_this, .inr (10, [.ref a_tape, .ref a_reader, .ref a_table, .ref a_way, .ref a_images, .ref a_sheets, .ref a_flaws, .ref a_sixthOf, .ref a_drawing, .ref a_naming, .int g_lastFault, .int g_lastTear])), (a_table, .inr (8, [.int g_table_places, .ref a_table_squares])), (a_table_squares, .inl ((zG Z).2.1 1, 49, .inl g_table_squares))] (X10_ends_B33 g_table_places g_table_squares again k132 x1 x2 x3 x4 x5 x6) := by
    intro again k132 hagain hk132 x1 x2 x3 x4 x5 x6
    unfold X10_ends_B33
    refine rn_iload hX dX10_ends_33 6 rfl 35 rfl ?_
    refine rn_aload_n hX dX10_ends_35 0 rfl 36 rfl ?_
    refine rn_get hX inX10 0 rfl rfl 2 (by decide) fl28 rfl rfl dX10_ends_36 39 rfl ?_
    refine rn_get hX inX8 1 rfl rfl 0 (by decide) fl245 rfl rfl dX10_ends_39 42 rfl ?_
    refine rn_icmp_ge hX dX10_ends_42 132 (by decide) 45 rfl ?_ ?_
    · refine rn_sub [3, 4, 5] rfl ?_
      exact hk132 x3 x4 x5
    refine rn_aload_n hX dX10_ends_45 0 rfl 46 rfl ?_
    refine rn_get hX inX10 0 rfl rfl 2 (by decide) fl28 rfl rfl dX10_ends_46 49 rfl ?_
    refine rn_iload_n hX dX10_ends_49 1 rfl 50 rfl ?_
    refine rn_iload hX dX10_ends_50 6 rfl 52 rfl ?_
    refine rn_bind (fun u2 hu2 => ?_)
    refine rn_callV0 hX gX10_ends_X8_square rfl hdV_X8_square rfl rfl ⟨Nat.le_of_ble_eq_true rfl, Nat.le_of_ble_eq_true rfl⟩ (c_X8_square (zl Z) (zG Z) a_table a_table_squares g_table_places g_table_squares x1 x6 hu2) rfl [1, 2] rfl rfl (ci := 8) rfl rfl rfl (Nat.le_of_ble_eq_true rfl) dX10_ends_52 55 rfl (S' := [.int u2]) rfl ⟨Nat.zero_le _, Nat.zero_le _⟩ ?_
    refine rn_istore hX dX10_ends_55 (by decide) (L' := [(7, .int u2), (0, .ref a_this), (1, .int x1), (2, .int x2), (3, .int x3), (4, .int x4), (5, .int x5), (6, .int x6)]) rfl 57 rfl ?_
    refine rn_aload_n hX dX10_ends_57 1 rfl 58 rfl ?_
    refine rn_get hX inX10 0 rfl rfl 2 (by decide) fl28 rfl rfl dX10_ends_58 61 rfl ?_
    refine rn_iload_n hX dX10_ends_61 3 rfl 62 rfl ?_
    refine rn_iload hX dX10_ends_62 7 rfl 64 rfl ?_
    refine rn_bind (fun u3 hu3 => ?_)
    refine rn_callV0 hX gX10_ends_X8_square rfl hdV_X8_square rfl rfl ⟨Nat.le_of_ble_eq_true rfl, Nat.le_of_ble_eq_true rfl⟩ (c_X8_square (zl Z) (zG Z) a_table a_table_squares g_table_places g_table_squares x2 x6 hu3) rfl [1, 2] rfl rfl (ci := 8) rfl rfl rfl (Nat.le_of_ble_eq_true rfl) dX10_ends_64 67 rfl (S' := [.int u3]) rfl ⟨Nat.zero_le _, Nat.zero_le _⟩ ?_
    refine rn_istore hX dX10_ends_67 (by decide) (L' := [(8, .int u3), (7, .int u2), (0, .ref a_this), (1, .int x1), (2, .int x2), (3, .int x3), (4, .int x4), (5, .int x5), (6, .int x6)]) rfl 69 rfl ?_
    refine rn_iload hX dX10_ends_69 1 rfl 71 rfl ?_
    refine rn_if_le hX dX10_ends_71 126 (by decide) 74 rfl ?_ ?_
    · refine rn_sub [2, 3, 4, 5, 6, 7, 8] rfl ?_
      exact (hJ126 _ _ hagain hk132) x1 x2 x3 x4 x5 x6
    refine rn_iload hX dX10_ends_74 0 rfl 76 rfl ?_
    refine rn_if_le hX dX10_ends_76 126 (by decide) 79 rfl ?_ ?_
    · refine rn_sub [2, 3, 4, 5, 6, 7, 8] rfl ?_
      exact (hJ126 _ _ hagain hk132) x1 x2 x3 x4 x5 x6
    refine rn_ldc2 hX kl220 dX10_ends_79 82 rfl ?_
    refine rn_iload hX dX10_ends_82 1 rfl 84 rfl ?_
    refine rn_i2l hX dX10_ends_84 85 rfl ?_
    refine rn_lmul hX dX10_ends_85 86 rfl ?_
    refine rn_iload hX dX10_ends_86 0 rfl 88 rfl ?_
    refine rn_i2l hX dX10_ends_88 89 rfl ?_
    refine rn_lmul hX dX10_ends_89 90 rfl ?_
    refine rn_bind (fun u4 hu4 => ?_)
    refine rn_callS0 hX gX10_ends_X10_rootOf rfl hdS_X10_rootOf rfl rfl ⟨Nat.le_of_ble_eq_true rfl, Nat.le_of_ble_eq_true rfl⟩ (c_X10_rootOf (zl Z) (zG Z) (((4 : Int64) * u2.toInt64) * u3.toInt64) hu4) rfl [] rfl rfl rfl (Nat.le_of_ble_eq_true rfl) dX10_ends_90 93 rfl (S' := [.long u4]) rfl ⟨Nat.zero_le _, Nat.zero_le _⟩ ?_
    refine rn_l2i hX dX10_ends_93 94 rfl ?_
    refine rn_lati (fun v5 => ?_)
    refine rn_istore hX dX10_ends_94 (by decide) (L' := [(9, .int v5), (8, .int u3), (7, .int u2), (0, .ref a_this), (1, .int x1), (2, .int x2), (3, .int x3), (4, .int x4), (5, .int x5), (6, .int x6)]) rfl 96 rfl ?_
    refine rn_iload hX dX10_ends_96 7 rfl 98 rfl ?_
    refine rn_iload hX dX10_ends_98 2 rfl 100 rfl ?_
    refine rn_iload hX dX10_ends_100 1 rfl 102 rfl ?_
    refine rn_iadd hX dX10_ends_102 103 rfl ?_
    refine rn_iload hX dX10_ends_103 0 rfl 105 rfl ?_
    refine rn_isub hX dX10_ends_105 106 rfl ?_
    refine rn_mmax hX ml252 mathmaxS mathmaxI mathmaxC (Nat.le_of_ble_eq_true rfl) (Nat.le_of_ble_eq_true rfl) ⟨Nat.zero_le _, Nat.zero_le _⟩ dX10_ends_106 109 rfl ?_
    refine rn_lati (fun v6 => ?_)
    refine rn_istore hX dX10_ends_109 (by decide) (L' := [(4, .int v6), (9, .int v5), (8, .int u3), (7, .int u2), (0, .ref a_this), (1, .int x1), (2, .int x2), (3, .int x3), (5, .int x5), (6, .int x6)]) rfl 111 rfl ?_
    refine rn_iload hX dX10_ends_111 8 rfl 113 rfl ?_
    refine rn_iload hX dX10_ends_113 3 rfl 115 rfl ?_
    refine rn_iload hX dX10_ends_115 2 rfl 117 rfl ?_
    refine rn_iadd hX dX10_ends_117 118 rfl ?_
    refine rn_iload hX dX10_ends_118 1 rfl 120 rfl ?_
    refine rn_iadd hX dX10_ends_120 121 rfl ?_
    refine rn_mmin hX ml257 mathminS mathminI mathminC (Nat.le_of_ble_eq_true rfl) (Nat.le_of_ble_eq_true rfl) ⟨Nat.zero_le _, Nat.zero_le _⟩ dX10_ends_121 124 rfl ?_
    refine rn_lati (fun v7 => ?_)
    refine rn_istore hX dX10_ends_124 (by decide) (L' := [(5, .int v7), (4, .int v6), (9, .int v5), (8, .int u3), (7, .int u2), (0, .ref a_this), (1, .int x1), (2, .int x2), (3, .int x3), (6, .int x6)]) rfl 126 rfl ?_
    refine rn_sub [5, 6, 7, 8, 1, 0, 9] rfl ?_
    exact (hJ126 _ _ hagain hk132) x1 x2 x3 v6 v7 x6
  have hL33 : ∀ (k132 : Int32 → Int32 → Int32 → Option (Int32)) (hk132 : ∀ (x3 : Int32) (x4 : Int32) (x5 : Int32), Rn Z 10 (Option.map enc) 0 0 132 [(3, .int x3), (4, .int x4), (5, .int x5)] [] [(a_this, .inr (10, [.ref a_tape, .ref a_reader, .ref a_table, .ref a_way, .ref a_images, .ref a_sheets, .ref a_flaws, .ref a_sixthOf, .ref a_drawing, .ref a_naming, .int g_lastFault, .int g_lastTear])), (a_table, .inr (8, [.int g_table_places, .ref a_table_squares])), (a_table_squares, .inl ((zG Z).2.1 1, 49, .inl g_table_squares))] (k132 x3 x4 x5)) (n : Nat) (x1 : Int32) (x2 : Int32) (x3 : Int32) (x4 : Int32) (x5 : Int32) (x6 : Int32), Rn Z 10 (Option.map enc) 0 0 33 [(0, .ref a_this), (1, .int x1), (2, .int x2), (3, .int x3), (4, .int x4), (5, .int x5), (6, .int x6)] [] [(a_this, .inr (10, [.ref a_tape, .ref a_reader, .ref a_table, .ref a_way, .ref a_images, .ref a_sheets, .ref a_flaws, .ref a_sixthOf, .ref a_drawing, .ref a_naming, .int g_lastFault, .int g_lastTear])), (a_table, .inr (8, [.int g_table_places, .ref a_table_squares])), (a_table_squares, .inl ((zG Z).2.1 1, 49, .inl g_table_squares))] (X10_ends_L33 g_table_places g_table_squares k132 n x1 x2 x3 x4 x5 x6) := by
    intro k132 hk132 n
    induction n with
    | zero => intros; exact rn_none
    | succ n ih => exact hB33 _ _ ih hk132
  unfold X10_ends
  refine rn_aload_n hX dX10_ends_0 0 rfl 1 rfl ?_
  refine rn_get hX inX10 0 rfl rfl 2 (by decide) fl28 rfl rfl dX10_ends_1 4 rfl ?_
  refine rn_iload_n hX dX10_ends_4 1 rfl 5 rfl ?_
  refine rn_iload_n hX dX10_ends_5 2 rfl 6 rfl ?_
  refine rn_callV0 hX gX10_ends_X8_areTwo rfl hdV_X8_areTwo rfl rfl ⟨Nat.le_of_ble_eq_true rfl, Nat.le_of_ble_eq_true rfl⟩ (c_X8_areTwo (zl Z) (zG Z) a_table a_table_squares g_table_places x1 x2 rfl) rfl [1] rfl rfl (ci := 8) rfl rfl rfl (Nat.le_of_ble_eq_true rfl) dX10_ends_6 9 rfl (S' := [.int (X8_areTwo x1 x2 g_table_places)]) rfl ⟨Nat.zero_le _, Nat.zero_le _⟩ ?_
  refine rn_if_eq hX dX10_ends_9 21 (by decide) 12 rfl ?_ ?_
  · refine rn_iconst hX dX10_ends_21 22 rfl ic_m1 ?_
    exact rn_iret hX hr (by rw [henc]; rfl) dX10_ends_22
  refine rn_iload_n hX dX10_ends_12 3 rfl 13 rfl ?_
  refine rn_if_lt hX dX10_ends_13 21 (by decide) 16 rfl ?_ ?_
  · refine rn_iconst hX dX10_ends_21 22 rfl ic_m1 ?_
    exact rn_iret hX hr (by rw [henc]; rfl) dX10_ends_22
  refine rn_iload_n hX dX10_ends_16 3 rfl 17 rfl ?_
  refine rn_iconst hX dX10_ends_17 18 rfl ic_1 ?_
  refine rn_icmp_le hX dX10_ends_18 23 (by decide) 21 rfl ?_ ?_
  · refine rn_iconst hX dX10_ends_23 24 rfl ic_0 ?_
    refine rn_istore hX dX10_ends_24 (by decide) (L' := [(4, .int (0 : Int32)), (0, .ref a_this), (1, .int x1), (2, .int x2), (3, .int x3)]) rfl 26 rfl ?_
    refine rn_ldc hX kl244 dX10_ends_26 28 rfl ?_
    refine rn_istore hX dX10_ends_28 (by decide) (L' := [(5, .int (99999 : Int32)), (4, .int (0 : Int32)), (0, .ref a_this), (1, .int x1), (2, .int x2), (3, .int x3)]) rfl 30 rfl ?_
    refine rn_iconst hX dX10_ends_30 31 rfl ic_0 ?_
    refine rn_istore hX dX10_ends_31 (by decide) (L' := [(6, .int (0 : Int32)), (5, .int (99999 : Int32)), (4, .int (0 : Int32)), (0, .ref a_this), (1, .int x1), (2, .int x2), (3, .int x3)]) rfl 33 rfl ?_
    refine rn_sub [3, 4, 5, 6, 2, 1, 0] rfl ?_
    exact (hL33 _ hJ132 1000) x1 x2 x3 (0 : Int32) (99999 : Int32) (0 : Int32)
  refine rn_iconst hX dX10_ends_21 22 rfl ic_m1 ?_
  exact rn_iret hX hr (by rw [henc]; rfl) dX10_ends_22
abbrev rmX10_drawings : Room := { frames := 5, cells := 0, slots := 0, locals := 127 }
theorem hdV_X10_drawings : yX10_drawings.cls = RX10 ∧ yX10_drawings.cls ≠ "java/lang/invoke/MethodHandle" ∧ yX10_drawings.cls ≠ "java/lang/invoke/VarHandle" ∧ (parseMethodDescriptor yX10_drawings.desc).map (fun d => d.parameters.length) = some 3 := by decide +kernel
set_option maxHeartbeats 4000000 in
set_option maxRecDepth 100000 in
theorem c_X10_drawings (l : Launch) (G : GT) (a_this a_drawing a_drawing_bonds a_drawing_sides a_drawing_sixthOf a_table a_table_squares a_tape a_reader a_way a_images a_sheets a_flaws a_sixthOf a_naming : Nat) (g_lastFault : Int32) (g_lastTear : Int32) (g_drawing_laid : Int32) (g_drawing_groups : Int32) (g_drawing_stands : Int32) (g_drawing_offLine : Int32) (g_drawing_bonds : (Nat → Int32)) (g_drawing_sides : (Nat → Int32)) (g_drawing_sixthOf_middle : Int64) (g_drawing_sixthOf_spread : Int64) (g_drawing_sixthOf_divisor : Int64) (g_table_places : Int32) (g_table_squares : (Nat → Int32)) (x1 : Int32) (x2 : Int32) (x3 : Int32) {u : Int32 × Int32 × Int32 × Int32 × Int32 × (Nat → Int32) × (Nat → Int32) × Int64 × Int64 × Int64} (hu : X10_drawings x1 x2 x3 g_drawing_groups g_drawing_laid g_drawing_offLine g_drawing_stands g_drawing_bonds g_drawing_sides g_drawing_sixthOf_divisor g_drawing_sixthOf_middle g_drawing_sixthOf_spread g_table_places g_table_squares = some u) : Ctr l G yX10_drawings wsX10_drawings rmX10_drawings [.ref a_this, .int x1, .int x2, .int x3] [(a_this, .inr (10, [.ref a_tape, .ref a_reader, .ref a_table, .ref a_way, .ref a_images, .ref a_sheets, .ref a_flaws, .ref a_sixthOf, .ref a_drawing, .ref a_naming, .int g_lastFault, .int g_lastTear])), (a_drawing, .inr (0, [.int g_drawing_laid, .int g_drawing_groups, .int g_drawing_stands, .ref a_table, .ref a_drawing_sixthOf, .ref a_drawing_sides, .ref a_drawing_bonds, .int g_drawing_offLine])), (a_drawing_bonds, .inl (G.2.1 1, 49, .inl g_drawing_bonds)), (a_drawing_sides, .inl (G.2.1 1, 7, .inl g_drawing_sides)), (a_drawing_sixthOf, .inr (7, [.long g_drawing_sixthOf_middle, .long g_drawing_sixthOf_spread, .long g_drawing_sixthOf_divisor])), (a_table, .inr (8, [.int g_table_places, .ref a_table_squares])), (a_table_squares, .inl (G.2.1 1, 49, .inl g_table_squares))] (some (.int u.1)) [(a_this, .inr (10, [.ref a_tape, .ref a_reader, .ref a_table, .ref a_way, .ref a_images, .ref a_sheets, .ref a_flaws, .ref a_sixthOf, .ref a_drawing, .ref a_naming, .int g_lastFault, .int g_lastTear])), (a_drawing, .inr (0, [.int u.2.2.1, .int u.2.1, .int u.2.2.2.2.1, .ref a_table, .ref a_drawing_sixthOf, .ref a_drawing_sides, .ref a_drawing_bonds, .int u.2.2.2.1])), (a_drawing_bonds, .inl (G.2.1 1, 49, .inl u.2.2.2.2.2.1)), (a_drawing_sides, .inl (G.2.1 1, 7, .inl u.2.2.2.2.2.2.1)), (a_drawing_sixthOf, .inr (7, [.long u.2.2.2.2.2.2.2.2.1, .long u.2.2.2.2.2.2.2.2.2, .long u.2.2.2.2.2.2.2.1])), (a_table, .inr (8, [.int g_table_places, .ref a_table_squares])), (a_table_squares, .inl (G.2.1 1, 49, .inl g_table_squares))] := by
  obtain ⟨enc, henc⟩ : ∃ enc : (Int32 × Int32 × Int32 × Int32 × Int32 × (Nat → Int32) × (Nat → Int32) × Int64 × Int64 × Int64) → Option Value × va_W, enc = fun u => (((some (.int u.1)) : Option Value), ([(a_this, .inr (10, [.ref a_tape, .ref a_reader, .ref a_table, .ref a_way, .ref a_images, .ref a_sheets, .ref a_flaws, .ref a_sixthOf, .ref a_drawing, .ref a_naming, .int g_lastFault, .int g_lastTear])), (a_drawing, .inr (0, [.int u.2.2.1, .int u.2.1, .int u.2.2.2.2.1, .ref a_table, .ref a_drawing_sixthOf, .ref a_drawing_sides, .ref a_drawing_bonds, .int u.2.2.2.1])), (a_drawing_bonds, .inl (G.2.1 1, 49, .inl u.2.2.2.2.2.1)), (a_drawing_sides, .inl (G.2.1 1, 7, .inl u.2.2.2.2.2.2.1)), (a_drawing_sixthOf, .inr (7, [.long u.2.2.2.2.2.2.2.2.1, .long u.2.2.2.2.2.2.2.2.2, .long u.2.2.2.2.2.2.2.1])), (a_table, .inr (8, [.int g_table_places, .ref a_table_squares])), (a_table_squares, .inl (G.2.1 1, 49, .inl g_table_squares))] : va_W)) := ⟨_, rfl⟩
  refine ctr_of (cc := cX10_drawings) (own := RX10) (E := Option.map enc) (o := X10_drawings x1 x2 x3 g_drawing_groups g_drawing_laid g_drawing_offLine g_drawing_stands g_drawing_bonds g_drawing_sides g_drawing_sixthOf_divisor g_drawing_sixthOf_middle g_drawing_sixthOf_spread g_table_places g_table_squares) (by decide) rfl rfl (L := [(0, .ref a_this), (1, .int x1), (2, .int x2), (3, .int x3)]) rfl (Nat.le_of_ble_eq_true rfl) (by rw [hu, henc]; rfl) ?_
  intro Z hX hl hG hr
  subst hl; subst hG
  have fl269 : (Cond.fieldLink RX10 269 "OnlyFar$Drawing" "laid" "I").before (za Z) (zs Z) = true := hX.wd (List.mem_of_getElem? (i := 3) rfl)
  have fl272 : (Cond.fieldLink RX10 272 "OnlyFar$Drawing" "groups" "I").before (za Z) (zs Z) = true := hX.wd (List.mem_of_getElem? (i := 4) rfl)
  have fl275 : (Cond.fieldLink RX10 275 "OnlyFar$Drawing" "stands" "Z").before (za Z) (zs Z) = true := hX.wd (List.mem_of_getElem? (i := 5) rfl)
  have fl28 : (Cond.fieldLink RX10 28 "OnlyFar" "table" "LOnlyFar$Table;").before (za Z) (zs Z) = true := hX.wd (List.mem_of_getElem? (i := 1) rfl)
  have fl72 : (Cond.fieldLink RX10 72 "OnlyFar" "drawing" "LOnlyFar$Drawing;").before (za Z) (zs Z) = true := hX.wd (List.mem_of_getElem? (i := 2) rfl)
  have mathmaxS : (Cond.static Lib.Math.max.name).before (za Z) (zs Z) = true := hX.wd (List.mem_of_getElem? (i := 7) rfl)
  have mathmaxI : (Cond.initialized "java/lang/Math").before (za Z) (zs Z) = true := hX.wd (List.mem_of_getElem? (i := 8) rfl)
  have mathmaxC : (Cond.code Lib.Math.max.name Lib.Math.max.code 2 (some .int)).before (za Z) (zs Z) = true := hX.wd (List.mem_of_getElem? (i := 9) rfl)
  have ml252 : (Cond.methodLink RX10 252 Lib.Math.max.name).before (za Z) (zs Z) = true := hX.wd (List.mem_of_getElem? (i := 6) rfl)
  have inX0 : ∀ w ∈ u_ws RX0 TX0 8, w ∈ wsX10_drawings := fun _ h => List.mem_cons_of_mem _ (List.mem_append_left _ (List.mem_append_left _ ((List.mem_append_right _ h))))
  have inX10 : ∀ w ∈ u_ws RX10 TX10 12, w ∈ wsX10_drawings := fun _ h => List.mem_cons_of_mem _ (List.mem_append_left _ (List.mem_append_left _ (List.mem_append_left _ ((List.mem_append_right _ h)))))
  have hJ41 : ∀ (x1 : Int32) (x2 : Int32) (x3 : Int32) (g_drawing_groups : Int32) (g_drawing_laid : Int32) (g_drawing_offLine : Int32) (g_drawing_stands : Int32) (g_drawing_bonds : (Nat → Int32)) (g_drawing_sides : (Nat → Int32)) (g_drawing_sixthOf_divisor : Int64) (g_drawing_sixthOf_middle : Int64) (g_drawing_sixthOf_spread : Int64), Rn Z 5 (Option.map enc) 0 0 41 [(0, .ref a_this), (1, .int x1), (2, .int x2), (3, .int x3)] [] [(a_this, .inr (10, [.ref a_tape, .ref a_reader, .ref a_table, .ref a_way, .ref a_images, .ref a_sheets, .ref a_flaws, .ref a_sixthOf, .ref a_drawing, .ref a_naming, .int g_lastFault, .int g_lastTear])), (a_drawing, .inr (0, [.int g_drawing_laid, .int g_drawing_groups, .int g_drawing_stands, .ref a_table, .ref a_drawing_sixthOf, .ref a_drawing_sides, .ref a_drawing_bonds, .int g_drawing_offLine])), (a_drawing_bonds, .inl ((zG Z).2.1 1, 49, .inl g_drawing_bonds)), (a_drawing_sides, .inl ((zG Z).2.1 1, 7, .inl g_drawing_sides)), (a_drawing_sixthOf, .inr (7, [.long g_drawing_sixthOf_middle, .long g_drawing_sixthOf_spread, .long g_drawing_sixthOf_divisor])), (a_table, .inr (8, [.int g_table_places, .ref a_table_squares])), (a_table_squares, .inl ((zG Z).2.1 1, 49, .inl g_table_squares))] (X10_drawings_J41 g_table_places g_table_squares x1 x2 x3 g_drawing_groups g_drawing_laid g_drawing_offLine g_drawing_stands g_drawing_bonds g_drawing_sides g_drawing_sixthOf_divisor g_drawing_sixthOf_middle g_drawing_sixthOf_spread) := by
    intro x1 x2 x3 g_drawing_groups g_drawing_laid g_drawing_offLine g_drawing_stands g_drawing_bonds g_drawing_sides g_drawing_sixthOf_divisor g_drawing_sixthOf_middle g_drawing_sixthOf_spread
    unfold X10_drawings_J41
    refine rn_aload_n hX dX10_drawings_41 0 rfl 42 rfl ?_
    refine rn_get hX inX10 0 rfl rfl 2 (by decide) fl28 rfl rfl dX10_drawings_42 45 rfl ?_
    refine rn_iload_n hX dX10_drawings_45 1 rfl 46 rfl ?_
    refine rn_iload_n hX dX10_drawings_46 2 rfl 47 rfl ?_
    refine rn_bind (fun u1 hu1 => ?_)
    refine rn_callV0 hX gX10_drawings_X8_square rfl hdV_X8_square rfl rfl ⟨Nat.le_of_ble_eq_true rfl, Nat.le_of_ble_eq_true rfl⟩ (c_X8_square (zl Z) (zG Z) a_table a_table_squares g_table_places g_table_squares x1 x2 hu1) rfl [5, 6] rfl rfl (ci := 8) rfl rfl rfl (Nat.le_of_ble_eq_true rfl) dX10_drawings_47 50 rfl (S' := [.int u1]) rfl ⟨Nat.zero_le _, Nat.zero_le _⟩ ?_
    refine rn_if_ne hX dX10_drawings_50 56 (by decide) 53 rfl ?_ ?_
    · refine rn_aload_n hX dX10_drawings_56 0 rfl 57 rfl ?_
      refine rn_get hX inX10 0 rfl rfl 8 (by decide) fl72 rfl rfl dX10_drawings_57 60 rfl ?_
      refine rn_iload_n hX dX10_drawings_60 1 rfl 61 rfl ?_
      refine rn_iload_n hX dX10_drawings_61 2 rfl 62 rfl ?_
      refine rn_iconst hX dX10_drawings_62 63 rfl ic_m1 ?_
      refine rn_bind (fun u2 hu2 => ?_)
      refine rn_callV hX gX10_drawings_X0_draw rfl hdV_X0_draw rfl rfl ⟨Nat.le_of_ble_eq_true rfl, Nat.le_of_ble_eq_true rfl⟩ (c_X0_draw (zl Z) (zG Z) a_drawing a_drawing_bonds a_drawing_sides a_drawing_sixthOf a_table a_table_squares g_drawing_laid g_drawing_groups g_drawing_stands g_drawing_offLine g_drawing_bonds g_drawing_sides g_drawing_sixthOf_middle g_drawing_sixthOf_spread g_drawing_sixthOf_divisor g_table_places g_table_squares x1 x2 (-1 : Int32) hu2) rfl [1, 2, 3, 4, 5, 6] rfl rfl rfl (ci := 0) rfl rfl rfl (Nat.le_of_ble_eq_true rfl) dX10_drawings_63 66 rfl (wn := [(a_this, .inr (10, [.ref a_tape, .ref a_reader, .ref a_table, .ref a_way, .ref a_images, .ref a_sheets, .ref a_flaws, .ref a_sixthOf, .ref a_drawing, .ref a_naming, .int g_lastFault, .int g_lastTear])), (a_drawing, .inr (0, [.int u2.2.1, .int u2.1, .int u2.2.2.2.1, .ref a_table, .ref a_drawing_sixthOf, .ref a_drawing_sides, .ref a_drawing_bonds, .int u2.2.2.1])), (a_drawing_bonds, .inl ((zG Z).2.1 1, 49, .inl u2.2.2.2.2.1)), (a_drawing_sides, .inl ((zG Z).2.1 1, 7, .inl u2.2.2.2.2.2.1)), (a_drawing_sixthOf, .inr (7, [.long u2.2.2.2.2.2.2.2.1, .long u2.2.2.2.2.2.2.2.2, .long u2.2.2.2.2.2.2.1])), (a_table, .inr (8, [.int g_table_places, .ref a_table_squares])), (a_table_squares, .inl ((zG Z).2.1 1, 49, .inl g_table_squares))]) rfl (S' := []) rfl ⟨Nat.zero_le _, Nat.zero_le _⟩ ?_
      refine rn_iload_n hX dX10_drawings_66 3 rfl 67 rfl ?_
      by_cases hs3 : x3 = (0 : Int32)
      · rw [if_pos hs3]
        refine rn_tableIn hX dX10_drawings_67 hs3 (by decide) (by decide) rfl 96 (by decide) ?_
        refine rn_aload_n hX dX10_drawings_96 0 rfl 97 rfl ?_
        refine rn_get hX inX10 0 rfl rfl 8 (by decide) fl72 rfl rfl dX10_drawings_97 100 rfl ?_
        refine rn_callV0 hX gX10_drawings_X0_ways rfl hdV_X0_ways rfl rfl ⟨Nat.le_of_ble_eq_true rfl, Nat.le_of_ble_eq_true rfl⟩ (c_X0_ways (zl Z) (zG Z) a_drawing a_table a_drawing_sixthOf a_drawing_sides a_drawing_bonds u2.2.1 u2.1 u2.2.2.2.1 u2.2.2.1 rfl) rfl [1] rfl rfl (ci := 0) rfl rfl rfl (Nat.le_of_ble_eq_true rfl) dX10_drawings_100 103 rfl (S' := [.int (X0_ways u2.1 u2.2.2.2.1)]) rfl ⟨Nat.zero_le _, Nat.zero_le _⟩ ?_
        exact rn_iret hX hr (by rw [henc]; rfl) dX10_drawings_103
      rw [if_neg hs3]
      by_cases hs4 : x3 = (1 : Int32)
      · rw [if_pos hs4]
        refine rn_tableIn hX dX10_drawings_67 hs4 (by decide) (by decide) rfl 104 (by decide) ?_
        refine rn_aload_n hX dX10_drawings_104 0 rfl 105 rfl ?_
        refine rn_get hX inX10 0 rfl rfl 8 (by decide) fl72 rfl rfl dX10_drawings_105 108 rfl ?_
        refine rn_get hX inX0 1 rfl rfl 0 (by decide) fl269 rfl rfl dX10_drawings_108 111 rfl ?_
        exact rn_iret hX hr (by rw [henc]; rfl) dX10_drawings_111
      rw [if_neg hs4]
      by_cases hs5 : x3 = (2 : Int32)
      · rw [if_pos hs5]
        refine rn_tableIn hX dX10_drawings_67 hs5 (by decide) (by decide) rfl 112 (by decide) ?_
        refine rn_aload_n hX dX10_drawings_112 0 rfl 113 rfl ?_
        refine rn_get hX inX10 0 rfl rfl 8 (by decide) fl72 rfl rfl dX10_drawings_113 116 rfl ?_
        refine rn_get hX inX0 1 rfl rfl 1 (by decide) fl272 rfl rfl dX10_drawings_116 119 rfl ?_
        exact rn_iret hX hr (by rw [henc]; rfl) dX10_drawings_119
      rw [if_neg hs5]
      by_cases hs6 : x3 = (3 : Int32)
      · rw [if_pos hs6]
        refine rn_tableIn hX dX10_drawings_67 hs6 (by decide) (by decide) rfl 120 (by decide) ?_
        refine rn_aload_n hX dX10_drawings_120 0 rfl 121 rfl ?_
        refine rn_get hX inX10 0 rfl rfl 8 (by decide) fl72 rfl rfl dX10_drawings_121 124 rfl ?_
        refine rn_get hX inX0 1 rfl rfl 2 (by decide) fl275 rfl rfl dX10_drawings_124 127 rfl ?_
        refine rn_if_eq hX dX10_drawings_127 146 (by decide) 130 rfl ?_ ?_
        · refine rn_bipush hX dX10_drawings_146 148 rfl bp_m4 ?_
          exact rn_iret hX hr (by rw [henc]; rfl) dX10_drawings_148
        refine rn_iconst hX dX10_drawings_130 131 rfl ic_0 ?_
        refine rn_aload_n hX dX10_drawings_131 0 rfl 132 rfl ?_
        refine rn_get hX inX10 0 rfl rfl 8 (by decide) fl72 rfl rfl dX10_drawings_132 135 rfl ?_
        refine rn_get hX inX0 1 rfl rfl 1 (by decide) fl272 rfl rfl dX10_drawings_135 138 rfl ?_
        refine rn_iconst hX dX10_drawings_138 139 rfl ic_1 ?_
        refine rn_isub hX dX10_drawings_139 140 rfl ?_
        refine rn_mmax hX ml252 mathmaxS mathmaxI mathmaxC (Nat.le_of_ble_eq_true rfl) (Nat.le_of_ble_eq_true rfl) ⟨Nat.zero_le _, Nat.zero_le _⟩ dX10_drawings_140 143 rfl ?_
        refine rn_goto hX dX10_drawings_143 148 (by decide) ?_
        exact rn_iret hX hr (by rw [henc]; rfl) dX10_drawings_148
      rw [if_neg hs6]
      refine rn_tableOut hX dX10_drawings_67 (by have qhs3 := ne_int hs3; rw [show (0 : Int32).toInt = 0 from by decide] at qhs3; have qhs4 := ne_int hs4; rw [show (1 : Int32).toInt = 1 from by decide] at qhs4; have qhs5 := ne_int hs5; rw [show (2 : Int32).toInt = 2 from by decide] at qhs5; have qhs6 := ne_int hs6; rw [show (3 : Int32).toInt = 3 from by decide] at qhs6; have := qhs3; omega) 149 (by decide) ?_
      refine rn_aload_n hX dX10_drawings_149 0 rfl 150 rfl ?_
      refine rn_get hX inX10 0 rfl rfl 8 (by decide) fl72 rfl rfl dX10_drawings_150 153 rfl ?_
      refine rn_get hX inX0 1 rfl rfl 2 (by decide) fl275 rfl rfl dX10_drawings_153 156 rfl ?_
      refine rn_if_eq hX dX10_drawings_156 187 (by decide) 159 rfl ?_ ?_
      · refine rn_bipush hX dX10_drawings_187 189 rfl bp_m4 ?_
        exact rn_iret hX hr (by rw [henc]; rfl) dX10_drawings_189
      refine rn_aload_n hX dX10_drawings_159 0 rfl 160 rfl ?_
      refine rn_get hX inX10 0 rfl rfl 8 (by decide) fl72 rfl rfl dX10_drawings_160 163 rfl ?_
      refine rn_iload_n hX dX10_drawings_163 3 rfl 164 rfl ?_
      refine rn_bipush hX dX10_drawings_164 166 rfl bp_10 ?_
      refine rn_isub hX dX10_drawings_166 167 rfl ?_
      refine rn_bind (fun u7 hu7 => ?_)
      refine rn_callV0 hX gX10_drawings_X0_isLaid rfl hdV_X0_isLaid rfl rfl ⟨Nat.le_of_ble_eq_true rfl, Nat.le_of_ble_eq_true rfl⟩ (c_X0_isLaid (zl Z) (zG Z) a_drawing a_table a_drawing_sixthOf a_drawing_sides a_drawing_bonds u2.2.1 u2.1 u2.2.2.2.1 u2.2.2.1 (x3 - (10 : Int32)) hu7) rfl [1] rfl rfl (ci := 0) rfl rfl rfl (Nat.le_of_ble_eq_true rfl) dX10_drawings_167 170 rfl (S' := [.int u7]) rfl ⟨Nat.zero_le _, Nat.zero_le _⟩ ?_
      refine rn_if_eq hX dX10_drawings_170 187 (by decide) 173 rfl ?_ ?_
      · refine rn_bipush hX dX10_drawings_187 189 rfl bp_m4 ?_
        exact rn_iret hX hr (by rw [henc]; rfl) dX10_drawings_189
      refine rn_aload_n hX dX10_drawings_173 0 rfl 174 rfl ?_
      refine rn_get hX inX10 0 rfl rfl 8 (by decide) fl72 rfl rfl dX10_drawings_174 177 rfl ?_
      refine rn_iload_n hX dX10_drawings_177 3 rfl 178 rfl ?_
      refine rn_bipush hX dX10_drawings_178 180 rfl bp_10 ?_
      refine rn_isub hX dX10_drawings_180 181 rfl ?_
      refine rn_bind (fun u8 hu8 => ?_)
      refine rn_callV0 hX gX10_drawings_X0_sideOf rfl hdV_X0_sideOf rfl rfl ⟨Nat.le_of_ble_eq_true rfl, Nat.le_of_ble_eq_true rfl⟩ (c_X0_sideOf (zl Z) (zG Z) a_drawing a_drawing_sides a_table a_drawing_sixthOf a_drawing_bonds u2.2.1 u2.1 u2.2.2.2.1 u2.2.2.1 u2.2.2.2.2.2.1 (x3 - (10 : Int32)) hu8) rfl [1, 3] rfl rfl (ci := 0) rfl rfl rfl (Nat.le_of_ble_eq_true rfl) dX10_drawings_181 184 rfl (S' := [.int u8]) rfl ⟨Nat.zero_le _, Nat.zero_le _⟩ ?_
      refine rn_goto hX dX10_drawings_184 189 (by decide) ?_
      exact rn_iret hX hr (by rw [henc]; rfl) dX10_drawings_189
    refine rn_bipush hX dX10_drawings_53 55 rfl bp_m2 ?_
    exact rn_iret hX hr (by rw [henc]; rfl) dX10_drawings_55
  unfold X10_drawings
  refine rn_aload_n hX dX10_drawings_0 0 rfl 1 rfl ?_
  refine rn_get hX inX10 0 rfl rfl 2 (by decide) fl28 rfl rfl dX10_drawings_1 4 rfl ?_
  refine rn_iload_n hX dX10_drawings_4 3 rfl 5 rfl ?_
  refine rn_bipush hX dX10_drawings_5 7 rfl bp_10 ?_
  refine rn_isub hX dX10_drawings_7 8 rfl ?_
  refine rn_callV0 hX gX10_drawings_X8_isPlace rfl hdV_X8_isPlace rfl rfl ⟨Nat.le_of_ble_eq_true rfl, Nat.le_of_ble_eq_true rfl⟩ (c_X8_isPlace (zl Z) (zG Z) a_table a_table_squares g_table_places (x3 - (10 : Int32)) rfl) rfl [5] rfl rfl (ci := 8) rfl rfl rfl (Nat.le_of_ble_eq_true rfl) dX10_drawings_8 11 rfl (S' := [.int (X8_isPlace (x3 - (10 : Int32)) g_table_places)]) rfl ⟨Nat.zero_le _, Nat.zero_le _⟩ ?_
  refine rn_lati (fun v9 => ?_)
  refine rn_istore hX dX10_drawings_11 (by decide) (L' := [(4, .int v9), (0, .ref a_this), (1, .int x1), (2, .int x2), (3, .int x3)]) rfl 13 rfl ?_
  refine rn_aload_n hX dX10_drawings_13 1 rfl 14 rfl ?_
  refine rn_get hX inX10 0 rfl rfl 2 (by decide) fl28 rfl rfl dX10_drawings_14 17 rfl ?_
  refine rn_iload_n hX dX10_drawings_17 2 rfl 18 rfl ?_
  refine rn_iload_n hX dX10_drawings_18 3 rfl 19 rfl ?_
  refine rn_callV0 hX gX10_drawings_X8_areTwo rfl hdV_X8_areTwo rfl rfl ⟨Nat.le_of_ble_eq_true rfl, Nat.le_of_ble_eq_true rfl⟩ (c_X8_areTwo (zl Z) (zG Z) a_table a_table_squares g_table_places x1 x2 rfl) rfl [5] rfl rfl (ci := 8) rfl rfl rfl (Nat.le_of_ble_eq_true rfl) dX10_drawings_19 22 rfl (S' := [.int (X8_areTwo x1 x2 g_table_places)]) rfl ⟨Nat.zero_le _, Nat.zero_le _⟩ ?_
  refine rn_if_eq hX dX10_drawings_22 39 (by decide) 25 rfl ?_ ?_
  · refine rn_iconst hX dX10_drawings_39 40 rfl ic_m1 ?_
    exact rn_iret hX hr (by rw [henc]; rfl) dX10_drawings_40
  refine rn_iload hX dX10_drawings_25 0 rfl 27 rfl ?_
  refine rn_if_ne hX dX10_drawings_27 41 (by decide) 30 rfl ?_ ?_
  · refine rn_sub [1, 2, 3, 4] rfl ?_
    exact hJ41 x1 x2 x3 g_drawing_groups g_drawing_laid g_drawing_offLine g_drawing_stands g_drawing_bonds g_drawing_sides g_drawing_sixthOf_divisor g_drawing_sixthOf_middle g_drawing_sixthOf_spread
  refine rn_iload_n hX dX10_drawings_30 4 rfl 31 rfl ?_
  refine rn_if_lt hX dX10_drawings_31 39 (by decide) 34 rfl ?_ ?_
  · refine rn_iconst hX dX10_drawings_39 40 rfl ic_m1 ?_
    exact rn_iret hX hr (by rw [henc]; rfl) dX10_drawings_40
  refine rn_iload_n hX dX10_drawings_34 4 rfl 35 rfl ?_
  refine rn_iconst hX dX10_drawings_35 36 rfl ic_3 ?_
  refine rn_icmp_le hX dX10_drawings_36 41 (by decide) 39 rfl ?_ ?_
  · refine rn_sub [1, 2, 3, 4] rfl ?_
    exact hJ41 x1 x2 x3 g_drawing_groups g_drawing_laid g_drawing_offLine g_drawing_stands g_drawing_bonds g_drawing_sides g_drawing_sixthOf_divisor g_drawing_sixthOf_middle g_drawing_sixthOf_spread
  refine rn_iconst hX dX10_drawings_39 40 rfl ic_m1 ?_
  exact rn_iret hX hr (by rw [henc]; rfl) dX10_drawings_40
abbrev rmX10_spare : Room := { frames := 5, cells := 0, slots := 0, locals := 127 }
theorem hdV_X10_spare : yX10_spare.cls = RX10 ∧ yX10_spare.cls ≠ "java/lang/invoke/MethodHandle" ∧ yX10_spare.cls ≠ "java/lang/invoke/VarHandle" ∧ (parseMethodDescriptor yX10_spare.desc).map (fun d => d.parameters.length) = some 4 := by decide +kernel
set_option maxHeartbeats 4000000 in
set_option maxRecDepth 100000 in
theorem c_X10_spare (l : Launch) (G : GT) (a_this a_drawing a_drawing_bonds a_drawing_sides a_drawing_sixthOf a_table a_table_squares a_tape a_reader a_way a_images a_sheets a_flaws a_sixthOf a_naming : Nat) (g_lastFault : Int32) (g_lastTear : Int32) (g_drawing_laid : Int32) (g_drawing_groups : Int32) (g_drawing_stands : Int32) (g_drawing_offLine : Int32) (g_drawing_bonds : (Nat → Int32)) (g_drawing_sides : (Nat → Int32)) (g_drawing_sixthOf_middle : Int64) (g_drawing_sixthOf_spread : Int64) (g_drawing_sixthOf_divisor : Int64) (g_table_places : Int32) (g_table_squares : (Nat → Int32)) (x1 : Int32) (x2 : Int32) (x3 : Int32) (x4 : Int32) {u : Int32 × Int32 × Int32 × Int32 × Int32 × (Nat → Int32) × (Nat → Int32) × Int64 × Int64 × Int64} (hu : X10_spare x1 x2 x3 x4 g_drawing_groups g_drawing_laid g_drawing_offLine g_drawing_stands g_drawing_bonds g_drawing_sides g_drawing_sixthOf_divisor g_drawing_sixthOf_middle g_drawing_sixthOf_spread g_table_places g_table_squares = some u) : Ctr l G yX10_spare wsX10_spare rmX10_spare [.ref a_this, .int x1, .int x2, .int x3, .int x4] [(a_this, .inr (10, [.ref a_tape, .ref a_reader, .ref a_table, .ref a_way, .ref a_images, .ref a_sheets, .ref a_flaws, .ref a_sixthOf, .ref a_drawing, .ref a_naming, .int g_lastFault, .int g_lastTear])), (a_drawing, .inr (0, [.int g_drawing_laid, .int g_drawing_groups, .int g_drawing_stands, .ref a_table, .ref a_drawing_sixthOf, .ref a_drawing_sides, .ref a_drawing_bonds, .int g_drawing_offLine])), (a_drawing_bonds, .inl (G.2.1 1, 49, .inl g_drawing_bonds)), (a_drawing_sides, .inl (G.2.1 1, 7, .inl g_drawing_sides)), (a_drawing_sixthOf, .inr (7, [.long g_drawing_sixthOf_middle, .long g_drawing_sixthOf_spread, .long g_drawing_sixthOf_divisor])), (a_table, .inr (8, [.int g_table_places, .ref a_table_squares])), (a_table_squares, .inl (G.2.1 1, 49, .inl g_table_squares))] (some (.int u.1)) [(a_this, .inr (10, [.ref a_tape, .ref a_reader, .ref a_table, .ref a_way, .ref a_images, .ref a_sheets, .ref a_flaws, .ref a_sixthOf, .ref a_drawing, .ref a_naming, .int g_lastFault, .int g_lastTear])), (a_drawing, .inr (0, [.int u.2.2.1, .int u.2.1, .int u.2.2.2.2.1, .ref a_table, .ref a_drawing_sixthOf, .ref a_drawing_sides, .ref a_drawing_bonds, .int u.2.2.2.1])), (a_drawing_bonds, .inl (G.2.1 1, 49, .inl u.2.2.2.2.2.1)), (a_drawing_sides, .inl (G.2.1 1, 7, .inl u.2.2.2.2.2.2.1)), (a_drawing_sixthOf, .inr (7, [.long u.2.2.2.2.2.2.2.2.1, .long u.2.2.2.2.2.2.2.2.2, .long u.2.2.2.2.2.2.2.1])), (a_table, .inr (8, [.int g_table_places, .ref a_table_squares])), (a_table_squares, .inl (G.2.1 1, 49, .inl g_table_squares))] := by
  obtain ⟨enc, henc⟩ : ∃ enc : (Int32 × Int32 × Int32 × Int32 × Int32 × (Nat → Int32) × (Nat → Int32) × Int64 × Int64 × Int64) → Option Value × va_W, enc = fun u => (((some (.int u.1)) : Option Value), ([(a_this, .inr (10, [.ref a_tape, .ref a_reader, .ref a_table, .ref a_way, .ref a_images, .ref a_sheets, .ref a_flaws, .ref a_sixthOf, .ref a_drawing, .ref a_naming, .int g_lastFault, .int g_lastTear])), (a_drawing, .inr (0, [.int u.2.2.1, .int u.2.1, .int u.2.2.2.2.1, .ref a_table, .ref a_drawing_sixthOf, .ref a_drawing_sides, .ref a_drawing_bonds, .int u.2.2.2.1])), (a_drawing_bonds, .inl (G.2.1 1, 49, .inl u.2.2.2.2.2.1)), (a_drawing_sides, .inl (G.2.1 1, 7, .inl u.2.2.2.2.2.2.1)), (a_drawing_sixthOf, .inr (7, [.long u.2.2.2.2.2.2.2.2.1, .long u.2.2.2.2.2.2.2.2.2, .long u.2.2.2.2.2.2.2.1])), (a_table, .inr (8, [.int g_table_places, .ref a_table_squares])), (a_table_squares, .inl (G.2.1 1, 49, .inl g_table_squares))] : va_W)) := ⟨_, rfl⟩
  refine ctr_of (cc := cX10_spare) (own := RX10) (E := Option.map enc) (o := X10_spare x1 x2 x3 x4 g_drawing_groups g_drawing_laid g_drawing_offLine g_drawing_stands g_drawing_bonds g_drawing_sides g_drawing_sixthOf_divisor g_drawing_sixthOf_middle g_drawing_sixthOf_spread g_table_places g_table_squares) (by decide) rfl rfl (L := [(0, .ref a_this), (1, .int x1), (2, .int x2), (3, .int x3), (4, .int x4)]) rfl (Nat.le_of_ble_eq_true rfl) (by rw [hu, henc]; rfl) ?_
  intro Z hX hl hG hr
  subst hl; subst hG
  have fl28 : (Cond.fieldLink RX10 28 "OnlyFar" "table" "LOnlyFar$Table;").before (za Z) (zs Z) = true := hX.wd (List.mem_of_getElem? (i := 1) rfl)
  have fl72 : (Cond.fieldLink RX10 72 "OnlyFar" "drawing" "LOnlyFar$Drawing;").before (za Z) (zs Z) = true := hX.wd (List.mem_of_getElem? (i := 2) rfl)
  have inX10 : ∀ w ∈ u_ws RX10 TX10 12, w ∈ wsX10_spare := fun _ h => List.mem_cons_of_mem _ (List.mem_append_left _ (List.mem_append_left _ (List.mem_append_left _ ((List.mem_append_right _ h)))))
  have hJ132 : ∀ (s0 : Int32) (g_drawing_groups : Int32) (g_drawing_laid : Int32) (g_drawing_offLine : Int32) (g_drawing_stands : Int32) (g_drawing_bonds : (Nat → Int32)) (g_drawing_sides : (Nat → Int32)) (g_drawing_sixthOf_divisor : Int64) (g_drawing_sixthOf_middle : Int64) (g_drawing_sixthOf_spread : Int64), Rn Z 6 (Option.map enc) 0 0 132 [] [.int s0] [(a_this, .inr (10, [.ref a_tape, .ref a_reader, .ref a_table, .ref a_way, .ref a_images, .ref a_sheets, .ref a_flaws, .ref a_sixthOf, .ref a_drawing, .ref a_naming, .int g_lastFault, .int g_lastTear])), (a_drawing, .inr (0, [.int g_drawing_laid, .int g_drawing_groups, .int g_drawing_stands, .ref a_table, .ref a_drawing_sixthOf, .ref a_drawing_sides, .ref a_drawing_bonds, .int g_drawing_offLine])), (a_drawing_bonds, .inl ((zG Z).2.1 1, 49, .inl g_drawing_bonds)), (a_drawing_sides, .inl ((zG Z).2.1 1, 7, .inl g_drawing_sides)), (a_drawing_sixthOf, .inr (7, [.long g_drawing_sixthOf_middle, .long g_drawing_sixthOf_spread, .long g_drawing_sixthOf_divisor])), (a_table, .inr (8, [.int g_table_places, .ref a_table_squares])), (a_table_squares, .inl ((zG Z).2.1 1, 49, .inl g_table_squares))] (X10_spare_J132 s0 g_drawing_groups g_drawing_laid g_drawing_offLine g_drawing_stands g_drawing_bonds g_drawing_sides g_drawing_sixthOf_divisor g_drawing_sixthOf_middle g_drawing_sixthOf_spread) := by
    intro s0 g_drawing_groups g_drawing_laid g_drawing_offLine g_drawing_stands g_drawing_bonds g_drawing_sides g_drawing_sixthOf_divisor g_drawing_sixthOf_middle g_drawing_sixthOf_spread
    unfold X10_spare_J132
    refine rn_callS0 hX gX10_spare_X10_bit rfl hdS_X10_bit rfl rfl ⟨Nat.le_of_ble_eq_true rfl, Nat.le_of_ble_eq_true rfl⟩ (c_X10_bit (zl Z) (zG Z) s0 rfl) rfl [] rfl rfl rfl (Nat.le_of_ble_eq_true rfl) dX10_spare_132 135 rfl (S' := [.int (X10_bit s0)]) rfl ⟨Nat.zero_le _, Nat.zero_le _⟩ ?_
    exact rn_iret hX hr (by rw [henc]; rfl) dX10_spare_135
  unfold X10_spare
  refine rn_aload_n hX dX10_spare_0 0 rfl 1 rfl ?_
  refine rn_get hX inX10 0 rfl rfl 2 (by decide) fl28 rfl rfl dX10_spare_1 4 rfl ?_
  refine rn_iload_n hX dX10_spare_4 1 rfl 5 rfl ?_
  refine rn_iload_n hX dX10_spare_5 2 rfl 6 rfl ?_
  refine rn_callV0 hX gX10_spare_X8_areTwo rfl hdV_X8_areTwo rfl rfl ⟨Nat.le_of_ble_eq_true rfl, Nat.le_of_ble_eq_true rfl⟩ (c_X8_areTwo (zl Z) (zG Z) a_table a_table_squares g_table_places x1 x2 rfl) rfl [5] rfl rfl (ci := 8) rfl rfl rfl (Nat.le_of_ble_eq_true rfl) dX10_spare_6 9 rfl (S' := [.int (X8_areTwo x1 x2 g_table_places)]) rfl ⟨Nat.zero_le _, Nat.zero_le _⟩ ?_
  refine rn_if_eq hX dX10_spare_9 25 (by decide) 12 rfl ?_ ?_
  · refine rn_iconst hX dX10_spare_25 26 rfl ic_m1 ?_
    exact rn_iret hX hr (by rw [henc]; rfl) dX10_spare_26
  refine rn_aload_n hX dX10_spare_12 0 rfl 13 rfl ?_
  refine rn_get hX inX10 0 rfl rfl 2 (by decide) fl28 rfl rfl dX10_spare_13 16 rfl ?_
  refine rn_iload_n hX dX10_spare_16 3 rfl 17 rfl ?_
  refine rn_iload hX dX10_spare_17 4 rfl 19 rfl ?_
  refine rn_callV0 hX gX10_spare_X8_areTwo rfl hdV_X8_areTwo rfl rfl ⟨Nat.le_of_ble_eq_true rfl, Nat.le_of_ble_eq_true rfl⟩ (c_X8_areTwo (zl Z) (zG Z) a_table a_table_squares g_table_places x3 x4 rfl) rfl [5] rfl rfl (ci := 8) rfl rfl rfl (Nat.le_of_ble_eq_true rfl) dX10_spare_19 22 rfl (S' := [.int (X8_areTwo x3 x4 g_table_places)]) rfl ⟨Nat.zero_le _, Nat.zero_le _⟩ ?_
  refine rn_if_ne hX dX10_spare_22 27 (by decide) 25 rfl ?_ ?_
  · refine rn_aload_n hX dX10_spare_27 0 rfl 28 rfl ?_
    refine rn_get hX inX10 0 rfl rfl 2 (by decide) fl28 rfl rfl dX10_spare_28 31 rfl ?_
    refine rn_iload_n hX dX10_spare_31 1 rfl 32 rfl ?_
    refine rn_iload_n hX dX10_spare_32 2 rfl 33 rfl ?_
    refine rn_bind (fun u1 hu1 => ?_)
    refine rn_callV0 hX gX10_spare_X8_square rfl hdV_X8_square rfl rfl ⟨Nat.le_of_ble_eq_true rfl, Nat.le_of_ble_eq_true rfl⟩ (c_X8_square (zl Z) (zG Z) a_table a_table_squares g_table_places g_table_squares x1 x2 hu1) rfl [5, 6] rfl rfl (ci := 8) rfl rfl rfl (Nat.le_of_ble_eq_true rfl) dX10_spare_33 36 rfl (S' := [.int u1]) rfl ⟨Nat.zero_le _, Nat.zero_le _⟩ ?_
    refine rn_if_ne hX dX10_spare_36 42 (by decide) 39 rfl ?_ ?_
    · refine rn_aload_n hX dX10_spare_42 0 rfl 43 rfl ?_
      refine rn_get hX inX10 0 rfl rfl 8 (by decide) fl72 rfl rfl dX10_spare_43 46 rfl ?_
      refine rn_iload_n hX dX10_spare_46 1 rfl 47 rfl ?_
      refine rn_iload_n hX dX10_spare_47 2 rfl 48 rfl ?_
      refine rn_iconst hX dX10_spare_48 49 rfl ic_m1 ?_
      refine rn_bind (fun u2 hu2 => ?_)
      refine rn_callV hX gX10_spare_X0_draw rfl hdV_X0_draw rfl rfl ⟨Nat.le_of_ble_eq_true rfl, Nat.le_of_ble_eq_true rfl⟩ (c_X0_draw (zl Z) (zG Z) a_drawing a_drawing_bonds a_drawing_sides a_drawing_sixthOf a_table a_table_squares g_drawing_laid g_drawing_groups g_drawing_stands g_drawing_offLine g_drawing_bonds g_drawing_sides g_drawing_sixthOf_middle g_drawing_sixthOf_spread g_drawing_sixthOf_divisor g_table_places g_table_squares x1 x2 (-1 : Int32) hu2) rfl [1, 2, 3, 4, 5, 6] rfl rfl rfl (ci := 0) rfl rfl rfl (Nat.le_of_ble_eq_true rfl) dX10_spare_49 52 rfl (wn := [(a_this, .inr (10, [.ref a_tape, .ref a_reader, .ref a_table, .ref a_way, .ref a_images, .ref a_sheets, .ref a_flaws, .ref a_sixthOf, .ref a_drawing, .ref a_naming, .int g_lastFault, .int g_lastTear])), (a_drawing, .inr (0, [.int u2.2.1, .int u2.1, .int u2.2.2.2.1, .ref a_table, .ref a_drawing_sixthOf, .ref a_drawing_sides, .ref a_drawing_bonds, .int u2.2.2.1])), (a_drawing_bonds, .inl ((zG Z).2.1 1, 49, .inl u2.2.2.2.2.1)), (a_drawing_sides, .inl ((zG Z).2.1 1, 7, .inl u2.2.2.2.2.2.1)), (a_drawing_sixthOf, .inr (7, [.long u2.2.2.2.2.2.2.2.1, .long u2.2.2.2.2.2.2.2.2, .long u2.2.2.2.2.2.2.1])), (a_table, .inr (8, [.int g_table_places, .ref a_table_squares])), (a_table_squares, .inl ((zG Z).2.1 1, 49, .inl g_table_squares))]) rfl (S' := []) rfl ⟨Nat.zero_le _, Nat.zero_le _⟩ ?_
      refine rn_aload_n hX dX10_spare_52 0 rfl 53 rfl ?_
      refine rn_get hX inX10 0 rfl rfl 8 (by decide) fl72 rfl rfl dX10_spare_53 56 rfl ?_
      refine rn_iload_n hX dX10_spare_56 3 rfl 57 rfl ?_
      refine rn_bind (fun u3 hu3 => ?_)
      refine rn_callV0 hX gX10_spare_X0_isLaid rfl hdV_X0_isLaid rfl rfl ⟨Nat.le_of_ble_eq_true rfl, Nat.le_of_ble_eq_true rfl⟩ (c_X0_isLaid (zl Z) (zG Z) a_drawing a_table a_drawing_sixthOf a_drawing_sides a_drawing_bonds u2.2.1 u2.1 u2.2.2.2.1 u2.2.2.1 x3 hu3) rfl [1] rfl rfl (ci := 0) rfl rfl rfl (Nat.le_of_ble_eq_true rfl) dX10_spare_57 60 rfl (S' := [.int u3]) rfl ⟨Nat.zero_le _, Nat.zero_le _⟩ ?_
      refine rn_if_eq hX dX10_spare_60 88 (by decide) 63 rfl ?_ ?_
      · refine rn_bipush hX dX10_spare_88 90 rfl bp_m4 ?_
        exact rn_iret hX hr (by rw [henc]; rfl) dX10_spare_90
      refine rn_aload_n hX dX10_spare_63 0 rfl 64 rfl ?_
      refine rn_get hX inX10 0 rfl rfl 8 (by decide) fl72 rfl rfl dX10_spare_64 67 rfl ?_
      refine rn_iload hX dX10_spare_67 4 rfl 69 rfl ?_
      refine rn_bind (fun u4 hu4 => ?_)
      refine rn_callV0 hX gX10_spare_X0_isLaid rfl hdV_X0_isLaid rfl rfl ⟨Nat.le_of_ble_eq_true rfl, Nat.le_of_ble_eq_true rfl⟩ (c_X0_isLaid (zl Z) (zG Z) a_drawing a_table a_drawing_sixthOf a_drawing_sides a_drawing_bonds u2.2.1 u2.1 u2.2.2.2.1 u2.2.2.1 x4 hu4) rfl [1] rfl rfl (ci := 0) rfl rfl rfl (Nat.le_of_ble_eq_true rfl) dX10_spare_69 72 rfl (S' := [.int u4]) rfl ⟨Nat.zero_le _, Nat.zero_le _⟩ ?_
      refine rn_if_eq hX dX10_spare_72 88 (by decide) 75 rfl ?_ ?_
      · refine rn_bipush hX dX10_spare_88 90 rfl bp_m4 ?_
        exact rn_iret hX hr (by rw [henc]; rfl) dX10_spare_90
      refine rn_aload_n hX dX10_spare_75 0 rfl 76 rfl ?_
      refine rn_get hX inX10 0 rfl rfl 2 (by decide) fl28 rfl rfl dX10_spare_76 79 rfl ?_
      refine rn_iload_n hX dX10_spare_79 3 rfl 80 rfl ?_
      refine rn_iload hX dX10_spare_80 4 rfl 82 rfl ?_
      refine rn_bind (fun u5 hu5 => ?_)
      refine rn_callV0 hX gX10_spare_X8_square rfl hdV_X8_square rfl rfl ⟨Nat.le_of_ble_eq_true rfl, Nat.le_of_ble_eq_true rfl⟩ (c_X8_square (zl Z) (zG Z) a_table a_table_squares g_table_places g_table_squares x3 x4 hu5) rfl [5, 6] rfl rfl (ci := 8) rfl rfl rfl (Nat.le_of_ble_eq_true rfl) dX10_spare_82 85 rfl (S' := [.int u5]) rfl ⟨Nat.zero_le _, Nat.zero_le _⟩ ?_
      refine rn_if_ne hX dX10_spare_85 91 (by decide) 88 rfl ?_ ?_
      · refine rn_aload_n hX dX10_spare_91 0 rfl 92 rfl ?_
        refine rn_get hX inX10 0 rfl rfl 8 (by decide) fl72 rfl rfl dX10_spare_92 95 rfl ?_
        refine rn_callV0 hX gX10_spare_X0_ways rfl hdV_X0_ways rfl rfl ⟨Nat.le_of_ble_eq_true rfl, Nat.le_of_ble_eq_true rfl⟩ (c_X0_ways (zl Z) (zG Z) a_drawing a_table a_drawing_sixthOf a_drawing_sides a_drawing_bonds u2.2.1 u2.1 u2.2.2.2.1 u2.2.2.1 rfl) rfl [1] rfl rfl (ci := 0) rfl rfl rfl (Nat.le_of_ble_eq_true rfl) dX10_spare_95 98 rfl (S' := [.int (X0_ways u2.1 u2.2.2.2.1)]) rfl ⟨Nat.zero_le _, Nat.zero_le _⟩ ?_
        refine rn_lati (fun v6 => ?_)
        refine rn_istore hX dX10_spare_98 (by decide) (L' := [(5, .int v6), (0, .ref a_this), (1, .int x1), (2, .int x2), (3, .int x3), (4, .int x4)]) rfl 100 rfl ?_
        refine rn_aload_n hX dX10_spare_100 1 rfl 101 rfl ?_
        refine rn_get hX inX10 0 rfl rfl 8 (by decide) fl72 rfl rfl dX10_spare_101 104 rfl ?_
        refine rn_iload_n hX dX10_spare_104 2 rfl 105 rfl ?_
        refine rn_iload_n hX dX10_spare_105 3 rfl 106 rfl ?_
        refine rn_iload_n hX dX10_spare_106 4 rfl 107 rfl ?_
        refine rn_iload hX dX10_spare_107 5 rfl 109 rfl ?_
        refine rn_callS0 hX gX10_spare_X10_pairOf rfl hdS_X10_pairOf rfl rfl ⟨Nat.le_of_ble_eq_true rfl, Nat.le_of_ble_eq_true rfl⟩ (c_X10_pairOf (zl Z) (zG Z) x3 x4 rfl) rfl [] rfl rfl rfl (Nat.le_of_ble_eq_true rfl) dX10_spare_109 112 rfl (S' := [.int (X10_pairOf x3 x4), .int x2, .int x1, .ref a_drawing]) rfl ⟨Nat.zero_le _, Nat.zero_le _⟩ ?_
        refine rn_bind (fun u7 hu7 => ?_)
        refine rn_callV hX gX10_spare_X0_draw rfl hdV_X0_draw rfl rfl ⟨Nat.le_of_ble_eq_true rfl, Nat.le_of_ble_eq_true rfl⟩ (c_X0_draw (zl Z) (zG Z) a_drawing a_drawing_bonds a_drawing_sides a_drawing_sixthOf a_table a_table_squares u2.2.1 u2.1 u2.2.2.2.1 u2.2.2.1 u2.2.2.2.2.1 u2.2.2.2.2.2.1 u2.2.2.2.2.2.2.2.1 u2.2.2.2.2.2.2.2.2 u2.2.2.2.2.2.2.1 g_table_places g_table_squares x1 x2 (X10_pairOf x3 x4) hu7) rfl [1, 2, 3, 4, 5, 6] rfl rfl rfl (ci := 0) rfl rfl rfl (Nat.le_of_ble_eq_true rfl) dX10_spare_112 115 rfl (wn := [(a_this, .inr (10, [.ref a_tape, .ref a_reader, .ref a_table, .ref a_way, .ref a_images, .ref a_sheets, .ref a_flaws, .ref a_sixthOf, .ref a_drawing, .ref a_naming, .int g_lastFault, .int g_lastTear])), (a_drawing, .inr (0, [.int u7.2.1, .int u7.1, .int u7.2.2.2.1, .ref a_table, .ref a_drawing_sixthOf, .ref a_drawing_sides, .ref a_drawing_bonds, .int u7.2.2.1])), (a_drawing_bonds, .inl ((zG Z).2.1 1, 49, .inl u7.2.2.2.2.1)), (a_drawing_sides, .inl ((zG Z).2.1 1, 7, .inl u7.2.2.2.2.2.1)), (a_drawing_sixthOf, .inr (7, [.long u7.2.2.2.2.2.2.2.1, .long u7.2.2.2.2.2.2.2.2, .long u7.2.2.2.2.2.2.1])), (a_table, .inr (8, [.int g_table_places, .ref a_table_squares])), (a_table_squares, .inl ((zG Z).2.1 1, 49, .inl g_table_squares))]) rfl (S' := []) rfl ⟨Nat.zero_le _, Nat.zero_le _⟩ ?_
        refine rn_aload_n hX dX10_spare_115 1 rfl 116 rfl ?_
        refine rn_get hX inX10 0 rfl rfl 8 (by decide) fl72 rfl rfl dX10_spare_116 119 rfl ?_
        refine rn_callV0 hX gX10_spare_X0_ways rfl hdV_X0_ways rfl rfl ⟨Nat.le_of_ble_eq_true rfl, Nat.le_of_ble_eq_true rfl⟩ (c_X0_ways (zl Z) (zG Z) a_drawing a_table a_drawing_sixthOf a_drawing_sides a_drawing_bonds u7.2.1 u7.1 u7.2.2.2.1 u7.2.2.1 rfl) rfl [1] rfl rfl (ci := 0) rfl rfl rfl (Nat.le_of_ble_eq_true rfl) dX10_spare_119 122 rfl (S' := [.int (X0_ways u7.1 u7.2.2.2.1)]) rfl ⟨Nat.zero_le _, Nat.zero_le _⟩ ?_
        refine rn_iload hX dX10_spare_122 0 rfl 124 rfl ?_
        refine rn_icmp_ne hX dX10_spare_124 131 (by decide) 127 rfl ?_ ?_
        · refine rn_iconst hX dX10_spare_131 132 rfl ic_0 ?_
          refine rn_sub [] rfl ?_
          exact hJ132 (0 : Int32) u7.1 u7.2.1 u7.2.2.1 u7.2.2.2.1 u7.2.2.2.2.1 u7.2.2.2.2.2.1 u7.2.2.2.2.2.2.1 u7.2.2.2.2.2.2.2.1 u7.2.2.2.2.2.2.2.2
        refine rn_iconst hX dX10_spare_127 128 rfl ic_1 ?_
        refine rn_goto hX dX10_spare_128 132 (by decide) ?_
        refine rn_sub [] rfl ?_
        exact hJ132 (1 : Int32) u7.1 u7.2.1 u7.2.2.1 u7.2.2.2.1 u7.2.2.2.2.1 u7.2.2.2.2.2.1 u7.2.2.2.2.2.2.1 u7.2.2.2.2.2.2.2.1 u7.2.2.2.2.2.2.2.2
      refine rn_bipush hX dX10_spare_88 90 rfl bp_m4 ?_
      exact rn_iret hX hr (by rw [henc]; rfl) dX10_spare_90
    refine rn_bipush hX dX10_spare_39 41 rfl bp_m2 ?_
    exact rn_iret hX hr (by rw [henc]; rfl) dX10_spare_41
  refine rn_iconst hX dX10_spare_25 26 rfl ic_m1 ?_
  exact rn_iret hX hr (by rw [henc]; rfl) dX10_spare_26
