abbrev rmX10_at : Room := { frames := 2, cells := 0, slots := 0, locals := 43 }
theorem hdV_X10_at : yX10_at.cls = RX10 ∧ yX10_at.cls ≠ "java/lang/invoke/MethodHandle" ∧ yX10_at.cls ≠ "java/lang/invoke/VarHandle" ∧ (parseMethodDescriptor yX10_at.desc).map (fun d => d.parameters.length) = some 4 := by decide +kernel
set_option maxHeartbeats 4000000 in
set_option maxRecDepth 100000 in
theorem c_X10_at (l : Launch) (G : GT) (a_this a_table a_table_squares a_tape a_reader a_way a_images a_sheets a_flaws a_sixthOf a_drawing a_naming : Nat) (g_lastFault : Int32) (g_lastTear : Int32) (g_table_places : Int32) (g_table_squares : (Nat → Int32)) (x1 : Int32) (x2 : Int32) (x3 : Int32) (x4 : Int32) {u : Int32} (hu : X10_at x1 x2 x3 x4 g_table_places g_table_squares = some u) : Ctr l G yX10_at wsX10_at rmX10_at [.ref a_this, .int x1, .int x2, .int x3, .int x4] [(a_this, .inr (10, [.ref a_tape, .ref a_reader, .ref a_table, .ref a_way, .ref a_images, .ref a_sheets, .ref a_flaws, .ref a_sixthOf, .ref a_drawing, .ref a_naming, .int g_lastFault, .int g_lastTear])), (a_table, .inr (8, [.int g_table_places, .ref a_table_squares])), (a_table_squares, .inl (G.2.1 1, 49, .inl g_table_squares))] (some (.int u)) [(a_this, .inr (10, [.ref a_tape, .ref a_reader, .ref a_table, .ref a_way, .ref a_images, .ref a_sheets, .ref a_flaws, .ref a_sixthOf, .ref a_drawing, .ref a_naming, .int g_lastFault, .int g_lastTear])), (a_table, .inr (8, [.int g_table_places, .ref a_table_squares])), (a_table_squares, .inl (G.2.1 1, 49, .inl g_table_squares))] := by
  obtain ⟨enc, henc⟩ : ∃ enc : (Int32) → Option Value × va_W, enc = fun u => (((some (.int u)) : Option Value), ([(a_this, .inr (10, [.ref a_tape, .ref a_reader, .ref a_table, .ref a_way, .ref a_images, .ref a_sheets, .ref a_flaws, .ref a_sixthOf, .ref a_drawing, .ref a_naming, .int g_lastFault, .int g_lastTear])), (a_table, .inr (8, [.int g_table_places, .ref a_table_squares])), (a_table_squares, .inl (G.2.1 1, 49, .inl g_table_squares))] : va_W)) := ⟨_, rfl⟩
  refine ctr_of (cc := cX10_at) (own := RX10) (E := Option.map enc) (o := X10_at x1 x2 x3 x4 g_table_places g_table_squares) (by decide) rfl rfl (L := [(0, .ref a_this), (1, .int x1), (2, .int x2), (3, .int x3), (4, .int x4)]) rfl (Nat.le_of_ble_eq_true rfl) (by rw [hu, henc]; rfl) ?_
  intro Z hX hl hG hr
  subst hl; subst hG
  have fl245 : (Cond.fieldLink RX10 245 "OnlyFar$Table" "places" "I").before (za Z) (zs Z) = true := hX.wd (mcC _ wd_133)
  have fl28 : (Cond.fieldLink RX10 28 "OnlyFar" "table" "LOnlyFar$Table;").before (za Z) (zs Z) = true := hX.wd (mcC _ wd_359)
  have inX10 : ∀ w ∈ u_ws RX10 TX10 12, w ∈ wsX10_at := fun w h => mcC w (inC_X10 w h)
  have inX8 : ∀ w ∈ u_ws RX8 TX8 2, w ∈ wsX10_at := fun w h => mcC w (inC_X8 w h)
  have hJ85 : ∀ (again : Int32 → Int32 → Int32 → Int32 → Int32 → Int32 → Option (Int32)) (hagain : ∀ (x1 : Int32) (x2 : Int32) (x3 : Int32) (x4 : Int32) (x5 : Int32) (x6 : Int32), Rn Z 7 (Option.map enc) 0 0 35 [(0, .ref a_this), (1, .int x1), (2, .int x2), (3, .int x3), (4, .int x4), (5, .int x5), (6, .int x6)] [] [(a_this, .inr (10, [.ref a_tape, .ref a_reader, .ref a_table, .ref a_way, .ref a_images, .ref a_sheets, .ref a_flaws, .ref a_sixthOf, .ref a_drawing, .ref a_naming, .int g_lastFault, .int g_lastTear])), (a_table, .inr (8, [.int g_table_places, .ref a_table_squares])), (a_table_squares, .inl ((zG Z).2.1 1, 49, .inl g_table_squares))] (again x1 x2 x3 x4 x5 x6)) (x1 : Int32) (x2 : Int32) (x3 : Int32) (x4 : Int32) (x5 : Int32) (x6 : Int32), Rn Z 7 (Option.map enc) 0 0 85 [(0, .ref a_this), (1, .int x1), (2, .int x2), (3, .int x3), (4, .int x4), (5, .int x5), (6, .int x6)] [] [(a_this, .inr (10, [.ref a_tape, .ref a_reader, .ref a_table, .ref a_way, .ref a_images, .ref a_sheets, .ref a_flaws, .ref a_sixthOf, .ref a_drawing, .ref a_naming, .int g_lastFault, .int g_lastTear])), (a_table, .inr (8, [.int g_table_places, .ref a_table_squares])), (a_table_squares, .inl ((zG Z).2.1 1, 49, .inl g_table_squares))] (X10_at_J85 again x1 x2 x3 x4 x5 x6) := by
    intro again hagain x1 x2 x3 x4 x5 x6
    unfold X10_at_J85
    refine rn_iinc hX dX10_at_85 6 rfl ic_1 (by decide) (L' := fun v1 => [(6, .int v1), (0, .ref a_this), (1, .int x1), (2, .int x2), (3, .int x3), (4, .int x4), (5, .int x5)]) (fun _ => rfl) 88 rfl (fun v1 => ?_)
    refine rn_goto hX dX10_at_88 35 (by decide) ?_
    refine rn_sub [1, 2, 3, 4, 5, 6, 0] rfl ?_
    exact hagain x1 x2 x3 x4 x5 v1
  have hB35 : ∀ (again : Int32 → Int32 → Int32 → Int32 → Int32 → Int32 → Option (Int32)) (hagain : ∀ (x1 : Int32) (x2 : Int32) (x3 : Int32) (x4 : Int32) (x5 : Int32) (x6 : Int32), Rn Z 7 (Option.map enc) 0 0 35 [(0, .ref a_this), (1, .int x1), (2, .int x2), (3, .int x3), (4, .int x4), (5, .int x5), (6, .int x6)] [] [(a_this, .inr (10, [.ref a_tape, .ref a_reader, .ref a_table, .ref a_way, .ref a_images, .ref a_sheets, .ref a_flaws, .ref a_sixthOf, .ref a_drawing, .ref a_naming, .int g_lastFault, .int g_lastTear])), (a_table, .inr (8, [.int g_table_places, .ref a_table_squares])), (a_table_squares, .inl ((zG Z).2.1 1, 49, .inl g_table_squares))] (again x1 x2 x3 x4 x5 x6)) (x1 : Int32) (x2 : Int32) (x3 : Int32) (x4 : Int32) (x5 : Int32) (x6 : Int32), Rn Z 7 (Option.map enc) 0 0 35 [(0, .ref a_this), (1, .int x1), (2, .int x2), (3, .int x3), (4, .int x4), (5, .int x5), (6, .int x6)] [] [(a_this, .inr (10, [.ref a_tape, .ref a_reader, .ref a_table, .ref a_way, .ref a_images, .ref a_sheets, .ref a_flaws, .ref a_sixthOf, .ref a_drawing, .ref a_naming, .int g_lastFault, .int g_lastTear])), (a_table, .inr (8, [.int g_table_places, .ref a_table_squares])), (a_table_squares, .inl ((zG Z).2.1 1, 49, .inl g_table_squares))] (X10_at_B35 g_table_places g_table_squares again x1 x2 x3 x4 x5 x6) := by
    intro again hagain x1 x2 x3 x4 x5 x6
    unfold X10_at_B35
    refine rn_iload hX dX10_at_35 6 rfl 37 rfl ?_
    refine rn_aload_n hX dX10_at_37 0 rfl 38 rfl ?_
    refine rn_get hX inX10 0 rfl rfl 2 (by decide) fl28 rfl rfl dX10_at_38 41 rfl ?_
    refine rn_get hX inX8 1 rfl rfl 0 (by decide) fl245 rfl rfl dX10_at_41 44 rfl ?_
    refine rn_icmp_ge hX dX10_at_44 91 (by decide) 47 rfl ?_ ?_
    · refine rn_iload hX dX10_at_91 5 rfl 93 rfl ?_
      exact rn_iret hX hr (by rw [henc]; rfl) dX10_at_93
    refine rn_aload_n hX dX10_at_47 0 rfl 48 rfl ?_
    refine rn_get hX inX10 0 rfl rfl 2 (by decide) fl28 rfl rfl dX10_at_48 51 rfl ?_
    refine rn_iload_n hX dX10_at_51 1 rfl 52 rfl ?_
    refine rn_iload hX dX10_at_52 6 rfl 54 rfl ?_
    refine rn_bind (fun u2 hu2 => ?_)
    refine rn_callV0 hX (gV mcC wd_714 wd_512 wd_513 wd_73 wd_514) rfl hdV_X8_square rfl rfl ⟨Nat.le_of_ble_eq_true rfl, Nat.le_of_ble_eq_true rfl⟩ (c_X8_square (zl Z) (zG Z) a_table a_table_squares g_table_places g_table_squares x1 x6 hu2) rfl [1, 2] rfl rfl (ci := 8) rfl rfl rfl (Nat.le_of_ble_eq_true rfl) dX10_at_54 57 rfl (S' := [.int u2]) rfl ⟨Nat.zero_le _, Nat.zero_le _⟩ ?_
    refine rn_iload_n hX dX10_at_57 2 rfl 58 rfl ?_
    refine rn_icmp_ne hX dX10_at_58 85 (by decide) 61 rfl ?_ ?_
    · exact (hJ85 _ hagain) x1 x2 x3 x4 x5 x6
    refine rn_aload_n hX dX10_at_61 0 rfl 62 rfl ?_
    refine rn_get hX inX10 0 rfl rfl 2 (by decide) fl28 rfl rfl dX10_at_62 65 rfl ?_
    refine rn_iload_n hX dX10_at_65 3 rfl 66 rfl ?_
    refine rn_iload hX dX10_at_66 6 rfl 68 rfl ?_
    refine rn_bind (fun u3 hu3 => ?_)
    refine rn_callV0 hX (gV mcC wd_714 wd_512 wd_513 wd_73 wd_514) rfl hdV_X8_square rfl rfl ⟨Nat.le_of_ble_eq_true rfl, Nat.le_of_ble_eq_true rfl⟩ (c_X8_square (zl Z) (zG Z) a_table a_table_squares g_table_places g_table_squares x3 x6 hu3) rfl [1, 2] rfl rfl (ci := 8) rfl rfl rfl (Nat.le_of_ble_eq_true rfl) dX10_at_68 71 rfl (S' := [.int u3]) rfl ⟨Nat.zero_le _, Nat.zero_le _⟩ ?_
    refine rn_iload hX dX10_at_71 4 rfl 73 rfl ?_
    refine rn_icmp_ne hX dX10_at_73 85 (by decide) 76 rfl ?_ ?_
    · exact (hJ85 _ hagain) x1 x2 x3 x4 x5 x6
    refine rn_iload hX dX10_at_76 5 rfl 78 rfl ?_
    refine rn_iconst hX dX10_at_78 79 rfl ic_1 ?_
    refine rn_iload hX dX10_at_79 6 rfl 81 rfl ?_
    refine rn_ishl hX dX10_at_81 82 rfl ?_
    refine rn_ior hX dX10_at_82 83 rfl ?_
    refine rn_lati (fun v4 => ?_)
    refine rn_istore hX dX10_at_83 (by decide) (L' := [(5, .int v4), (0, .ref a_this), (1, .int x1), (2, .int x2), (3, .int x3), (4, .int x4), (6, .int x6)]) rfl 85 rfl ?_
    refine rn_sub [1, 2, 3, 4, 5, 0, 6] rfl ?_
    exact (hJ85 _ hagain) x1 x2 x3 x4 v4 x6
  have hL35 : ∀ (n : Nat) (x1 : Int32) (x2 : Int32) (x3 : Int32) (x4 : Int32) (x5 : Int32) (x6 : Int32), Rn Z 7 (Option.map enc) 0 0 35 [(0, .ref a_this), (1, .int x1), (2, .int x2), (3, .int x3), (4, .int x4), (5, .int x5), (6, .int x6)] [] [(a_this, .inr (10, [.ref a_tape, .ref a_reader, .ref a_table, .ref a_way, .ref a_images, .ref a_sheets, .ref a_flaws, .ref a_sixthOf, .ref a_drawing, .ref a_naming, .int g_lastFault, .int g_lastTear])), (a_table, .inr (8, [.int g_table_places, .ref a_table_squares])), (a_table_squares, .inl ((zG Z).2.1 1, 49, .inl g_table_squares))] (X10_at_L35 g_table_places g_table_squares n x1 x2 x3 x4 x5 x6) := by
    intro n
    induction n with
    | zero => intros; exact rn_none
    | succ n ih => exact hB35 _ ih
  unfold X10_at
  refine rn_aload_n hX dX10_at_0 0 rfl 1 rfl ?_
  refine rn_get hX inX10 0 rfl rfl 2 (by decide) fl28 rfl rfl dX10_at_1 4 rfl ?_
  refine rn_iload_n hX dX10_at_4 1 rfl 5 rfl ?_
  refine rn_iload_n hX dX10_at_5 3 rfl 6 rfl ?_
  refine rn_callV0 hX (gV mcC wd_537 wd_538 wd_539 wd_73 wd_540) rfl hdV_X8_areTwo rfl rfl ⟨Nat.le_of_ble_eq_true rfl, Nat.le_of_ble_eq_true rfl⟩ (c_X8_areTwo (zl Z) (zG Z) a_table a_table_squares g_table_places x1 x3 rfl) rfl [1] rfl rfl (ci := 8) rfl rfl rfl (Nat.le_of_ble_eq_true rfl) dX10_at_6 9 rfl (S' := [.int (X8_areTwo x1 x3 g_table_places)]) rfl ⟨Nat.zero_le _, Nat.zero_le _⟩ ?_
  refine rn_if_eq hX dX10_at_9 27 (by decide) 12 rfl ?_ ?_
  · refine rn_iconst hX dX10_at_27 28 rfl ic_m1 ?_
    exact rn_iret hX hr (by rw [henc]; rfl) dX10_at_28
  refine rn_iload_n hX dX10_at_12 2 rfl 13 rfl ?_
  refine rn_callS0 hX (gS mcC wd_554 wd_555 wd_70 wd_556) rfl hdS_X10_isSquare rfl rfl ⟨Nat.le_of_ble_eq_true rfl, Nat.le_of_ble_eq_true rfl⟩ (c_X10_isSquare (zl Z) (zG Z) x2 rfl) rfl [] rfl rfl rfl (Nat.le_of_ble_eq_true rfl) dX10_at_13 16 rfl (S' := [.int (X10_isSquare x2)]) rfl ⟨Nat.zero_le _, Nat.zero_le _⟩ ?_
  refine rn_if_eq hX dX10_at_16 27 (by decide) 19 rfl ?_ ?_
  · refine rn_iconst hX dX10_at_27 28 rfl ic_m1 ?_
    exact rn_iret hX hr (by rw [henc]; rfl) dX10_at_28
  refine rn_iload hX dX10_at_19 4 rfl 21 rfl ?_
  refine rn_callS0 hX (gS mcC wd_554 wd_555 wd_70 wd_556) rfl hdS_X10_isSquare rfl rfl ⟨Nat.le_of_ble_eq_true rfl, Nat.le_of_ble_eq_true rfl⟩ (c_X10_isSquare (zl Z) (zG Z) x4 rfl) rfl [] rfl rfl rfl (Nat.le_of_ble_eq_true rfl) dX10_at_21 24 rfl (S' := [.int (X10_isSquare x4)]) rfl ⟨Nat.zero_le _, Nat.zero_le _⟩ ?_
  refine rn_if_ne hX dX10_at_24 29 (by decide) 27 rfl ?_ ?_
  · refine rn_iconst hX dX10_at_29 30 rfl ic_0 ?_
    refine rn_istore hX dX10_at_30 (by decide) (L' := [(5, .int (0 : Int32)), (0, .ref a_this), (1, .int x1), (2, .int x2), (3, .int x3), (4, .int x4)]) rfl 32 rfl ?_
    refine rn_iconst hX dX10_at_32 33 rfl ic_0 ?_
    refine rn_istore hX dX10_at_33 (by decide) (L' := [(6, .int (0 : Int32)), (5, .int (0 : Int32)), (0, .ref a_this), (1, .int x1), (2, .int x2), (3, .int x3), (4, .int x4)]) rfl 35 rfl ?_
    refine rn_sub [2, 3, 4, 5, 6, 1, 0] rfl ?_
    exact (hL35  1000) x1 x2 x3 x4 (0 : Int32) (0 : Int32)
  refine rn_iconst hX dX10_at_27 28 rfl ic_m1 ?_
  exact rn_iret hX hr (by rw [henc]; rfl) dX10_at_28
abbrev rmX10_spots : Room := { frames := 2, cells := 0, slots := 0, locals := 43 }
theorem hdV_X10_spots : yX10_spots.cls = RX10 ∧ yX10_spots.cls ≠ "java/lang/invoke/MethodHandle" ∧ yX10_spots.cls ≠ "java/lang/invoke/VarHandle" ∧ (parseMethodDescriptor yX10_spots.desc).map (fun d => d.parameters.length) = some 4 := by decide +kernel
set_option maxHeartbeats 4000000 in
set_option maxRecDepth 100000 in
theorem c_X10_spots (l : Launch) (G : GT) (a_this a_table a_table_squares a_tape a_reader a_way a_images a_sheets a_flaws a_sixthOf a_drawing a_naming : Nat) (g_lastFault : Int32) (g_lastTear : Int32) (g_table_places : Int32) (g_table_squares : (Nat → Int32)) (x1 : Int32) (x2 : Int32) (x3 : Int32) (x4 : Int32) {u : Int32} (hu : X10_spots x1 x2 x3 x4 g_table_places g_table_squares = some u) : Ctr l G yX10_spots wsX10_spots rmX10_spots [.ref a_this, .int x1, .int x2, .int x3, .int x4] [(a_this, .inr (10, [.ref a_tape, .ref a_reader, .ref a_table, .ref a_way, .ref a_images, .ref a_sheets, .ref a_flaws, .ref a_sixthOf, .ref a_drawing, .ref a_naming, .int g_lastFault, .int g_lastTear])), (a_table, .inr (8, [.int g_table_places, .ref a_table_squares])), (a_table_squares, .inl (G.2.1 1, 49, .inl g_table_squares))] (some (.int u)) [(a_this, .inr (10, [.ref a_tape, .ref a_reader, .ref a_table, .ref a_way, .ref a_images, .ref a_sheets, .ref a_flaws, .ref a_sixthOf, .ref a_drawing, .ref a_naming, .int g_lastFault, .int g_lastTear])), (a_table, .inr (8, [.int g_table_places, .ref a_table_squares])), (a_table_squares, .inl (G.2.1 1, 49, .inl g_table_squares))] := by
  obtain ⟨enc, henc⟩ : ∃ enc : (Int32) → Option Value × va_W, enc = fun u => (((some (.int u)) : Option Value), ([(a_this, .inr (10, [.ref a_tape, .ref a_reader, .ref a_table, .ref a_way, .ref a_images, .ref a_sheets, .ref a_flaws, .ref a_sixthOf, .ref a_drawing, .ref a_naming, .int g_lastFault, .int g_lastTear])), (a_table, .inr (8, [.int g_table_places, .ref a_table_squares])), (a_table_squares, .inl (G.2.1 1, 49, .inl g_table_squares))] : va_W)) := ⟨_, rfl⟩
  refine ctr_of (cc := cX10_spots) (own := RX10) (E := Option.map enc) (o := X10_spots x1 x2 x3 x4 g_table_places g_table_squares) (by decide) rfl rfl (L := [(0, .ref a_this), (1, .int x1), (2, .int x2), (3, .int x3), (4, .int x4)]) rfl (Nat.le_of_ble_eq_true rfl) (by rw [hu, henc]; rfl) ?_
  intro Z hX hl hG hr
  subst hl; subst hG
  have fl28 : (Cond.fieldLink RX10 28 "OnlyFar" "table" "LOnlyFar$Table;").before (za Z) (zs Z) = true := hX.wd (mcC _ wd_359)
  have inX10 : ∀ w ∈ u_ws RX10 TX10 12, w ∈ wsX10_spots := fun w h => mcC w (inC_X10 w h)
  unfold X10_spots
  refine rn_aload_n hX dX10_spots_0 0 rfl 1 rfl ?_
  refine rn_get hX inX10 0 rfl rfl 2 (by decide) fl28 rfl rfl dX10_spots_1 4 rfl ?_
  refine rn_iload_n hX dX10_spots_4 1 rfl 5 rfl ?_
  refine rn_iload_n hX dX10_spots_5 3 rfl 6 rfl ?_
  refine rn_callV0 hX (gV mcC wd_537 wd_538 wd_539 wd_73 wd_540) rfl hdV_X8_areTwo rfl rfl ⟨Nat.le_of_ble_eq_true rfl, Nat.le_of_ble_eq_true rfl⟩ (c_X8_areTwo (zl Z) (zG Z) a_table a_table_squares g_table_places x1 x3 rfl) rfl [1] rfl rfl (ci := 8) rfl rfl rfl (Nat.le_of_ble_eq_true rfl) dX10_spots_6 9 rfl (S' := [.int (X8_areTwo x1 x3 g_table_places)]) rfl ⟨Nat.zero_le _, Nat.zero_le _⟩ ?_
  refine rn_if_eq hX dX10_spots_9 27 (by decide) 12 rfl ?_ ?_
  · refine rn_iconst hX dX10_spots_27 28 rfl ic_m1 ?_
    exact rn_iret hX hr (by rw [henc]; rfl) dX10_spots_28
  refine rn_iload_n hX dX10_spots_12 2 rfl 13 rfl ?_
  refine rn_callS0 hX (gS mcC wd_554 wd_555 wd_70 wd_556) rfl hdS_X10_isSquare rfl rfl ⟨Nat.le_of_ble_eq_true rfl, Nat.le_of_ble_eq_true rfl⟩ (c_X10_isSquare (zl Z) (zG Z) x2 rfl) rfl [] rfl rfl rfl (Nat.le_of_ble_eq_true rfl) dX10_spots_13 16 rfl (S' := [.int (X10_isSquare x2)]) rfl ⟨Nat.zero_le _, Nat.zero_le _⟩ ?_
  refine rn_if_eq hX dX10_spots_16 27 (by decide) 19 rfl ?_ ?_
  · refine rn_iconst hX dX10_spots_27 28 rfl ic_m1 ?_
    exact rn_iret hX hr (by rw [henc]; rfl) dX10_spots_28
  refine rn_iload hX dX10_spots_19 4 rfl 21 rfl ?_
  refine rn_callS0 hX (gS mcC wd_554 wd_555 wd_70 wd_556) rfl hdS_X10_isSquare rfl rfl ⟨Nat.le_of_ble_eq_true rfl, Nat.le_of_ble_eq_true rfl⟩ (c_X10_isSquare (zl Z) (zG Z) x4 rfl) rfl [] rfl rfl rfl (Nat.le_of_ble_eq_true rfl) dX10_spots_21 24 rfl (S' := [.int (X10_isSquare x4)]) rfl ⟨Nat.zero_le _, Nat.zero_le _⟩ ?_
  refine rn_if_ne hX dX10_spots_24 29 (by decide) 27 rfl ?_ ?_
  · refine rn_aload_n hX dX10_spots_29 0 rfl 30 rfl ?_
    refine rn_get hX inX10 0 rfl rfl 2 (by decide) fl28 rfl rfl dX10_spots_30 33 rfl ?_
    refine rn_iload_n hX dX10_spots_33 1 rfl 34 rfl ?_
    refine rn_iload_n hX dX10_spots_34 3 rfl 35 rfl ?_
    refine rn_bind (fun u1 hu1 => ?_)
    refine rn_callV0 hX (gV mcC wd_714 wd_512 wd_513 wd_73 wd_514) rfl hdV_X8_square rfl rfl ⟨Nat.le_of_ble_eq_true rfl, Nat.le_of_ble_eq_true rfl⟩ (c_X8_square (zl Z) (zG Z) a_table a_table_squares g_table_places g_table_squares x1 x3 hu1) rfl [1, 2] rfl rfl (ci := 8) rfl rfl rfl (Nat.le_of_ble_eq_true rfl) dX10_spots_35 38 rfl (S' := [.int u1]) rfl ⟨Nat.zero_le _, Nat.zero_le _⟩ ?_
    refine rn_if_ne hX dX10_spots_38 44 (by decide) 41 rfl ?_ ?_
    · refine rn_aload_n hX dX10_spots_44 0 rfl 45 rfl ?_
      refine rn_get hX inX10 0 rfl rfl 2 (by decide) fl28 rfl rfl dX10_spots_45 48 rfl ?_
      refine rn_iload_n hX dX10_spots_48 1 rfl 49 rfl ?_
      refine rn_iload_n hX dX10_spots_49 3 rfl 50 rfl ?_
      refine rn_bind (fun u2 hu2 => ?_)
      refine rn_callV0 hX (gV mcC wd_714 wd_512 wd_513 wd_73 wd_514) rfl hdV_X8_square rfl rfl ⟨Nat.le_of_ble_eq_true rfl, Nat.le_of_ble_eq_true rfl⟩ (c_X8_square (zl Z) (zG Z) a_table a_table_squares g_table_places g_table_squares x1 x3 hu2) rfl [1, 2] rfl rfl (ci := 8) rfl rfl rfl (Nat.le_of_ble_eq_true rfl) dX10_spots_50 53 rfl (S' := [.int u2]) rfl ⟨Nat.zero_le _, Nat.zero_le _⟩ ?_
      refine rn_i2l hX dX10_spots_53 54 rfl ?_
      refine rn_iload_n hX dX10_spots_54 2 rfl 55 rfl ?_
      refine rn_i2l hX dX10_spots_55 56 rfl ?_
      refine rn_iload hX dX10_spots_56 4 rfl 58 rfl ?_
      refine rn_i2l hX dX10_spots_58 59 rfl ?_
      refine rn_callS0 hX (gS mcC wd_856 wd_588 wd_70 wd_589) rfl hdS_X10_wideOfSquares rfl rfl ⟨Nat.le_of_ble_eq_true rfl, Nat.le_of_ble_eq_true rfl⟩ (c_X10_wideOfSquares (zl Z) (zG Z) u2.toInt64 x2.toInt64 x4.toInt64 rfl) rfl [] rfl rfl rfl (Nat.le_of_ble_eq_true rfl) dX10_spots_59 62 rfl (S' := [.long (X10_wideOfSquares u2.toInt64 x2.toInt64 x4.toInt64)]) rfl ⟨Nat.zero_le _, Nat.zero_le _⟩ ?_
      refine rn_callS0 hX (gS mcC wd_857 wd_741 wd_90 wd_742) rfl hdS_J13_signum_95d88 rfl rfl ⟨Nat.le_of_ble_eq_true rfl, Nat.le_of_ble_eq_true rfl⟩ (c_J13_signum_95d88 (zl Z) (zG Z) (X10_wideOfSquares u2.toInt64 x2.toInt64 x4.toInt64) rfl) rfl [] rfl rfl rfl (Nat.le_of_ble_eq_true rfl) dX10_spots_62 65 rfl (S' := [.int (J13_signum_95d88 (X10_wideOfSquares u2.toInt64 x2.toInt64 x4.toInt64))]) rfl ⟨Nat.zero_le _, Nat.zero_le _⟩ ?_
      refine rn_iconst hX dX10_spots_65 66 rfl ic_1 ?_
      refine rn_iadd hX dX10_spots_66 67 rfl ?_
      exact rn_iret hX hr (by rw [henc]; rfl) dX10_spots_67
    refine rn_bipush hX dX10_spots_41 43 rfl bp_m2 ?_
    exact rn_iret hX hr (by rw [henc]; rfl) dX10_spots_43
  refine rn_iconst hX dX10_spots_27 28 rfl ic_m1 ?_
  exact rn_iret hX hr (by rw [henc]; rfl) dX10_spots_28
abbrev rmX10_isImage : Room := { frames := 0, cells := 0, slots := 0, locals := 0 }
theorem hdS_X10_isImage : yX10_isImage.cls ≠ "java/lang/invoke/MethodHandle" ∧ yX10_isImage.cls ≠ "java/lang/invoke/VarHandle" ∧ (parseMethodDescriptor yX10_isImage.desc).map (fun d => d.parameters.length) = some 1 := by decide +kernel
set_option maxHeartbeats 4000000 in
set_option maxRecDepth 100000 in
theorem c_X10_isImage (l : Launch) (G : GT) (x0 : Int32) {u : Int32} (hu : X10_isImage x0 = u) : Ctr l G yX10_isImage wsX10_isImage rmX10_isImage [.int x0] [] (some (.int u)) [] := by
  obtain ⟨enc, henc⟩ : ∃ enc : (Int32) → Option Value × va_W, enc = fun u => (((some (.int u)) : Option Value), ([] : va_W)) := ⟨_, rfl⟩
  refine ctr_of (cc := cX10_isImage) (own := RX10) (E := fun o => some (enc o)) (o := X10_isImage x0) (by decide) rfl rfl (L := [(0, .int x0)]) rfl (Nat.le_of_ble_eq_true rfl) (by rw [hu, henc]) ?_
  intro Z hX hl hG hr
  subst hl; subst hG
  unfold X10_isImage
  refine rn_iload_n hX dX10_isImage_0 0 rfl 1 rfl ?_
  refine rn_if_lt hX dX10_isImage_1 13 (by decide) 4 rfl ?_ ?_
  · refine rn_iconst hX dX10_isImage_13 14 rfl ic_0 ?_
    exact rn_zret hX rfl hr (by rw [henc]) dX10_isImage_14
  refine rn_iload_n hX dX10_isImage_4 0 rfl 5 rfl ?_
  refine rn_iconst hX dX10_isImage_5 6 rfl ic_2 ?_
  refine rn_icmp_ge hX dX10_isImage_6 13 (by decide) 9 rfl ?_ ?_
  · refine rn_iconst hX dX10_isImage_13 14 rfl ic_0 ?_
    exact rn_zret hX rfl hr (by rw [henc]) dX10_isImage_14
  refine rn_iconst hX dX10_isImage_9 10 rfl ic_1 ?_
  refine rn_goto hX dX10_isImage_10 14 (by decide) ?_
  exact rn_zret hX rfl hr (by rw [henc]) dX10_isImage_14
abbrev rmX10_maps : Room := { frames := 12, cells := 0, slots := 0, locals := 280 }
theorem hdV_X10_maps : yX10_maps.cls = RX10 ∧ yX10_maps.cls ≠ "java/lang/invoke/MethodHandle" ∧ yX10_maps.cls ≠ "java/lang/invoke/VarHandle" ∧ (parseMethodDescriptor yX10_maps.desc).map (fun d => d.parameters.length) = some 2 := by decide +kernel
set_option maxHeartbeats 4000000 in
set_option maxRecDepth 100000 in
theorem c_X10_maps (l : Launch) (G : GT) (a_this a_images a_images_0 a_images_0_table a_images_0_table_squares a_images_1 a_images_1_table a_images_1_table_squares a_naming a_naming_first a_naming_trial a_table a_table_squares a_tape a_reader a_way a_sheets a_flaws a_sixthOf a_drawing a_images_0_way a_images_1_way : Nat) (g_lastFault : Int32) (g_lastTear : Int32) (g_images_0_kept : Int32) (g_images_0_table_places : Int32) (g_images_0_table_squares : (Nat → Int32)) (g_images_1_kept : Int32) (g_images_1_table_places : Int32) (g_images_1_table_squares : (Nat → Int32)) (g_naming_found : Int32) (g_naming_to : Nat) (g_naming_used : Int32) (g_naming_firstOnly : Int32) (g_naming_first : (Nat → Int32)) (g_naming_trial : (Nat → Int32)) (g_table_places : Int32) (g_table_squares : (Nat → Int32)) (x1 : Int32) (x2 : Int32) {u : Int32 × Int32 × Int32 × Nat × Int32 × (Nat → Int32) × (Nat → Int32)} (hu : X10_maps x1 x2 g_images_0_kept g_images_0_table_places g_images_0_table_squares g_images_1_kept g_images_1_table_places g_images_1_table_squares g_naming_firstOnly g_naming_found g_naming_to g_naming_used g_naming_first g_naming_trial g_table_places g_table_squares a_images_0_table a_images_1_table = some u) : Ctr l G yX10_maps wsX10_maps rmX10_maps [.ref a_this, .int x1, .int x2] [(a_this, .inr (10, [.ref a_tape, .ref a_reader, .ref a_table, .ref a_way, .ref a_images, .ref a_sheets, .ref a_flaws, .ref a_sixthOf, .ref a_drawing, .ref a_naming, .int g_lastFault, .int g_lastTear])), (a_images, .inl (G.2.1 3, 2, .inr (.inr (.inr (.inr (rf2 a_images_0 a_images_1)))))), (a_images_0, .inr (2, [.int g_images_0_kept, .ref a_images_0_table, .ref a_images_0_way])), (a_images_0_table, .inr (8, [.int g_images_0_table_places, .ref a_images_0_table_squares])), (a_images_0_table_squares, .inl (G.2.1 1, 49, .inl g_images_0_table_squares)), (a_images_1, .inr (2, [.int g_images_1_kept, .ref a_images_1_table, .ref a_images_1_way])), (a_images_1_table, .inr (8, [.int g_images_1_table_places, .ref a_images_1_table_squares])), (a_images_1_table_squares, .inl (G.2.1 1, 49, .inl g_images_1_table_squares)), (a_naming, .inr (3, [.int g_naming_found, .ref a_table, .ref g_naming_to, .ref a_naming_first, .ref a_naming_trial, .int g_naming_used, .int g_naming_firstOnly])), (a_naming_first, .inl (G.2.1 1, 7, .inl g_naming_first)), (a_naming_trial, .inl (G.2.1 1, 7, .inl g_naming_trial)), (a_table, .inr (8, [.int g_table_places, .ref a_table_squares])), (a_table_squares, .inl (G.2.1 1, 49, .inl g_table_squares))] (some (.int u.1)) [(a_this, .inr (10, [.ref a_tape, .ref a_reader, .ref a_table, .ref a_way, .ref a_images, .ref a_sheets, .ref a_flaws, .ref a_sixthOf, .ref a_drawing, .ref a_naming, .int g_lastFault, .int g_lastTear])), (a_images, .inl (G.2.1 3, 2, .inr (.inr (.inr (.inr (rf2 a_images_0 a_images_1)))))), (a_images_0, .inr (2, [.int g_images_0_kept, .ref a_images_0_table, .ref a_images_0_way])), (a_images_0_table, .inr (8, [.int g_images_0_table_places, .ref a_images_0_table_squares])), (a_images_0_table_squares, .inl (G.2.1 1, 49, .inl g_images_0_table_squares)), (a_images_1, .inr (2, [.int g_images_1_kept, .ref a_images_1_table, .ref a_images_1_way])), (a_images_1_table, .inr (8, [.int g_images_1_table_places, .ref a_images_1_table_squares])), (a_images_1_table_squares, .inl (G.2.1 1, 49, .inl g_images_1_table_squares)), (a_naming, .inr (3, [.int u.2.2.1, .ref a_table, .ref u.2.2.2.1, .ref a_naming_first, .ref a_naming_trial, .int u.2.2.2.2.1, .int u.2.1])), (a_naming_first, .inl (G.2.1 1, 7, .inl u.2.2.2.2.2.1)), (a_naming_trial, .inl (G.2.1 1, 7, .inl u.2.2.2.2.2.2)), (a_table, .inr (8, [.int g_table_places, .ref a_table_squares])), (a_table_squares, .inl (G.2.1 1, 49, .inl g_table_squares))] := by
  obtain ⟨enc, henc⟩ : ∃ enc : (Int32 × Int32 × Int32 × Nat × Int32 × (Nat → Int32) × (Nat → Int32)) → Option Value × va_W, enc = fun u => (((some (.int u.1)) : Option Value), ([(a_this, .inr (10, [.ref a_tape, .ref a_reader, .ref a_table, .ref a_way, .ref a_images, .ref a_sheets, .ref a_flaws, .ref a_sixthOf, .ref a_drawing, .ref a_naming, .int g_lastFault, .int g_lastTear])), (a_images, .inl (G.2.1 3, 2, .inr (.inr (.inr (.inr (rf2 a_images_0 a_images_1)))))), (a_images_0, .inr (2, [.int g_images_0_kept, .ref a_images_0_table, .ref a_images_0_way])), (a_images_0_table, .inr (8, [.int g_images_0_table_places, .ref a_images_0_table_squares])), (a_images_0_table_squares, .inl (G.2.1 1, 49, .inl g_images_0_table_squares)), (a_images_1, .inr (2, [.int g_images_1_kept, .ref a_images_1_table, .ref a_images_1_way])), (a_images_1_table, .inr (8, [.int g_images_1_table_places, .ref a_images_1_table_squares])), (a_images_1_table_squares, .inl (G.2.1 1, 49, .inl g_images_1_table_squares)), (a_naming, .inr (3, [.int u.2.2.1, .ref a_table, .ref u.2.2.2.1, .ref a_naming_first, .ref a_naming_trial, .int u.2.2.2.2.1, .int u.2.1])), (a_naming_first, .inl (G.2.1 1, 7, .inl u.2.2.2.2.2.1)), (a_naming_trial, .inl (G.2.1 1, 7, .inl u.2.2.2.2.2.2)), (a_table, .inr (8, [.int g_table_places, .ref a_table_squares])), (a_table_squares, .inl (G.2.1 1, 49, .inl g_table_squares))] : va_W)) := ⟨_, rfl⟩
  refine ctr_of (cc := cX10_maps) (own := RX10) (E := Option.map enc) (o := X10_maps x1 x2 g_images_0_kept g_images_0_table_places g_images_0_table_squares g_images_1_kept g_images_1_table_places g_images_1_table_squares g_naming_firstOnly g_naming_found g_naming_to g_naming_used g_naming_first g_naming_trial g_table_places g_table_squares a_images_0_table a_images_1_table) (by decide) rfl rfl (L := [(0, .ref a_this), (1, .int x1), (2, .int x2)]) rfl (Nat.le_of_ble_eq_true rfl) (by rw [hu, henc]; rfl) ?_
  intro Z hX hl hG hr
  subst hl; subst hG
  have fl115 : (Cond.fieldLink RX10 115 "OnlyFar$Image" "kept" "Z").before (za Z) (zs Z) = true := hX.wd (mcC _ wd_207)
  have fl28 : (Cond.fieldLink RX10 28 "OnlyFar" "table" "LOnlyFar$Table;").before (za Z) (zs Z) = true := hX.wd (mcC _ wd_359)
  have fl303 : (Cond.fieldLink RX10 303 "OnlyFar$Image" "table" "LOnlyFar$Table;").before (za Z) (zs Z) = true := hX.wd (mcC _ wd_209)
  have fl308 : (Cond.fieldLink RX10 308 "OnlyFar$Naming" "found" "I").before (za Z) (zs Z) = true := hX.wd (mcC _ wd_335)
  have fl41 : (Cond.fieldLink RX10 41 "OnlyFar" "images" "[LOnlyFar$Image;").before (za Z) (zs Z) = true := hX.wd (mcC _ wd_361)
  have fl79 : (Cond.fieldLink RX10 79 "OnlyFar" "naming" "LOnlyFar$Naming;").before (za Z) (zs Z) = true := hX.wd (mcC _ wd_366)
  have inX10 : ∀ w ∈ u_ws RX10 TX10 12, w ∈ wsX10_maps := fun w h => mcC w (inC_X10 w h)
  have inX2 : ∀ w ∈ u_ws RX2 TX2 3, w ∈ wsX10_maps := fun w h => mcC w (inC_X2 w h)
  have inX3 : ∀ w ∈ u_ws RX3 TX3 7, w ∈ wsX10_maps := fun w h => mcC w (inC_X3 w h)
  have hJ29 : ∀ (x1 : Int32) (x2 : Int32) (x3 : Int32) (g_naming_firstOnly : Int32) (g_naming_found : Int32) (g_naming_to : Nat) (g_naming_used : Int32) (g_naming_first : (Nat → Int32)) (g_naming_trial : (Nat → Int32)), Rn Z 4 (Option.map enc) 0 0 29 [(0, .ref a_this), (1, .int x1), (2, .int x2), (3, .int x3)] [] [(a_this, .inr (10, [.ref a_tape, .ref a_reader, .ref a_table, .ref a_way, .ref a_images, .ref a_sheets, .ref a_flaws, .ref a_sixthOf, .ref a_drawing, .ref a_naming, .int g_lastFault, .int g_lastTear])), (a_images, .inl ((zG Z).2.1 3, 2, .inr (.inr (.inr (.inr (rf2 a_images_0 a_images_1)))))), (a_images_0, .inr (2, [.int g_images_0_kept, .ref a_images_0_table, .ref a_images_0_way])), (a_images_0_table, .inr (8, [.int g_images_0_table_places, .ref a_images_0_table_squares])), (a_images_0_table_squares, .inl ((zG Z).2.1 1, 49, .inl g_images_0_table_squares)), (a_images_1, .inr (2, [.int g_images_1_kept, .ref a_images_1_table, .ref a_images_1_way])), (a_images_1_table, .inr (8, [.int g_images_1_table_places, .ref a_images_1_table_squares])), (a_images_1_table_squares, .inl ((zG Z).2.1 1, 49, .inl g_images_1_table_squares)), (a_naming, .inr (3, [.int g_naming_found, .ref a_table, .ref g_naming_to, .ref a_naming_first, .ref a_naming_trial, .int g_naming_used, .int g_naming_firstOnly])), (a_naming_first, .inl ((zG Z).2.1 1, 7, .inl g_naming_first)), (a_naming_trial, .inl ((zG Z).2.1 1, 7, .inl g_naming_trial)), (a_table, .inr (8, [.int g_table_places, .ref a_table_squares])), (a_table_squares, .inl ((zG Z).2.1 1, 49, .inl g_table_squares))] (X10_maps_J29 g_images_0_kept g_images_0_table_places g_images_0_table_squares g_images_1_kept g_images_1_table_places g_images_1_table_squares g_table_places g_table_squares a_images_0_table a_images_1_table x1 x2 x3 g_naming_firstOnly g_naming_found g_naming_to g_naming_used g_naming_first g_naming_trial) := by
    intro x1 x2 x3 g_naming_firstOnly g_naming_found g_naming_to g_naming_used g_naming_first g_naming_trial
    unfold X10_maps_J29
    refine rn_aload_n hX dX10_maps_29 0 rfl 30 rfl ?_
    refine rn_get hX inX10 0 rfl rfl 4 (by decide) fl41 rfl rfl dX10_maps_30 33 rfl ?_
    refine rn_iload_n hX dX10_maps_33 1 rfl 34 rfl ?_
    by_cases he34_0 : x1 = (0 : Int32)
    · rw [if_pos he34_0]
      refine rn_aald hX (t0 := 3) (n := 2) (f := rf2 a_images_0 a_images_1) 1 rfl rfl he34_0 (vpk (by decide)) rfl dX10_maps_34 35 rfl ?_
      refine rn_get hX inX2 2 rfl rfl 0 (by decide) fl115 rfl rfl dX10_maps_35 38 rfl ?_
      refine rn_if_ne hX dX10_maps_38 44 (by decide) 41 rfl ?_ ?_
      · refine rn_aload_n hX dX10_maps_44 0 rfl 45 rfl ?_
        refine rn_get hX inX10 0 rfl rfl 9 (by decide) fl79 rfl rfl dX10_maps_45 48 rfl ?_
        refine rn_aload_n hX dX10_maps_48 0 rfl 49 rfl ?_
        refine rn_get hX inX10 0 rfl rfl 4 (by decide) fl41 rfl rfl dX10_maps_49 52 rfl ?_
        refine rn_iload_n hX dX10_maps_52 1 rfl 53 rfl ?_
        refine rn_aald hX (t0 := 3) (n := 2) (f := rf2 a_images_0 a_images_1) 1 rfl rfl he34_0 (vpk (by decide)) rfl dX10_maps_53 54 rfl ?_
        refine rn_get hX inX2 2 rfl rfl 1 (by decide) fl303 rfl rfl dX10_maps_54 57 rfl ?_
        refine rn_iload_n hX dX10_maps_57 3 rfl 58 rfl ?_
        refine rn_bind (fun u1 hu1 => ?_)
        refine rn_callV hX (gV mcC wd_865 wd_866 wd_867 wd_80 wd_868) rfl hdV_X3_compare rfl rfl ⟨Nat.le_of_ble_eq_true rfl, Nat.le_of_ble_eq_true rfl⟩ (c_X3_compare (zl Z) (zG Z) a_naming a_naming_first a_table a_table_squares a_naming_trial a_images_0_table a_images_0_table_squares g_naming_found g_naming_to g_naming_used g_naming_firstOnly g_naming_first g_table_places g_table_squares g_naming_trial g_images_0_table_places g_images_0_table_squares x3 hu1) rfl [8, 9, 11, 12, 10, 3, 4] rfl rfl rfl (ci := 3) rfl rfl rfl (Nat.le_of_ble_eq_true rfl) dX10_maps_58 61 rfl (wn := [(a_this, .inr (10, [.ref a_tape, .ref a_reader, .ref a_table, .ref a_way, .ref a_images, .ref a_sheets, .ref a_flaws, .ref a_sixthOf, .ref a_drawing, .ref a_naming, .int g_lastFault, .int g_lastTear])), (a_images, .inl ((zG Z).2.1 3, 2, .inr (.inr (.inr (.inr (rf2 a_images_0 a_images_1)))))), (a_images_0, .inr (2, [.int g_images_0_kept, .ref a_images_0_table, .ref a_images_0_way])), (a_images_0_table, .inr (8, [.int g_images_0_table_places, .ref a_images_0_table_squares])), (a_images_0_table_squares, .inl ((zG Z).2.1 1, 49, .inl g_images_0_table_squares)), (a_images_1, .inr (2, [.int g_images_1_kept, .ref a_images_1_table, .ref a_images_1_way])), (a_images_1_table, .inr (8, [.int g_images_1_table_places, .ref a_images_1_table_squares])), (a_images_1_table_squares, .inl ((zG Z).2.1 1, 49, .inl g_images_1_table_squares)), (a_naming, .inr (3, [.int u1.2.1, .ref a_table, .ref u1.2.2.1, .ref a_naming_first, .ref a_naming_trial, .int u1.2.2.2.1, .int u1.1])), (a_naming_first, .inl ((zG Z).2.1 1, 7, .inl u1.2.2.2.2.1)), (a_naming_trial, .inl ((zG Z).2.1 1, 7, .inl u1.2.2.2.2.2)), (a_table, .inr (8, [.int g_table_places, .ref a_table_squares])), (a_table_squares, .inl ((zG Z).2.1 1, 49, .inl g_table_squares))]) rfl (S' := []) rfl ⟨Nat.zero_le _, Nat.zero_le _⟩ ?_
        refine rn_iload_n hX dX10_maps_61 3 rfl 62 rfl ?_
        refine rn_if_ne hX dX10_maps_62 73 (by decide) 65 rfl ?_ ?_
        · refine rn_aload_n hX dX10_maps_73 0 rfl 74 rfl ?_
          refine rn_get hX inX10 0 rfl rfl 9 (by decide) fl79 rfl rfl dX10_maps_74 77 rfl ?_
          refine rn_get hX inX3 8 rfl rfl 0 (by decide) fl308 rfl rfl dX10_maps_77 80 rfl ?_
          refine rn_if_le hX dX10_maps_80 97 (by decide) 83 rfl ?_ ?_
          · refine rn_bipush hX dX10_maps_97 99 rfl bp_m4 ?_
            exact rn_iret hX hr (by rw [henc]; rfl) dX10_maps_99
          refine rn_aload_n hX dX10_maps_83 0 rfl 84 rfl ?_
          refine rn_get hX inX10 0 rfl rfl 9 (by decide) fl79 rfl rfl dX10_maps_84 87 rfl ?_
          refine rn_iload_n hX dX10_maps_87 2 rfl 88 rfl ?_
          refine rn_bipush hX dX10_maps_88 90 rfl bp_10 ?_
          refine rn_isub hX dX10_maps_90 91 rfl ?_
          refine rn_bind (fun u2 hu2 => ?_)
          refine rn_callV0 hX (gV mcC wd_880 wd_881 wd_882 wd_80 wd_883) rfl hdV_X3_nameOf rfl rfl ⟨Nat.le_of_ble_eq_true rfl, Nat.le_of_ble_eq_true rfl⟩ (c_X3_nameOf (zl Z) (zG Z) a_naming a_naming_first a_table u1.2.2.1 a_naming_trial u1.2.1 u1.2.2.2.1 u1.1 u1.2.2.2.2.1 (x2 - (10 : Int32)) hu2) rfl [8, 9] rfl rfl (ci := 3) rfl rfl rfl (Nat.le_of_ble_eq_true rfl) dX10_maps_91 94 rfl (S' := [.int u2]) rfl ⟨Nat.zero_le _, Nat.zero_le _⟩ ?_
          refine rn_goto hX dX10_maps_94 99 (by decide) ?_
          exact rn_iret hX hr (by rw [henc]; rfl) dX10_maps_99
        refine rn_aload_n hX dX10_maps_65 0 rfl 66 rfl ?_
        refine rn_get hX inX10 0 rfl rfl 9 (by decide) fl79 rfl rfl dX10_maps_66 69 rfl ?_
        refine rn_get hX inX3 8 rfl rfl 0 (by decide) fl308 rfl rfl dX10_maps_69 72 rfl ?_
        exact rn_iret hX hr (by rw [henc]; rfl) dX10_maps_72
      refine rn_bipush hX dX10_maps_41 43 rfl bp_m2 ?_
      exact rn_iret hX hr (by rw [henc]; rfl) dX10_maps_43
    rw [if_neg he34_0]
    by_cases he34_1 : x1 = (1 : Int32)
    · rw [if_pos he34_1]
      refine rn_aald hX (t0 := 3) (n := 2) (f := rf2 a_images_0 a_images_1) 1 rfl rfl he34_1 (vpk (by decide)) rfl dX10_maps_34 35 rfl ?_
      refine rn_get hX inX2 5 rfl rfl 0 (by decide) fl115 rfl rfl dX10_maps_35 38 rfl ?_
      refine rn_if_ne hX dX10_maps_38 44 (by decide) 41 rfl ?_ ?_
      · refine rn_aload_n hX dX10_maps_44 0 rfl 45 rfl ?_
        refine rn_get hX inX10 0 rfl rfl 9 (by decide) fl79 rfl rfl dX10_maps_45 48 rfl ?_
        refine rn_aload_n hX dX10_maps_48 0 rfl 49 rfl ?_
        refine rn_get hX inX10 0 rfl rfl 4 (by decide) fl41 rfl rfl dX10_maps_49 52 rfl ?_
        refine rn_iload_n hX dX10_maps_52 1 rfl 53 rfl ?_
        refine rn_aald hX (t0 := 3) (n := 2) (f := rf2 a_images_0 a_images_1) 1 rfl rfl he34_1 (vpk (by decide)) rfl dX10_maps_53 54 rfl ?_
        refine rn_get hX inX2 5 rfl rfl 1 (by decide) fl303 rfl rfl dX10_maps_54 57 rfl ?_
        refine rn_iload_n hX dX10_maps_57 3 rfl 58 rfl ?_
        refine rn_bind (fun u3 hu3 => ?_)
        refine rn_callV hX (gV mcC wd_865 wd_866 wd_867 wd_80 wd_868) rfl hdV_X3_compare rfl rfl ⟨Nat.le_of_ble_eq_true rfl, Nat.le_of_ble_eq_true rfl⟩ (c_X3_compare (zl Z) (zG Z) a_naming a_naming_first a_table a_table_squares a_naming_trial a_images_1_table a_images_1_table_squares g_naming_found g_naming_to g_naming_used g_naming_firstOnly g_naming_first g_table_places g_table_squares g_naming_trial g_images_1_table_places g_images_1_table_squares x3 hu3) rfl [8, 9, 11, 12, 10, 6, 7] rfl rfl rfl (ci := 3) rfl rfl rfl (Nat.le_of_ble_eq_true rfl) dX10_maps_58 61 rfl (wn := [(a_this, .inr (10, [.ref a_tape, .ref a_reader, .ref a_table, .ref a_way, .ref a_images, .ref a_sheets, .ref a_flaws, .ref a_sixthOf, .ref a_drawing, .ref a_naming, .int g_lastFault, .int g_lastTear])), (a_images, .inl ((zG Z).2.1 3, 2, .inr (.inr (.inr (.inr (rf2 a_images_0 a_images_1)))))), (a_images_0, .inr (2, [.int g_images_0_kept, .ref a_images_0_table, .ref a_images_0_way])), (a_images_0_table, .inr (8, [.int g_images_0_table_places, .ref a_images_0_table_squares])), (a_images_0_table_squares, .inl ((zG Z).2.1 1, 49, .inl g_images_0_table_squares)), (a_images_1, .inr (2, [.int g_images_1_kept, .ref a_images_1_table, .ref a_images_1_way])), (a_images_1_table, .inr (8, [.int g_images_1_table_places, .ref a_images_1_table_squares])), (a_images_1_table_squares, .inl ((zG Z).2.1 1, 49, .inl g_images_1_table_squares)), (a_naming, .inr (3, [.int u3.2.1, .ref a_table, .ref u3.2.2.1, .ref a_naming_first, .ref a_naming_trial, .int u3.2.2.2.1, .int u3.1])), (a_naming_first, .inl ((zG Z).2.1 1, 7, .inl u3.2.2.2.2.1)), (a_naming_trial, .inl ((zG Z).2.1 1, 7, .inl u3.2.2.2.2.2)), (a_table, .inr (8, [.int g_table_places, .ref a_table_squares])), (a_table_squares, .inl ((zG Z).2.1 1, 49, .inl g_table_squares))]) rfl (S' := []) rfl ⟨Nat.zero_le _, Nat.zero_le _⟩ ?_
        refine rn_iload_n hX dX10_maps_61 3 rfl 62 rfl ?_
        refine rn_if_ne hX dX10_maps_62 73 (by decide) 65 rfl ?_ ?_
        · refine rn_aload_n hX dX10_maps_73 0 rfl 74 rfl ?_
          refine rn_get hX inX10 0 rfl rfl 9 (by decide) fl79 rfl rfl dX10_maps_74 77 rfl ?_
          refine rn_get hX inX3 8 rfl rfl 0 (by decide) fl308 rfl rfl dX10_maps_77 80 rfl ?_
          refine rn_if_le hX dX10_maps_80 97 (by decide) 83 rfl ?_ ?_
          · refine rn_bipush hX dX10_maps_97 99 rfl bp_m4 ?_
            exact rn_iret hX hr (by rw [henc]; rfl) dX10_maps_99
          refine rn_aload_n hX dX10_maps_83 0 rfl 84 rfl ?_
          refine rn_get hX inX10 0 rfl rfl 9 (by decide) fl79 rfl rfl dX10_maps_84 87 rfl ?_
          refine rn_iload_n hX dX10_maps_87 2 rfl 88 rfl ?_
          refine rn_bipush hX dX10_maps_88 90 rfl bp_10 ?_
          refine rn_isub hX dX10_maps_90 91 rfl ?_
          refine rn_bind (fun u4 hu4 => ?_)
          refine rn_callV0 hX (gV mcC wd_880 wd_881 wd_882 wd_80 wd_883) rfl hdV_X3_nameOf rfl rfl ⟨Nat.le_of_ble_eq_true rfl, Nat.le_of_ble_eq_true rfl⟩ (c_X3_nameOf (zl Z) (zG Z) a_naming a_naming_first a_table u3.2.2.1 a_naming_trial u3.2.1 u3.2.2.2.1 u3.1 u3.2.2.2.2.1 (x2 - (10 : Int32)) hu4) rfl [8, 9] rfl rfl (ci := 3) rfl rfl rfl (Nat.le_of_ble_eq_true rfl) dX10_maps_91 94 rfl (S' := [.int u4]) rfl ⟨Nat.zero_le _, Nat.zero_le _⟩ ?_
          refine rn_goto hX dX10_maps_94 99 (by decide) ?_
          exact rn_iret hX hr (by rw [henc]; rfl) dX10_maps_99
        refine rn_aload_n hX dX10_maps_65 0 rfl 66 rfl ?_
        refine rn_get hX inX10 0 rfl rfl 9 (by decide) fl79 rfl rfl dX10_maps_66 69 rfl ?_
        refine rn_get hX inX3 8 rfl rfl 0 (by decide) fl308 rfl rfl dX10_maps_69 72 rfl ?_
        exact rn_iret hX hr (by rw [henc]; rfl) dX10_maps_72
      refine rn_bipush hX dX10_maps_41 43 rfl bp_m2 ?_
      exact rn_iret hX hr (by rw [henc]; rfl) dX10_maps_43
    rw [if_neg he34_1]
    exact rn_none
  unfold X10_maps
  refine rn_aload_n hX dX10_maps_0 0 rfl 1 rfl ?_
  refine rn_get hX inX10 0 rfl rfl 2 (by decide) fl28 rfl rfl dX10_maps_1 4 rfl ?_
  refine rn_iload_n hX dX10_maps_4 2 rfl 5 rfl ?_
  refine rn_bipush hX dX10_maps_5 7 rfl bp_10 ?_
  refine rn_isub hX dX10_maps_7 8 rfl ?_
  refine rn_callV0 hX (gV mcC wd_777 wd_542 wd_543 wd_73 wd_544) rfl hdV_X8_isPlace rfl rfl ⟨Nat.le_of_ble_eq_true rfl, Nat.le_of_ble_eq_true rfl⟩ (c_X8_isPlace (zl Z) (zG Z) a_table a_table_squares g_table_places (x2 - (10 : Int32)) rfl) rfl [11] rfl rfl (ci := 8) rfl rfl rfl (Nat.le_of_ble_eq_true rfl) dX10_maps_8 11 rfl (S' := [.int (X8_isPlace (x2 - (10 : Int32)) g_table_places)]) rfl ⟨Nat.zero_le _, Nat.zero_le _⟩ ?_
  refine rn_lati (fun v5 => ?_)
  refine rn_istore_n hX dX10_maps_11 3 rfl (by decide) (L' := [(3, .int v5), (0, .ref a_this), (1, .int x1), (2, .int x2)]) rfl 12 rfl ?_
  refine rn_iload_n hX dX10_maps_12 2 rfl 13 rfl ?_
  refine rn_callS0 hX (gS mcC wd_862 wd_863 wd_70 wd_864) rfl hdS_X10_isImage rfl rfl ⟨Nat.le_of_ble_eq_true rfl, Nat.le_of_ble_eq_true rfl⟩ (c_X10_isImage (zl Z) (zG Z) x1 rfl) rfl [] rfl rfl rfl (Nat.le_of_ble_eq_true rfl) dX10_maps_13 16 rfl (S' := [.int (X10_isImage x1)]) rfl ⟨Nat.zero_le _, Nat.zero_le _⟩ ?_
  refine rn_if_eq hX dX10_maps_16 27 (by decide) 19 rfl ?_ ?_
  · refine rn_iconst hX dX10_maps_27 28 rfl ic_m1 ?_
    exact rn_iret hX hr (by rw [henc]; rfl) dX10_maps_28
  refine rn_iload_n hX dX10_maps_19 0 rfl 20 rfl ?_
  refine rn_if_ne hX dX10_maps_20 29 (by decide) 23 rfl ?_ ?_
  · refine rn_sub [1, 2, 3, 0] rfl ?_
    exact hJ29 x1 x2 v5 g_naming_firstOnly g_naming_found g_naming_to g_naming_used g_naming_first g_naming_trial
  refine rn_iload_n hX dX10_maps_23 3 rfl 24 rfl ?_
  refine rn_if_eq hX dX10_maps_24 29 (by decide) 27 rfl ?_ ?_
  · refine rn_sub [1, 2, 3, 0] rfl ?_
    exact hJ29 x1 x2 v5 g_naming_firstOnly g_naming_found g_naming_to g_naming_used g_naming_first g_naming_trial
  refine rn_iconst hX dX10_maps_27 28 rfl ic_m1 ?_
  exact rn_iret hX hr (by rw [henc]; rfl) dX10_maps_28
abbrev rmX10_part : Room := { frames := 1, cells := 0, slots := 0, locals := 21 }
theorem hdV_X10_part : yX10_part.cls = RX10 ∧ yX10_part.cls ≠ "java/lang/invoke/MethodHandle" ∧ yX10_part.cls ≠ "java/lang/invoke/VarHandle" ∧ (parseMethodDescriptor yX10_part.desc).map (fun d => d.parameters.length) = some 1 := by decide +kernel
set_option maxHeartbeats 4000000 in
set_option maxRecDepth 100000 in
theorem c_X10_part (l : Launch) (G : GT) (a_this a_way a_way_lengths a_tape a_reader a_table a_images a_sheets a_flaws a_sixthOf a_drawing a_naming : Nat) (g_lastFault : Int32) (g_lastTear : Int32) (g_way_parts : Int32) (g_way_lengths : (Nat → Int32)) (x1 : Int32) {u : Int32 × Int32 × (Nat → Int32)} (hu : X10_part x1 g_way_parts g_way_lengths = some u) : Ctr l G yX10_part wsX10_part rmX10_part [.ref a_this, .int x1] [(a_this, .inr (10, [.ref a_tape, .ref a_reader, .ref a_table, .ref a_way, .ref a_images, .ref a_sheets, .ref a_flaws, .ref a_sixthOf, .ref a_drawing, .ref a_naming, .int g_lastFault, .int g_lastTear])), (a_way, .inr (5, [.int g_way_parts, .ref a_way_lengths])), (a_way_lengths, .inl (G.2.1 1, 8, .inl g_way_lengths))] (some (.int u.1)) [(a_this, .inr (10, [.ref a_tape, .ref a_reader, .ref a_table, .ref a_way, .ref a_images, .ref a_sheets, .ref a_flaws, .ref a_sixthOf, .ref a_drawing, .ref a_naming, .int g_lastFault, .int g_lastTear])), (a_way, .inr (5, [.int u.2.1, .ref a_way_lengths])), (a_way_lengths, .inl (G.2.1 1, 8, .inl u.2.2))] := by
  obtain ⟨enc, henc⟩ : ∃ enc : (Int32 × Int32 × (Nat → Int32)) → Option Value × va_W, enc = fun u => (((some (.int u.1)) : Option Value), ([(a_this, .inr (10, [.ref a_tape, .ref a_reader, .ref a_table, .ref a_way, .ref a_images, .ref a_sheets, .ref a_flaws, .ref a_sixthOf, .ref a_drawing, .ref a_naming, .int g_lastFault, .int g_lastTear])), (a_way, .inr (5, [.int u.2.1, .ref a_way_lengths])), (a_way_lengths, .inl (G.2.1 1, 8, .inl u.2.2))] : va_W)) := ⟨_, rfl⟩
  refine ctr_of (cc := cX10_part) (own := RX10) (E := Option.map enc) (o := X10_part x1 g_way_parts g_way_lengths) (by decide) rfl rfl (L := [(0, .ref a_this), (1, .int x1)]) rfl (Nat.le_of_ble_eq_true rfl) (by rw [hu, henc]; rfl) ?_
  intro Z hX hl hG hr
  subst hl; subst hG
  have fl112 : (Cond.fieldLink RX10 112 "OnlyFar$Road" "parts" "I").before (za Z) (zs Z) = true := hX.wd (mcC _ wd_188)
  have fl35 : (Cond.fieldLink RX10 35 "OnlyFar" "way" "LOnlyFar$Road;").before (za Z) (zs Z) = true := hX.wd (mcC _ wd_360)
  have inX10 : ∀ w ∈ u_ws RX10 TX10 12, w ∈ wsX10_part := fun w h => mcC w (inC_X10 w h)
  have inX5 : ∀ w ∈ u_ws RX5 TX5 2, w ∈ wsX10_part := fun w h => mcC w (inC_X5 w h)
  unfold X10_part
  refine rn_iload_n hX dX10_part_0 1 rfl 1 rfl ?_
  refine rn_iconst hX dX10_part_1 2 rfl ic_1 ?_
  refine rn_icmp_lt hX dX10_part_2 11 (by decide) 5 rfl ?_ ?_
  · refine rn_iconst hX dX10_part_11 12 rfl ic_m1 ?_
    exact rn_iret hX hr (by rw [henc]; rfl) dX10_part_12
  refine rn_iload_n hX dX10_part_5 1 rfl 6 rfl ?_
  refine rn_bipush hX dX10_part_6 8 rfl bp_99 ?_
  refine rn_icmp_le hX dX10_part_8 13 (by decide) 11 rfl ?_ ?_
  · refine rn_aload_n hX dX10_part_13 0 rfl 14 rfl ?_
    refine rn_get hX inX10 0 rfl rfl 3 (by decide) fl35 rfl rfl dX10_part_14 17 rfl ?_
    refine rn_iload_n hX dX10_part_17 1 rfl 18 rfl ?_
    refine rn_bind (fun u1 hu1 => ?_)
    refine rn_callV hX (gV mcC wd_888 wd_889 wd_890 wd_74 wd_891) rfl hdV_X5_add rfl rfl ⟨Nat.le_of_ble_eq_true rfl, Nat.le_of_ble_eq_true rfl⟩ (c_X5_add (zl Z) (zG Z) a_way a_way_lengths g_way_parts g_way_lengths x1 hu1) rfl [1, 2] rfl rfl rfl (ci := 5) rfl rfl rfl (Nat.le_of_ble_eq_true rfl) dX10_part_18 21 rfl (wn := [(a_this, .inr (10, [.ref a_tape, .ref a_reader, .ref a_table, .ref a_way, .ref a_images, .ref a_sheets, .ref a_flaws, .ref a_sixthOf, .ref a_drawing, .ref a_naming, .int g_lastFault, .int g_lastTear])), (a_way, .inr (5, [.int u1.2.1, .ref a_way_lengths])), (a_way_lengths, .inl ((zG Z).2.1 1, 8, .inl u1.2.2))]) rfl (S' := [.int u1.1]) rfl ⟨Nat.zero_le _, Nat.zero_le _⟩ ?_
    refine rn_if_eq hX dX10_part_21 34 (by decide) 24 rfl ?_ ?_
    · refine rn_bipush hX dX10_part_34 36 rfl bp_m3 ?_
      exact rn_iret hX hr (by rw [henc]; rfl) dX10_part_36
    refine rn_aload_n hX dX10_part_24 0 rfl 25 rfl ?_
    refine rn_get hX inX10 0 rfl rfl 3 (by decide) fl35 rfl rfl dX10_part_25 28 rfl ?_
    refine rn_get hX inX5 1 rfl rfl 0 (by decide) fl112 rfl rfl dX10_part_28 31 rfl ?_
    refine rn_goto hX dX10_part_31 36 (by decide) ?_
    exact rn_iret hX hr (by rw [henc]; rfl) dX10_part_36
  refine rn_iconst hX dX10_part_11 12 rfl ic_m1 ?_
  exact rn_iret hX hr (by rw [henc]; rfl) dX10_part_12
abbrev rmX10_clear : Room := { frames := 0, cells := 0, slots := 0, locals := 0 }
theorem hdV_X10_clear : yX10_clear.cls = RX10 ∧ yX10_clear.cls ≠ "java/lang/invoke/MethodHandle" ∧ yX10_clear.cls ≠ "java/lang/invoke/VarHandle" ∧ (parseMethodDescriptor yX10_clear.desc).map (fun d => d.parameters.length) = some 0 := by decide +kernel
set_option maxHeartbeats 4000000 in
set_option maxRecDepth 100000 in
theorem c_X10_clear (l : Launch) (G : GT) (a_this a_way a_tape a_reader a_table a_images a_sheets a_flaws a_sixthOf a_drawing a_naming a_way_lengths : Nat) (g_lastFault : Int32) (g_lastTear : Int32) (g_way_parts : Int32) {u : Int32 × Int32} (hu : X10_clear g_way_parts = u) : Ctr l G yX10_clear wsX10_clear rmX10_clear [.ref a_this] [(a_this, .inr (10, [.ref a_tape, .ref a_reader, .ref a_table, .ref a_way, .ref a_images, .ref a_sheets, .ref a_flaws, .ref a_sixthOf, .ref a_drawing, .ref a_naming, .int g_lastFault, .int g_lastTear])), (a_way, .inr (5, [.int g_way_parts, .ref a_way_lengths]))] (some (.int u.1)) [(a_this, .inr (10, [.ref a_tape, .ref a_reader, .ref a_table, .ref a_way, .ref a_images, .ref a_sheets, .ref a_flaws, .ref a_sixthOf, .ref a_drawing, .ref a_naming, .int g_lastFault, .int g_lastTear])), (a_way, .inr (5, [.int u.2, .ref a_way_lengths]))] := by
  obtain ⟨enc, henc⟩ : ∃ enc : (Int32 × Int32) → Option Value × va_W, enc = fun u => (((some (.int u.1)) : Option Value), ([(a_this, .inr (10, [.ref a_tape, .ref a_reader, .ref a_table, .ref a_way, .ref a_images, .ref a_sheets, .ref a_flaws, .ref a_sixthOf, .ref a_drawing, .ref a_naming, .int g_lastFault, .int g_lastTear])), (a_way, .inr (5, [.int u.2, .ref a_way_lengths]))] : va_W)) := ⟨_, rfl⟩
  refine ctr_of (cc := cX10_clear) (own := RX10) (E := fun o => some (enc o)) (o := X10_clear g_way_parts) (by decide) rfl rfl (L := [(0, .ref a_this)]) rfl (Nat.le_of_ble_eq_true rfl) (by rw [hu, henc]) ?_
  intro Z hX hl hG hr
  subst hl; subst hG
  have fl112 : (Cond.fieldLink RX10 112 "OnlyFar$Road" "parts" "I").before (za Z) (zs Z) = true := hX.wd (mcC _ wd_188)
  have fl35 : (Cond.fieldLink RX10 35 "OnlyFar" "way" "LOnlyFar$Road;").before (za Z) (zs Z) = true := hX.wd (mcC _ wd_360)
  have inX10 : ∀ w ∈ u_ws RX10 TX10 12, w ∈ wsX10_clear := fun w h => mcC w (inC_X10 w h)
  have inX5 : ∀ w ∈ u_ws RX5 TX5 2, w ∈ wsX10_clear := fun w h => mcC w (inC_X5 w h)
  unfold X10_clear
  refine rn_aload_n hX dX10_clear_0 0 rfl 1 rfl ?_
  refine rn_get hX inX10 0 rfl rfl 3 (by decide) fl35 rfl rfl dX10_clear_1 4 rfl ?_
  refine rn_get hX inX5 1 rfl rfl 0 (by decide) fl112 rfl rfl dX10_clear_4 7 rfl ?_
  refine rn_istore_n hX dX10_clear_7 1 rfl (by decide) (L' := [(1, .int g_way_parts), (0, .ref a_this)]) rfl 8 rfl ?_
  refine rn_aload_n hX dX10_clear_8 1 rfl 9 rfl ?_
  refine rn_get hX inX10 0 rfl rfl 3 (by decide) fl35 rfl rfl dX10_clear_9 12 rfl ?_
  refine rn_iconst hX dX10_clear_12 13 rfl ic_0 ?_
  refine rn_put hX inX5 tyX5_ok nmX5 1 rfl rfl 0 (by decide) fl112 rfl rfl rfl rfl (Nat.le_of_ble_eq_true rfl) dX10_clear_13 16 rfl (w1 := [(a_this, .inr (10, [.ref a_tape, .ref a_reader, .ref a_table, .ref a_way, .ref a_images, .ref a_sheets, .ref a_flaws, .ref a_sixthOf, .ref a_drawing, .ref a_naming, .int g_lastFault, .int g_lastTear])), (a_way, .inr (5, [.int (0 : Int32), .ref a_way_lengths]))]) rfl ?_
  refine rn_iload_n hX dX10_clear_16 0 rfl 17 rfl ?_
  exact rn_iret hX hr (by rw [henc]) dX10_clear_17
abbrev rmX10_road : Room := { frames := 2, cells := 0, slots := 0, locals := 44 }
theorem hdV_X10_road : yX10_road.cls = RX10 ∧ yX10_road.cls ≠ "java/lang/invoke/MethodHandle" ∧ yX10_road.cls ≠ "java/lang/invoke/VarHandle" ∧ (parseMethodDescriptor yX10_road.desc).map (fun d => d.parameters.length) = some 1 := by decide +kernel
set_option maxHeartbeats 4000000 in
set_option maxRecDepth 100000 in
theorem c_X10_road (l : Launch) (G : GT) (a_this a_way a_way_lengths a_tape a_reader a_table a_images a_sheets a_flaws a_sixthOf a_drawing a_naming : Nat) (g_lastFault : Int32) (g_lastTear : Int32) (g_way_parts : Int32) (g_way_lengths : (Nat → Int32)) (x1 : Int32) {u : Int32} (hu : X10_road x1 g_way_parts g_way_lengths = some u) : Ctr l G yX10_road wsX10_road rmX10_road [.ref a_this, .int x1] [(a_this, .inr (10, [.ref a_tape, .ref a_reader, .ref a_table, .ref a_way, .ref a_images, .ref a_sheets, .ref a_flaws, .ref a_sixthOf, .ref a_drawing, .ref a_naming, .int g_lastFault, .int g_lastTear])), (a_way, .inr (5, [.int g_way_parts, .ref a_way_lengths])), (a_way_lengths, .inl (G.2.1 1, 8, .inl g_way_lengths))] (some (.int u)) [(a_this, .inr (10, [.ref a_tape, .ref a_reader, .ref a_table, .ref a_way, .ref a_images, .ref a_sheets, .ref a_flaws, .ref a_sixthOf, .ref a_drawing, .ref a_naming, .int g_lastFault, .int g_lastTear])), (a_way, .inr (5, [.int g_way_parts, .ref a_way_lengths])), (a_way_lengths, .inl (G.2.1 1, 8, .inl g_way_lengths))] := by
  obtain ⟨enc, henc⟩ : ∃ enc : (Int32) → Option Value × va_W, enc = fun u => (((some (.int u)) : Option Value), ([(a_this, .inr (10, [.ref a_tape, .ref a_reader, .ref a_table, .ref a_way, .ref a_images, .ref a_sheets, .ref a_flaws, .ref a_sixthOf, .ref a_drawing, .ref a_naming, .int g_lastFault, .int g_lastTear])), (a_way, .inr (5, [.int g_way_parts, .ref a_way_lengths])), (a_way_lengths, .inl (G.2.1 1, 8, .inl g_way_lengths))] : va_W)) := ⟨_, rfl⟩
  refine ctr_of (cc := cX10_road) (own := RX10) (E := Option.map enc) (o := X10_road x1 g_way_parts g_way_lengths) (by decide) rfl rfl (L := [(0, .ref a_this), (1, .int x1)]) rfl (Nat.le_of_ble_eq_true rfl) (by rw [hu, henc]; rfl) ?_
  intro Z hX hl hG hr
  subst hl; subst hG
  have fl112 : (Cond.fieldLink RX10 112 "OnlyFar$Road" "parts" "I").before (za Z) (zs Z) = true := hX.wd (mcC _ wd_188)
  have fl35 : (Cond.fieldLink RX10 35 "OnlyFar" "way" "LOnlyFar$Road;").before (za Z) (zs Z) = true := hX.wd (mcC _ wd_360)
  have inX10 : ∀ w ∈ u_ws RX10 TX10 12, w ∈ wsX10_road := fun w h => mcC w (inC_X10 w h)
  have inX5 : ∀ w ∈ u_ws RX5 TX5 2, w ∈ wsX10_road := fun w h => mcC w (inC_X5 w h)
  unfold X10_road
  refine rn_iload_n hX dX10_road_0 1 rfl 1 rfl ?_
  refine rn_if_lt hX dX10_road_1 9 (by decide) 4 rfl ?_ ?_
  · refine rn_iconst hX dX10_road_9 10 rfl ic_m1 ?_
    exact rn_iret hX hr (by rw [henc]; rfl) dX10_road_10
  refine rn_iload_n hX dX10_road_4 1 rfl 5 rfl ?_
  refine rn_iconst hX dX10_road_5 6 rfl ic_1 ?_
  refine rn_icmp_le hX dX10_road_6 11 (by decide) 9 rfl ?_ ?_
  · refine rn_aload_n hX dX10_road_11 0 rfl 12 rfl ?_
    refine rn_get hX inX10 0 rfl rfl 3 (by decide) fl35 rfl rfl dX10_road_12 15 rfl ?_
    refine rn_get hX inX5 1 rfl rfl 0 (by decide) fl112 rfl rfl dX10_road_15 18 rfl ?_
    refine rn_if_ne hX dX10_road_18 24 (by decide) 21 rfl ?_ ?_
    · refine rn_iload_n hX dX10_road_24 1 rfl 25 rfl ?_
      refine rn_if_ne hX dX10_road_25 38 (by decide) 28 rfl ?_ ?_
      · refine rn_aload_n hX dX10_road_38 0 rfl 39 rfl ?_
        refine rn_get hX inX10 0 rfl rfl 3 (by decide) fl35 rfl rfl dX10_road_39 42 rfl ?_
        refine rn_bind (fun u1 hu1 => ?_)
        refine rn_callV0 hX (gV mcC wd_909 wd_906 wd_907 wd_74 wd_908) rfl hdV_X5_farthest rfl rfl ⟨Nat.le_of_ble_eq_true rfl, Nat.le_of_ble_eq_true rfl⟩ (c_X5_farthest (zl Z) (zG Z) a_way a_way_lengths g_way_parts g_way_lengths hu1) rfl [1, 2] rfl rfl (ci := 5) rfl rfl rfl (Nat.le_of_ble_eq_true rfl) dX10_road_42 45 rfl (S' := [.int u1]) rfl ⟨Nat.zero_le _, Nat.zero_le _⟩ ?_
        exact rn_iret hX hr (by rw [henc]; rfl) dX10_road_45
      refine rn_aload_n hX dX10_road_28 0 rfl 29 rfl ?_
      refine rn_get hX inX10 0 rfl rfl 3 (by decide) fl35 rfl rfl dX10_road_29 32 rfl ?_
      refine rn_bind (fun u2 hu2 => ?_)
      refine rn_callV0 hX (gV mcC wd_900 wd_901 wd_902 wd_74 wd_903) rfl hdV_X5_nearest rfl rfl ⟨Nat.le_of_ble_eq_true rfl, Nat.le_of_ble_eq_true rfl⟩ (c_X5_nearest (zl Z) (zG Z) a_way a_way_lengths g_way_parts g_way_lengths hu2) rfl [1, 2] rfl rfl (ci := 5) rfl rfl rfl (Nat.le_of_ble_eq_true rfl) dX10_road_32 35 rfl (S' := [.int u2]) rfl ⟨Nat.zero_le _, Nat.zero_le _⟩ ?_
      refine rn_goto hX dX10_road_35 45 (by decide) ?_
      exact rn_iret hX hr (by rw [henc]; rfl) dX10_road_45
    refine rn_bipush hX dX10_road_21 23 rfl bp_m2 ?_
    exact rn_iret hX hr (by rw [henc]; rfl) dX10_road_23
  refine rn_iconst hX dX10_road_9 10 rfl ic_m1 ?_
  exact rn_iret hX hr (by rw [henc]; rfl) dX10_road_10
abbrev rmX10_reaches : Room := { frames := 2, cells := 0, slots := 0, locals := 44 }
theorem hdV_X10_reaches : yX10_reaches.cls = RX10 ∧ yX10_reaches.cls ≠ "java/lang/invoke/MethodHandle" ∧ yX10_reaches.cls ≠ "java/lang/invoke/VarHandle" ∧ (parseMethodDescriptor yX10_reaches.desc).map (fun d => d.parameters.length) = some 2 := by decide +kernel
set_option maxHeartbeats 4000000 in
set_option maxRecDepth 100000 in
theorem c_X10_reaches (l : Launch) (G : GT) (a_this a_table a_table_squares a_way a_way_lengths a_tape a_reader a_images a_sheets a_flaws a_sixthOf a_drawing a_naming : Nat) (g_lastFault : Int32) (g_lastTear : Int32) (g_table_places : Int32) (g_table_squares : (Nat → Int32)) (g_way_parts : Int32) (g_way_lengths : (Nat → Int32)) (x1 : Int32) (x2 : Int32) {u : Int32} (hu : X10_reaches x1 x2 g_table_places g_table_squares g_way_parts g_way_lengths = some u) : Ctr l G yX10_reaches wsX10_reaches rmX10_reaches [.ref a_this, .int x1, .int x2] [(a_this, .inr (10, [.ref a_tape, .ref a_reader, .ref a_table, .ref a_way, .ref a_images, .ref a_sheets, .ref a_flaws, .ref a_sixthOf, .ref a_drawing, .ref a_naming, .int g_lastFault, .int g_lastTear])), (a_table, .inr (8, [.int g_table_places, .ref a_table_squares])), (a_table_squares, .inl (G.2.1 1, 49, .inl g_table_squares)), (a_way, .inr (5, [.int g_way_parts, .ref a_way_lengths])), (a_way_lengths, .inl (G.2.1 1, 8, .inl g_way_lengths))] (some (.int u)) [(a_this, .inr (10, [.ref a_tape, .ref a_reader, .ref a_table, .ref a_way, .ref a_images, .ref a_sheets, .ref a_flaws, .ref a_sixthOf, .ref a_drawing, .ref a_naming, .int g_lastFault, .int g_lastTear])), (a_table, .inr (8, [.int g_table_places, .ref a_table_squares])), (a_table_squares, .inl (G.2.1 1, 49, .inl g_table_squares)), (a_way, .inr (5, [.int g_way_parts, .ref a_way_lengths])), (a_way_lengths, .inl (G.2.1 1, 8, .inl g_way_lengths))] := by
  obtain ⟨enc, henc⟩ : ∃ enc : (Int32) → Option Value × va_W, enc = fun u => (((some (.int u)) : Option Value), ([(a_this, .inr (10, [.ref a_tape, .ref a_reader, .ref a_table, .ref a_way, .ref a_images, .ref a_sheets, .ref a_flaws, .ref a_sixthOf, .ref a_drawing, .ref a_naming, .int g_lastFault, .int g_lastTear])), (a_table, .inr (8, [.int g_table_places, .ref a_table_squares])), (a_table_squares, .inl (G.2.1 1, 49, .inl g_table_squares)), (a_way, .inr (5, [.int g_way_parts, .ref a_way_lengths])), (a_way_lengths, .inl (G.2.1 1, 8, .inl g_way_lengths))] : va_W)) := ⟨_, rfl⟩
  refine ctr_of (cc := cX10_reaches) (own := RX10) (E := Option.map enc) (o := X10_reaches x1 x2 g_table_places g_table_squares g_way_parts g_way_lengths) (by decide) rfl rfl (L := [(0, .ref a_this), (1, .int x1), (2, .int x2)]) rfl (Nat.le_of_ble_eq_true rfl) (by rw [hu, henc]; rfl) ?_
  intro Z hX hl hG hr
  subst hl; subst hG
  have fl112 : (Cond.fieldLink RX10 112 "OnlyFar$Road" "parts" "I").before (za Z) (zs Z) = true := hX.wd (mcC _ wd_188)
  have fl28 : (Cond.fieldLink RX10 28 "OnlyFar" "table" "LOnlyFar$Table;").before (za Z) (zs Z) = true := hX.wd (mcC _ wd_359)
  have fl35 : (Cond.fieldLink RX10 35 "OnlyFar" "way" "LOnlyFar$Road;").before (za Z) (zs Z) = true := hX.wd (mcC _ wd_360)
  have inX10 : ∀ w ∈ u_ws RX10 TX10 12, w ∈ wsX10_reaches := fun w h => mcC w (inC_X10 w h)
  have inX5 : ∀ w ∈ u_ws RX5 TX5 2, w ∈ wsX10_reaches := fun w h => mcC w (inC_X5 w h)
  have hJ85 : ∀ (s0 : Int32), Rn Z 6 (Option.map enc) 0 0 85 [] [.int s0] [(a_this, .inr (10, [.ref a_tape, .ref a_reader, .ref a_table, .ref a_way, .ref a_images, .ref a_sheets, .ref a_flaws, .ref a_sixthOf, .ref a_drawing, .ref a_naming, .int g_lastFault, .int g_lastTear])), (a_table, .inr (8, [.int g_table_places, .ref a_table_squares])), (a_table_squares, .inl ((zG Z).2.1 1, 49, .inl g_table_squares)), (a_way, .inr (5, [.int g_way_parts, .ref a_way_lengths])), (a_way_lengths, .inl ((zG Z).2.1 1, 8, .inl g_way_lengths))] (X10_reaches_J85 s0) := by
    intro s0
    unfold X10_reaches_J85
    refine rn_callS0 hX (gS mcC wd_601 wd_602 wd_70 wd_603) rfl hdS_X10_bit rfl rfl ⟨Nat.le_of_ble_eq_true rfl, Nat.le_of_ble_eq_true rfl⟩ (c_X10_bit (zl Z) (zG Z) s0 rfl) rfl [] rfl rfl rfl (Nat.le_of_ble_eq_true rfl) dX10_reaches_85 88 rfl (S' := [.int (X10_bit s0)]) rfl ⟨Nat.zero_le _, Nat.zero_le _⟩ ?_
    exact rn_iret hX hr (by rw [henc]; rfl) dX10_reaches_88
  have hJ84 : Rn Z 6 (Option.map enc) 0 0 84 [] [] [(a_this, .inr (10, [.ref a_tape, .ref a_reader, .ref a_table, .ref a_way, .ref a_images, .ref a_sheets, .ref a_flaws, .ref a_sixthOf, .ref a_drawing, .ref a_naming, .int g_lastFault, .int g_lastTear])), (a_table, .inr (8, [.int g_table_places, .ref a_table_squares])), (a_table_squares, .inl ((zG Z).2.1 1, 49, .inl g_table_squares)), (a_way, .inr (5, [.int g_way_parts, .ref a_way_lengths])), (a_way_lengths, .inl ((zG Z).2.1 1, 8, .inl g_way_lengths))] (X10_reaches_J84) := by
    unfold X10_reaches_J84
    refine rn_iconst hX dX10_reaches_84 85 rfl ic_0 ?_
    exact hJ85 (0 : Int32)
  unfold X10_reaches
  refine rn_aload_n hX dX10_reaches_0 0 rfl 1 rfl ?_
  refine rn_get hX inX10 0 rfl rfl 2 (by decide) fl28 rfl rfl dX10_reaches_1 4 rfl ?_
  refine rn_iload_n hX dX10_reaches_4 1 rfl 5 rfl ?_
  refine rn_iload_n hX dX10_reaches_5 2 rfl 6 rfl ?_
  refine rn_callV0 hX (gV mcC wd_537 wd_538 wd_539 wd_73 wd_540) rfl hdV_X8_areTwo rfl rfl ⟨Nat.le_of_ble_eq_true rfl, Nat.le_of_ble_eq_true rfl⟩ (c_X8_areTwo (zl Z) (zG Z) a_table a_table_squares g_table_places x1 x2 rfl) rfl [1] rfl rfl (ci := 8) rfl rfl rfl (Nat.le_of_ble_eq_true rfl) dX10_reaches_6 9 rfl (S' := [.int (X8_areTwo x1 x2 g_table_places)]) rfl ⟨Nat.zero_le _, Nat.zero_le _⟩ ?_
  refine rn_if_ne hX dX10_reaches_9 14 (by decide) 12 rfl ?_ ?_
  · refine rn_aload_n hX dX10_reaches_14 0 rfl 15 rfl ?_
    refine rn_get hX inX10 0 rfl rfl 3 (by decide) fl35 rfl rfl dX10_reaches_15 18 rfl ?_
    refine rn_get hX inX5 3 rfl rfl 0 (by decide) fl112 rfl rfl dX10_reaches_18 21 rfl ?_
    refine rn_if_ne hX dX10_reaches_21 27 (by decide) 24 rfl ?_ ?_
    · refine rn_aload_n hX dX10_reaches_27 0 rfl 28 rfl ?_
      refine rn_get hX inX10 0 rfl rfl 2 (by decide) fl28 rfl rfl dX10_reaches_28 31 rfl ?_
      refine rn_iload_n hX dX10_reaches_31 1 rfl 32 rfl ?_
      refine rn_iload_n hX dX10_reaches_32 2 rfl 33 rfl ?_
      refine rn_bind (fun u1 hu1 => ?_)
      refine rn_callV0 hX (gV mcC wd_714 wd_512 wd_513 wd_73 wd_514) rfl hdV_X8_square rfl rfl ⟨Nat.le_of_ble_eq_true rfl, Nat.le_of_ble_eq_true rfl⟩ (c_X8_square (zl Z) (zG Z) a_table a_table_squares g_table_places g_table_squares x1 x2 hu1) rfl [1, 2] rfl rfl (ci := 8) rfl rfl rfl (Nat.le_of_ble_eq_true rfl) dX10_reaches_33 36 rfl (S' := [.int u1]) rfl ⟨Nat.zero_le _, Nat.zero_le _⟩ ?_
      refine rn_istore_n hX dX10_reaches_36 3 rfl (by decide) (L' := [(3, .int u1), (0, .ref a_this), (1, .int x1), (2, .int x2)]) rfl 37 rfl ?_
      refine rn_iload_n hX dX10_reaches_37 0 rfl 38 rfl ?_
      refine rn_if_ne hX dX10_reaches_38 44 (by decide) 41 rfl ?_ ?_
      · refine rn_aload_n hX dX10_reaches_44 1 rfl 45 rfl ?_
        refine rn_get hX inX10 0 rfl rfl 3 (by decide) fl35 rfl rfl dX10_reaches_45 48 rfl ?_
        refine rn_bind (fun u2 hu2 => ?_)
        refine rn_callV0 hX (gV mcC wd_900 wd_901 wd_902 wd_74 wd_903) rfl hdV_X5_nearest rfl rfl ⟨Nat.le_of_ble_eq_true rfl, Nat.le_of_ble_eq_true rfl⟩ (c_X5_nearest (zl Z) (zG Z) a_way a_way_lengths g_way_parts g_way_lengths hu2) rfl [3, 4] rfl rfl (ci := 5) rfl rfl rfl (Nat.le_of_ble_eq_true rfl) dX10_reaches_48 51 rfl (S' := [.int u2]) rfl ⟨Nat.zero_le _, Nat.zero_le _⟩ ?_
        refine rn_istore hX dX10_reaches_51 (by decide) (L' := [(4, .int u2), (3, .int u1), (0, .ref a_this), (1, .int x1), (2, .int x2)]) rfl 53 rfl ?_
        refine rn_aload_n hX dX10_reaches_53 2 rfl 54 rfl ?_
        refine rn_get hX inX10 0 rfl rfl 3 (by decide) fl35 rfl rfl dX10_reaches_54 57 rfl ?_
        refine rn_bind (fun u3 hu3 => ?_)
        refine rn_callV0 hX (gV mcC wd_909 wd_906 wd_907 wd_74 wd_908) rfl hdV_X5_farthest rfl rfl ⟨Nat.le_of_ble_eq_true rfl, Nat.le_of_ble_eq_true rfl⟩ (c_X5_farthest (zl Z) (zG Z) a_way a_way_lengths g_way_parts g_way_lengths hu3) rfl [3, 4] rfl rfl (ci := 5) rfl rfl rfl (Nat.le_of_ble_eq_true rfl) dX10_reaches_57 60 rfl (S' := [.int u3]) rfl ⟨Nat.zero_le _, Nat.zero_le _⟩ ?_
        refine rn_istore hX dX10_reaches_60 (by decide) (L' := [(5, .int u3), (4, .int u2), (3, .int u1), (0, .ref a_this), (1, .int x1), (2, .int x2)]) rfl 62 rfl ?_
        refine rn_iload_n hX dX10_reaches_62 2 rfl 63 rfl ?_
        refine rn_iload hX dX10_reaches_63 1 rfl 65 rfl ?_
        refine rn_iload hX dX10_reaches_65 1 rfl 67 rfl ?_
        refine rn_imul hX dX10_reaches_67 68 rfl ?_
        refine rn_icmp_lt hX dX10_reaches_68 84 (by decide) 71 rfl ?_ ?_
        · refine rn_sub [] rfl ?_
          exact hJ84
        refine rn_iload_n hX dX10_reaches_71 2 rfl 72 rfl ?_
        refine rn_iload hX dX10_reaches_72 0 rfl 74 rfl ?_
        refine rn_iload hX dX10_reaches_74 0 rfl 76 rfl ?_
        refine rn_imul hX dX10_reaches_76 77 rfl ?_
        refine rn_icmp_gt hX dX10_reaches_77 84 (by decide) 80 rfl ?_ ?_
        · refine rn_sub [] rfl ?_
          exact hJ84
        refine rn_iconst hX dX10_reaches_80 81 rfl ic_1 ?_
        refine rn_goto hX dX10_reaches_81 85 (by decide) ?_
        refine rn_sub [] rfl ?_
        exact hJ85 (1 : Int32)
      refine rn_bipush hX dX10_reaches_41 43 rfl bp_m4 ?_
      exact rn_iret hX hr (by rw [henc]; rfl) dX10_reaches_43
    refine rn_bipush hX dX10_reaches_24 26 rfl bp_m2 ?_
    exact rn_iret hX hr (by rw [henc]; rfl) dX10_reaches_26
  refine rn_iconst hX dX10_reaches_12 13 rfl ic_m1 ?_
  exact rn_iret hX hr (by rw [henc]; rfl) dX10_reaches_13
abbrev rmX10_keep : Room := { frames := 2, cells := 0, slots := 0, locals := 81 }
theorem hdV_X10_keep : yX10_keep.cls = RX10 ∧ yX10_keep.cls ≠ "java/lang/invoke/MethodHandle" ∧ yX10_keep.cls ≠ "java/lang/invoke/VarHandle" ∧ (parseMethodDescriptor yX10_keep.desc).map (fun d => d.parameters.length) = some 1 := by decide +kernel
set_option maxHeartbeats 4000000 in
set_option maxRecDepth 100000 in
theorem c_X10_keep (l : Launch) (G : GT) (a_this a_images a_images_0 a_images_0_table a_images_0_table_squares a_images_0_way a_images_0_way_lengths a_images_1 a_images_1_table a_images_1_table_squares a_images_1_way a_images_1_way_lengths a_table a_table_squares a_way a_way_lengths a_tape a_reader a_sheets a_flaws a_sixthOf a_drawing a_naming : Nat) (g_lastFault : Int32) (g_lastTear : Int32) (g_images_0_kept : Int32) (g_images_0_table_places : Int32) (g_images_0_table_squares : (Nat → Int32)) (g_images_0_way_parts : Int32) (g_images_0_way_lengths : (Nat → Int32)) (g_images_1_kept : Int32) (g_images_1_table_places : Int32) (g_images_1_table_squares : (Nat → Int32)) (g_images_1_way_parts : Int32) (g_images_1_way_lengths : (Nat → Int32)) (g_table_places : Int32) (g_table_squares : (Nat → Int32)) (g_way_parts : Int32) (g_way_lengths : (Nat → Int32)) (x1 : Int32) {u : Int32 × Int32 × Int32 × (Nat → Int32) × Int32 × (Nat → Int32) × Int32 × Int32 × (Nat → Int32) × Int32 × (Nat → Int32)} (hu : X10_keep x1 g_images_0_kept g_images_0_table_places g_images_0_table_squares g_images_0_way_parts g_images_0_way_lengths g_images_1_kept g_images_1_table_places g_images_1_table_squares g_images_1_way_parts g_images_1_way_lengths g_table_places g_table_squares g_way_parts g_way_lengths = some u) : Ctr l G yX10_keep wsX10_keep rmX10_keep [.ref a_this, .int x1] [(a_this, .inr (10, [.ref a_tape, .ref a_reader, .ref a_table, .ref a_way, .ref a_images, .ref a_sheets, .ref a_flaws, .ref a_sixthOf, .ref a_drawing, .ref a_naming, .int g_lastFault, .int g_lastTear])), (a_images, .inl (G.2.1 3, 2, .inr (.inr (.inr (.inr (rf2 a_images_0 a_images_1)))))), (a_images_0, .inr (2, [.int g_images_0_kept, .ref a_images_0_table, .ref a_images_0_way])), (a_images_0_table, .inr (8, [.int g_images_0_table_places, .ref a_images_0_table_squares])), (a_images_0_table_squares, .inl (G.2.1 1, 49, .inl g_images_0_table_squares)), (a_images_0_way, .inr (5, [.int g_images_0_way_parts, .ref a_images_0_way_lengths])), (a_images_0_way_lengths, .inl (G.2.1 1, 8, .inl g_images_0_way_lengths)), (a_images_1, .inr (2, [.int g_images_1_kept, .ref a_images_1_table, .ref a_images_1_way])), (a_images_1_table, .inr (8, [.int g_images_1_table_places, .ref a_images_1_table_squares])), (a_images_1_table_squares, .inl (G.2.1 1, 49, .inl g_images_1_table_squares)), (a_images_1_way, .inr (5, [.int g_images_1_way_parts, .ref a_images_1_way_lengths])), (a_images_1_way_lengths, .inl (G.2.1 1, 8, .inl g_images_1_way_lengths)), (a_table, .inr (8, [.int g_table_places, .ref a_table_squares])), (a_table_squares, .inl (G.2.1 1, 49, .inl g_table_squares)), (a_way, .inr (5, [.int g_way_parts, .ref a_way_lengths])), (a_way_lengths, .inl (G.2.1 1, 8, .inl g_way_lengths))] (some (.int u.1)) [(a_this, .inr (10, [.ref a_tape, .ref a_reader, .ref a_table, .ref a_way, .ref a_images, .ref a_sheets, .ref a_flaws, .ref a_sixthOf, .ref a_drawing, .ref a_naming, .int g_lastFault, .int g_lastTear])), (a_images, .inl (G.2.1 3, 2, .inr (.inr (.inr (.inr (rf2 a_images_0 a_images_1)))))), (a_images_0, .inr (2, [.int u.2.1, .ref a_images_0_table, .ref a_images_0_way])), (a_images_0_table, .inr (8, [.int u.2.2.1, .ref a_images_0_table_squares])), (a_images_0_table_squares, .inl (G.2.1 1, 49, .inl u.2.2.2.1)), (a_images_0_way, .inr (5, [.int u.2.2.2.2.1, .ref a_images_0_way_lengths])), (a_images_0_way_lengths, .inl (G.2.1 1, 8, .inl u.2.2.2.2.2.1)), (a_images_1, .inr (2, [.int u.2.2.2.2.2.2.1, .ref a_images_1_table, .ref a_images_1_way])), (a_images_1_table, .inr (8, [.int u.2.2.2.2.2.2.2.1, .ref a_images_1_table_squares])), (a_images_1_table_squares, .inl (G.2.1 1, 49, .inl u.2.2.2.2.2.2.2.2.1)), (a_images_1_way, .inr (5, [.int u.2.2.2.2.2.2.2.2.2.1, .ref a_images_1_way_lengths])), (a_images_1_way_lengths, .inl (G.2.1 1, 8, .inl u.2.2.2.2.2.2.2.2.2.2)), (a_table, .inr (8, [.int g_table_places, .ref a_table_squares])), (a_table_squares, .inl (G.2.1 1, 49, .inl g_table_squares)), (a_way, .inr (5, [.int g_way_parts, .ref a_way_lengths])), (a_way_lengths, .inl (G.2.1 1, 8, .inl g_way_lengths))] := by
  obtain ⟨enc, henc⟩ : ∃ enc : (Int32 × Int32 × Int32 × (Nat → Int32) × Int32 × (Nat → Int32) × Int32 × Int32 × (Nat → Int32) × Int32 × (Nat → Int32)) → Option Value × va_W, enc = fun u => (((some (.int u.1)) : Option Value), ([(a_this, .inr (10, [.ref a_tape, .ref a_reader, .ref a_table, .ref a_way, .ref a_images, .ref a_sheets, .ref a_flaws, .ref a_sixthOf, .ref a_drawing, .ref a_naming, .int g_lastFault, .int g_lastTear])), (a_images, .inl (G.2.1 3, 2, .inr (.inr (.inr (.inr (rf2 a_images_0 a_images_1)))))), (a_images_0, .inr (2, [.int u.2.1, .ref a_images_0_table, .ref a_images_0_way])), (a_images_0_table, .inr (8, [.int u.2.2.1, .ref a_images_0_table_squares])), (a_images_0_table_squares, .inl (G.2.1 1, 49, .inl u.2.2.2.1)), (a_images_0_way, .inr (5, [.int u.2.2.2.2.1, .ref a_images_0_way_lengths])), (a_images_0_way_lengths, .inl (G.2.1 1, 8, .inl u.2.2.2.2.2.1)), (a_images_1, .inr (2, [.int u.2.2.2.2.2.2.1, .ref a_images_1_table, .ref a_images_1_way])), (a_images_1_table, .inr (8, [.int u.2.2.2.2.2.2.2.1, .ref a_images_1_table_squares])), (a_images_1_table_squares, .inl (G.2.1 1, 49, .inl u.2.2.2.2.2.2.2.2.1)), (a_images_1_way, .inr (5, [.int u.2.2.2.2.2.2.2.2.2.1, .ref a_images_1_way_lengths])), (a_images_1_way_lengths, .inl (G.2.1 1, 8, .inl u.2.2.2.2.2.2.2.2.2.2)), (a_table, .inr (8, [.int g_table_places, .ref a_table_squares])), (a_table_squares, .inl (G.2.1 1, 49, .inl g_table_squares)), (a_way, .inr (5, [.int g_way_parts, .ref a_way_lengths])), (a_way_lengths, .inl (G.2.1 1, 8, .inl g_way_lengths))] : va_W)) := ⟨_, rfl⟩
  refine ctr_of (cc := cX10_keep) (own := RX10) (E := Option.map enc) (o := X10_keep x1 g_images_0_kept g_images_0_table_places g_images_0_table_squares g_images_0_way_parts g_images_0_way_lengths g_images_1_kept g_images_1_table_places g_images_1_table_squares g_images_1_way_parts g_images_1_way_lengths g_table_places g_table_squares g_way_parts g_way_lengths) (by decide) rfl rfl (L := [(0, .ref a_this), (1, .int x1)]) rfl (Nat.le_of_ble_eq_true rfl) (by rw [hu, henc]; rfl) ?_
  intro Z hX hl hG hr
  subst hl; subst hG
  have fl115 : (Cond.fieldLink RX10 115 "OnlyFar$Image" "kept" "Z").before (za Z) (zs Z) = true := hX.wd (mcC _ wd_207)
  have fl28 : (Cond.fieldLink RX10 28 "OnlyFar" "table" "LOnlyFar$Table;").before (za Z) (zs Z) = true := hX.wd (mcC _ wd_359)
  have fl303 : (Cond.fieldLink RX10 303 "OnlyFar$Image" "table" "LOnlyFar$Table;").before (za Z) (zs Z) = true := hX.wd (mcC _ wd_209)
  have fl322 : (Cond.fieldLink RX10 322 "OnlyFar$Image" "way" "LOnlyFar$Road;").before (za Z) (zs Z) = true := hX.wd (mcC _ wd_211)
  have fl35 : (Cond.fieldLink RX10 35 "OnlyFar" "way" "LOnlyFar$Road;").before (za Z) (zs Z) = true := hX.wd (mcC _ wd_360)
  have fl41 : (Cond.fieldLink RX10 41 "OnlyFar" "images" "[LOnlyFar$Image;").before (za Z) (zs Z) = true := hX.wd (mcC _ wd_361)
  have inX10 : ∀ w ∈ u_ws RX10 TX10 12, w ∈ wsX10_keep := fun w h => mcC w (inC_X10 w h)
  have inX2 : ∀ w ∈ u_ws RX2 TX2 3, w ∈ wsX10_keep := fun w h => mcC w (inC_X2 w h)
  unfold X10_keep
  refine rn_iload_n hX dX10_keep_0 1 rfl 1 rfl ?_
  refine rn_callS0 hX (gS mcC wd_862 wd_863 wd_70 wd_864) rfl hdS_X10_isImage rfl rfl ⟨Nat.le_of_ble_eq_true rfl, Nat.le_of_ble_eq_true rfl⟩ (c_X10_isImage (zl Z) (zG Z) x1 rfl) rfl [] rfl rfl rfl (Nat.le_of_ble_eq_true rfl) dX10_keep_1 4 rfl (S' := [.int (X10_isImage x1)]) rfl ⟨Nat.zero_le _, Nat.zero_le _⟩ ?_
  refine rn_if_ne hX dX10_keep_4 9 (by decide) 7 rfl ?_ ?_
  · refine rn_aload_n hX dX10_keep_9 0 rfl 10 rfl ?_
    refine rn_get hX inX10 0 rfl rfl 4 (by decide) fl41 rfl rfl dX10_keep_10 13 rfl ?_
    refine rn_iload_n hX dX10_keep_13 1 rfl 14 rfl ?_
    by_cases he14_0 : x1 = (0 : Int32)
    · rw [if_pos he14_0]
      refine rn_aald hX (t0 := 3) (n := 2) (f := rf2 a_images_0 a_images_1) 1 rfl rfl he14_0 (vpk (by decide)) rfl dX10_keep_14 15 rfl ?_
      refine rn_astore_n hX dX10_keep_15 2 rfl (by decide) (L' := [(2, .ref a_images_0), (0, .ref a_this), (1, .int x1)]) rfl 16 rfl ?_
      refine rn_aload_n hX dX10_keep_16 0 rfl 17 rfl ?_
      refine rn_get hX inX2 2 rfl rfl 0 (by decide) fl115 rfl rfl dX10_keep_17 20 rfl ?_
      refine rn_callS0 hX (gS mcC wd_601 wd_602 wd_70 wd_603) rfl hdS_X10_bit rfl rfl ⟨Nat.le_of_ble_eq_true rfl, Nat.le_of_ble_eq_true rfl⟩ (c_X10_bit (zl Z) (zG Z) g_images_0_kept rfl) rfl [] rfl rfl rfl (Nat.le_of_ble_eq_true rfl) dX10_keep_20 23 rfl (S' := [.int (X10_bit g_images_0_kept)]) rfl ⟨Nat.zero_le _, Nat.zero_le _⟩ ?_
      refine rn_lati (fun v1 => ?_)
      refine rn_istore_n hX dX10_keep_23 3 rfl (by decide) (L' := [(3, .int v1), (2, .ref a_images_0), (0, .ref a_this), (1, .int x1)]) rfl 24 rfl ?_
      refine rn_aload_n hX dX10_keep_24 1 rfl 25 rfl ?_
      refine rn_get hX inX2 2 rfl rfl 1 (by decide) fl303 rfl rfl dX10_keep_25 28 rfl ?_
      refine rn_aload_n hX dX10_keep_28 2 rfl 29 rfl ?_
      refine rn_get hX inX10 0 rfl rfl 2 (by decide) fl28 rfl rfl dX10_keep_29 32 rfl ?_
      refine rn_lat (fun u2 hu2 => ?_)
      refine rn_callV hX (gV mcC wd_522 wd_523 wd_524 wd_73 wd_525) rfl hdV_X8_copyFrom rfl rfl ⟨Nat.le_of_ble_eq_true rfl, Nat.le_of_ble_eq_true rfl⟩ (c_X8_copyFrom (zl Z) (zG Z) a_images_0_table a_images_0_table_squares a_table a_table_squares g_images_0_table_places g_images_0_table_squares g_table_places g_table_squares hu2) rfl [3, 4, 12, 13] rfl rfl rfl (ci := 8) rfl rfl rfl (Nat.le_of_ble_eq_true rfl) dX10_keep_32 35 rfl (wn := [(a_this, .inr (10, [.ref a_tape, .ref a_reader, .ref a_table, .ref a_way, .ref a_images, .ref a_sheets, .ref a_flaws, .ref a_sixthOf, .ref a_drawing, .ref a_naming, .int g_lastFault, .int g_lastTear])), (a_images, .inl ((zG Z).2.1 3, 2, .inr (.inr (.inr (.inr (rf2 a_images_0 a_images_1)))))), (a_images_0, .inr (2, [.int g_images_0_kept, .ref a_images_0_table, .ref a_images_0_way])), (a_images_0_table, .inr (8, [.int u2.1, .ref a_images_0_table_squares])), (a_images_0_table_squares, .inl ((zG Z).2.1 1, 49, .inl u2.2)), (a_images_0_way, .inr (5, [.int g_images_0_way_parts, .ref a_images_0_way_lengths])), (a_images_0_way_lengths, .inl ((zG Z).2.1 1, 8, .inl g_images_0_way_lengths)), (a_images_1, .inr (2, [.int g_images_1_kept, .ref a_images_1_table, .ref a_images_1_way])), (a_images_1_table, .inr (8, [.int g_images_1_table_places, .ref a_images_1_table_squares])), (a_images_1_table_squares, .inl ((zG Z).2.1 1, 49, .inl g_images_1_table_squares)), (a_images_1_way, .inr (5, [.int g_images_1_way_parts, .ref a_images_1_way_lengths])), (a_images_1_way_lengths, .inl ((zG Z).2.1 1, 8, .inl g_images_1_way_lengths)), (a_table, .inr (8, [.int g_table_places, .ref a_table_squares])), (a_table_squares, .inl ((zG Z).2.1 1, 49, .inl g_table_squares)), (a_way, .inr (5, [.int g_way_parts, .ref a_way_lengths])), (a_way_lengths, .inl ((zG Z).2.1 1, 8, .inl g_way_lengths))]) rfl (S' := []) rfl ⟨Nat.zero_le _, Nat.zero_le _⟩ ?_
      refine rn_aload_n hX dX10_keep_35 1 rfl 36 rfl ?_
      refine rn_get hX inX2 2 rfl rfl 2 (by decide) fl322 rfl rfl dX10_keep_36 39 rfl ?_
      refine rn_aload_n hX dX10_keep_39 2 rfl 40 rfl ?_
      refine rn_get hX inX10 0 rfl rfl 3 (by decide) fl35 rfl rfl dX10_keep_40 43 rfl ?_
      refine rn_lat (fun u3 hu3 => ?_)
      refine rn_callV hX (gV mcC wd_918 wd_919 wd_920 wd_74 wd_921) rfl hdV_X5_copyFrom rfl rfl ⟨Nat.le_of_ble_eq_true rfl, Nat.le_of_ble_eq_true rfl⟩ (c_X5_copyFrom (zl Z) (zG Z) a_images_0_way a_images_0_way_lengths a_way a_way_lengths g_images_0_way_parts g_images_0_way_lengths g_way_parts g_way_lengths hu3) rfl [5, 6, 14, 15] rfl rfl rfl (ci := 5) rfl rfl rfl (Nat.le_of_ble_eq_true rfl) dX10_keep_43 46 rfl (wn := [(a_this, .inr (10, [.ref a_tape, .ref a_reader, .ref a_table, .ref a_way, .ref a_images, .ref a_sheets, .ref a_flaws, .ref a_sixthOf, .ref a_drawing, .ref a_naming, .int g_lastFault, .int g_lastTear])), (a_images, .inl ((zG Z).2.1 3, 2, .inr (.inr (.inr (.inr (rf2 a_images_0 a_images_1)))))), (a_images_0, .inr (2, [.int g_images_0_kept, .ref a_images_0_table, .ref a_images_0_way])), (a_images_0_table, .inr (8, [.int u2.1, .ref a_images_0_table_squares])), (a_images_0_table_squares, .inl ((zG Z).2.1 1, 49, .inl u2.2)), (a_images_0_way, .inr (5, [.int u3.1, .ref a_images_0_way_lengths])), (a_images_0_way_lengths, .inl ((zG Z).2.1 1, 8, .inl u3.2)), (a_images_1, .inr (2, [.int g_images_1_kept, .ref a_images_1_table, .ref a_images_1_way])), (a_images_1_table, .inr (8, [.int g_images_1_table_places, .ref a_images_1_table_squares])), (a_images_1_table_squares, .inl ((zG Z).2.1 1, 49, .inl g_images_1_table_squares)), (a_images_1_way, .inr (5, [.int g_images_1_way_parts, .ref a_images_1_way_lengths])), (a_images_1_way_lengths, .inl ((zG Z).2.1 1, 8, .inl g_images_1_way_lengths)), (a_table, .inr (8, [.int g_table_places, .ref a_table_squares])), (a_table_squares, .inl ((zG Z).2.1 1, 49, .inl g_table_squares)), (a_way, .inr (5, [.int g_way_parts, .ref a_way_lengths])), (a_way_lengths, .inl ((zG Z).2.1 1, 8, .inl g_way_lengths))]) rfl (S' := []) rfl ⟨Nat.zero_le _, Nat.zero_le _⟩ ?_
      refine rn_aload_n hX dX10_keep_46 1 rfl 47 rfl ?_
      refine rn_iconst hX dX10_keep_47 48 rfl ic_1 ?_
      refine rn_put hX inX2 tyX2_ok nmX2 2 rfl rfl 0 (by decide) fl115 rfl rfl rfl rfl (Nat.le_of_ble_eq_true rfl) dX10_keep_48 51 rfl (w1 := [(a_this, .inr (10, [.ref a_tape, .ref a_reader, .ref a_table, .ref a_way, .ref a_images, .ref a_sheets, .ref a_flaws, .ref a_sixthOf, .ref a_drawing, .ref a_naming, .int g_lastFault, .int g_lastTear])), (a_images, .inl ((zG Z).2.1 3, 2, .inr (.inr (.inr (.inr (rf2 a_images_0 a_images_1)))))), (a_images_0, .inr (2, [.int (1 : Int32), .ref a_images_0_table, .ref a_images_0_way])), (a_images_0_table, .inr (8, [.int u2.1, .ref a_images_0_table_squares])), (a_images_0_table_squares, .inl ((zG Z).2.1 1, 49, .inl u2.2)), (a_images_0_way, .inr (5, [.int u3.1, .ref a_images_0_way_lengths])), (a_images_0_way_lengths, .inl ((zG Z).2.1 1, 8, .inl u3.2)), (a_images_1, .inr (2, [.int g_images_1_kept, .ref a_images_1_table, .ref a_images_1_way])), (a_images_1_table, .inr (8, [.int g_images_1_table_places, .ref a_images_1_table_squares])), (a_images_1_table_squares, .inl ((zG Z).2.1 1, 49, .inl g_images_1_table_squares)), (a_images_1_way, .inr (5, [.int g_images_1_way_parts, .ref a_images_1_way_lengths])), (a_images_1_way_lengths, .inl ((zG Z).2.1 1, 8, .inl g_images_1_way_lengths)), (a_table, .inr (8, [.int g_table_places, .ref a_table_squares])), (a_table_squares, .inl ((zG Z).2.1 1, 49, .inl g_table_squares)), (a_way, .inr (5, [.int g_way_parts, .ref a_way_lengths])), (a_way_lengths, .inl ((zG Z).2.1 1, 8, .inl g_way_lengths))]) rfl ?_
      refine rn_iload_n hX dX10_keep_51 0 rfl 52 rfl ?_
      exact rn_iret hX hr (by rw [henc]; rfl) dX10_keep_52
    rw [if_neg he14_0]
    by_cases he14_1 : x1 = (1 : Int32)
    · rw [if_pos he14_1]
      refine rn_aald hX (t0 := 3) (n := 2) (f := rf2 a_images_0 a_images_1) 1 rfl rfl he14_1 (vpk (by decide)) rfl dX10_keep_14 15 rfl ?_
      refine rn_astore_n hX dX10_keep_15 2 rfl (by decide) (L' := [(2, .ref a_images_1), (0, .ref a_this), (1, .int x1)]) rfl 16 rfl ?_
      refine rn_aload_n hX dX10_keep_16 0 rfl 17 rfl ?_
      refine rn_get hX inX2 7 rfl rfl 0 (by decide) fl115 rfl rfl dX10_keep_17 20 rfl ?_
      refine rn_callS0 hX (gS mcC wd_601 wd_602 wd_70 wd_603) rfl hdS_X10_bit rfl rfl ⟨Nat.le_of_ble_eq_true rfl, Nat.le_of_ble_eq_true rfl⟩ (c_X10_bit (zl Z) (zG Z) g_images_1_kept rfl) rfl [] rfl rfl rfl (Nat.le_of_ble_eq_true rfl) dX10_keep_20 23 rfl (S' := [.int (X10_bit g_images_1_kept)]) rfl ⟨Nat.zero_le _, Nat.zero_le _⟩ ?_
      refine rn_lati (fun v4 => ?_)
      refine rn_istore_n hX dX10_keep_23 3 rfl (by decide) (L' := [(3, .int v4), (2, .ref a_images_1), (0, .ref a_this), (1, .int x1)]) rfl 24 rfl ?_
      refine rn_aload_n hX dX10_keep_24 1 rfl 25 rfl ?_
      refine rn_get hX inX2 7 rfl rfl 1 (by decide) fl303 rfl rfl dX10_keep_25 28 rfl ?_
      refine rn_aload_n hX dX10_keep_28 2 rfl 29 rfl ?_
      refine rn_get hX inX10 0 rfl rfl 2 (by decide) fl28 rfl rfl dX10_keep_29 32 rfl ?_
      refine rn_lat (fun u5 hu5 => ?_)
      refine rn_callV hX (gV mcC wd_522 wd_523 wd_524 wd_73 wd_525) rfl hdV_X8_copyFrom rfl rfl ⟨Nat.le_of_ble_eq_true rfl, Nat.le_of_ble_eq_true rfl⟩ (c_X8_copyFrom (zl Z) (zG Z) a_images_1_table a_images_1_table_squares a_table a_table_squares g_images_1_table_places g_images_1_table_squares g_table_places g_table_squares hu5) rfl [8, 9, 12, 13] rfl rfl rfl (ci := 8) rfl rfl rfl (Nat.le_of_ble_eq_true rfl) dX10_keep_32 35 rfl (wn := [(a_this, .inr (10, [.ref a_tape, .ref a_reader, .ref a_table, .ref a_way, .ref a_images, .ref a_sheets, .ref a_flaws, .ref a_sixthOf, .ref a_drawing, .ref a_naming, .int g_lastFault, .int g_lastTear])), (a_images, .inl ((zG Z).2.1 3, 2, .inr (.inr (.inr (.inr (rf2 a_images_0 a_images_1)))))), (a_images_0, .inr (2, [.int g_images_0_kept, .ref a_images_0_table, .ref a_images_0_way])), (a_images_0_table, .inr (8, [.int g_images_0_table_places, .ref a_images_0_table_squares])), (a_images_0_table_squares, .inl ((zG Z).2.1 1, 49, .inl g_images_0_table_squares)), (a_images_0_way, .inr (5, [.int g_images_0_way_parts, .ref a_images_0_way_lengths])), (a_images_0_way_lengths, .inl ((zG Z).2.1 1, 8, .inl g_images_0_way_lengths)), (a_images_1, .inr (2, [.int g_images_1_kept, .ref a_images_1_table, .ref a_images_1_way])), (a_images_1_table, .inr (8, [.int u5.1, .ref a_images_1_table_squares])), (a_images_1_table_squares, .inl ((zG Z).2.1 1, 49, .inl u5.2)), (a_images_1_way, .inr (5, [.int g_images_1_way_parts, .ref a_images_1_way_lengths])), (a_images_1_way_lengths, .inl ((zG Z).2.1 1, 8, .inl g_images_1_way_lengths)), (a_table, .inr (8, [.int g_table_places, .ref a_table_squares])), (a_table_squares, .inl ((zG Z).2.1 1, 49, .inl g_table_squares)), (a_way, .inr (5, [.int g_way_parts, .ref a_way_lengths])), (a_way_lengths, .inl ((zG Z).2.1 1, 8, .inl g_way_lengths))]) rfl (S' := []) rfl ⟨Nat.zero_le _, Nat.zero_le _⟩ ?_
      refine rn_aload_n hX dX10_keep_35 1 rfl 36 rfl ?_
      refine rn_get hX inX2 7 rfl rfl 2 (by decide) fl322 rfl rfl dX10_keep_36 39 rfl ?_
      refine rn_aload_n hX dX10_keep_39 2 rfl 40 rfl ?_
      refine rn_get hX inX10 0 rfl rfl 3 (by decide) fl35 rfl rfl dX10_keep_40 43 rfl ?_
      refine rn_lat (fun u6 hu6 => ?_)
      refine rn_callV hX (gV mcC wd_918 wd_919 wd_920 wd_74 wd_921) rfl hdV_X5_copyFrom rfl rfl ⟨Nat.le_of_ble_eq_true rfl, Nat.le_of_ble_eq_true rfl⟩ (c_X5_copyFrom (zl Z) (zG Z) a_images_1_way a_images_1_way_lengths a_way a_way_lengths g_images_1_way_parts g_images_1_way_lengths g_way_parts g_way_lengths hu6) rfl [10, 11, 14, 15] rfl rfl rfl (ci := 5) rfl rfl rfl (Nat.le_of_ble_eq_true rfl) dX10_keep_43 46 rfl (wn := [(a_this, .inr (10, [.ref a_tape, .ref a_reader, .ref a_table, .ref a_way, .ref a_images, .ref a_sheets, .ref a_flaws, .ref a_sixthOf, .ref a_drawing, .ref a_naming, .int g_lastFault, .int g_lastTear])), (a_images, .inl ((zG Z).2.1 3, 2, .inr (.inr (.inr (.inr (rf2 a_images_0 a_images_1)))))), (a_images_0, .inr (2, [.int g_images_0_kept, .ref a_images_0_table, .ref a_images_0_way])), (a_images_0_table, .inr (8, [.int g_images_0_table_places, .ref a_images_0_table_squares])), (a_images_0_table_squares, .inl ((zG Z).2.1 1, 49, .inl g_images_0_table_squares)), (a_images_0_way, .inr (5, [.int g_images_0_way_parts, .ref a_images_0_way_lengths])), (a_images_0_way_lengths, .inl ((zG Z).2.1 1, 8, .inl g_images_0_way_lengths)), (a_images_1, .inr (2, [.int g_images_1_kept, .ref a_images_1_table, .ref a_images_1_way])), (a_images_1_table, .inr (8, [.int u5.1, .ref a_images_1_table_squares])), (a_images_1_table_squares, .inl ((zG Z).2.1 1, 49, .inl u5.2)), (a_images_1_way, .inr (5, [.int u6.1, .ref a_images_1_way_lengths])), (a_images_1_way_lengths, .inl ((zG Z).2.1 1, 8, .inl u6.2)), (a_table, .inr (8, [.int g_table_places, .ref a_table_squares])), (a_table_squares, .inl ((zG Z).2.1 1, 49, .inl g_table_squares)), (a_way, .inr (5, [.int g_way_parts, .ref a_way_lengths])), (a_way_lengths, .inl ((zG Z).2.1 1, 8, .inl g_way_lengths))]) rfl (S' := []) rfl ⟨Nat.zero_le _, Nat.zero_le _⟩ ?_
      refine rn_aload_n hX dX10_keep_46 1 rfl 47 rfl ?_
      refine rn_iconst hX dX10_keep_47 48 rfl ic_1 ?_
      refine rn_put hX inX2 tyX2_ok nmX2 7 rfl rfl 0 (by decide) fl115 rfl rfl rfl rfl (Nat.le_of_ble_eq_true rfl) dX10_keep_48 51 rfl (w1 := [(a_this, .inr (10, [.ref a_tape, .ref a_reader, .ref a_table, .ref a_way, .ref a_images, .ref a_sheets, .ref a_flaws, .ref a_sixthOf, .ref a_drawing, .ref a_naming, .int g_lastFault, .int g_lastTear])), (a_images, .inl ((zG Z).2.1 3, 2, .inr (.inr (.inr (.inr (rf2 a_images_0 a_images_1)))))), (a_images_0, .inr (2, [.int g_images_0_kept, .ref a_images_0_table, .ref a_images_0_way])), (a_images_0_table, .inr (8, [.int g_images_0_table_places, .ref a_images_0_table_squares])), (a_images_0_table_squares, .inl ((zG Z).2.1 1, 49, .inl g_images_0_table_squares)), (a_images_0_way, .inr (5, [.int g_images_0_way_parts, .ref a_images_0_way_lengths])), (a_images_0_way_lengths, .inl ((zG Z).2.1 1, 8, .inl g_images_0_way_lengths)), (a_images_1, .inr (2, [.int (1 : Int32), .ref a_images_1_table, .ref a_images_1_way])), (a_images_1_table, .inr (8, [.int u5.1, .ref a_images_1_table_squares])), (a_images_1_table_squares, .inl ((zG Z).2.1 1, 49, .inl u5.2)), (a_images_1_way, .inr (5, [.int u6.1, .ref a_images_1_way_lengths])), (a_images_1_way_lengths, .inl ((zG Z).2.1 1, 8, .inl u6.2)), (a_table, .inr (8, [.int g_table_places, .ref a_table_squares])), (a_table_squares, .inl ((zG Z).2.1 1, 49, .inl g_table_squares)), (a_way, .inr (5, [.int g_way_parts, .ref a_way_lengths])), (a_way_lengths, .inl ((zG Z).2.1 1, 8, .inl g_way_lengths))]) rfl ?_
      refine rn_iload_n hX dX10_keep_51 0 rfl 52 rfl ?_
      exact rn_iret hX hr (by rw [henc]; rfl) dX10_keep_52
    rw [if_neg he14_1]
    exact rn_none
  refine rn_iconst hX dX10_keep_7 8 rfl ic_m1 ?_
  exact rn_iret hX hr (by rw [henc]; rfl) dX10_keep_8
abbrev rmX10_back : Room := { frames := 2, cells := 0, slots := 0, locals := 81 }
theorem hdV_X10_back : yX10_back.cls = RX10 ∧ yX10_back.cls ≠ "java/lang/invoke/MethodHandle" ∧ yX10_back.cls ≠ "java/lang/invoke/VarHandle" ∧ (parseMethodDescriptor yX10_back.desc).map (fun d => d.parameters.length) = some 1 := by decide +kernel
set_option maxHeartbeats 4000000 in
set_option maxRecDepth 100000 in
theorem c_X10_back (l : Launch) (G : GT) (a_this a_images a_images_0 a_images_0_table a_images_0_table_squares a_images_0_way a_images_0_way_lengths a_images_1 a_images_1_table a_images_1_table_squares a_images_1_way a_images_1_way_lengths a_table a_table_squares a_way a_way_lengths a_tape a_reader a_sheets a_flaws a_sixthOf a_drawing a_naming : Nat) (g_lastFault : Int32) (g_lastTear : Int32) (g_images_0_kept : Int32) (g_images_0_table_places : Int32) (g_images_0_table_squares : (Nat → Int32)) (g_images_0_way_parts : Int32) (g_images_0_way_lengths : (Nat → Int32)) (g_images_1_kept : Int32) (g_images_1_table_places : Int32) (g_images_1_table_squares : (Nat → Int32)) (g_images_1_way_parts : Int32) (g_images_1_way_lengths : (Nat → Int32)) (g_table_places : Int32) (g_table_squares : (Nat → Int32)) (g_way_parts : Int32) (g_way_lengths : (Nat → Int32)) (x1 : Int32) {u : Int32 × Int32 × (Nat → Int32) × Int32 × (Nat → Int32)} (hu : X10_back x1 g_images_0_kept g_images_0_table_places g_images_0_table_squares g_images_0_way_parts g_images_0_way_lengths g_images_1_kept g_images_1_table_places g_images_1_table_squares g_images_1_way_parts g_images_1_way_lengths g_table_places g_table_squares g_way_parts g_way_lengths = some u) : Ctr l G yX10_back wsX10_back rmX10_back [.ref a_this, .int x1] [(a_this, .inr (10, [.ref a_tape, .ref a_reader, .ref a_table, .ref a_way, .ref a_images, .ref a_sheets, .ref a_flaws, .ref a_sixthOf, .ref a_drawing, .ref a_naming, .int g_lastFault, .int g_lastTear])), (a_images, .inl (G.2.1 3, 2, .inr (.inr (.inr (.inr (rf2 a_images_0 a_images_1)))))), (a_images_0, .inr (2, [.int g_images_0_kept, .ref a_images_0_table, .ref a_images_0_way])), (a_images_0_table, .inr (8, [.int g_images_0_table_places, .ref a_images_0_table_squares])), (a_images_0_table_squares, .inl (G.2.1 1, 49, .inl g_images_0_table_squares)), (a_images_0_way, .inr (5, [.int g_images_0_way_parts, .ref a_images_0_way_lengths])), (a_images_0_way_lengths, .inl (G.2.1 1, 8, .inl g_images_0_way_lengths)), (a_images_1, .inr (2, [.int g_images_1_kept, .ref a_images_1_table, .ref a_images_1_way])), (a_images_1_table, .inr (8, [.int g_images_1_table_places, .ref a_images_1_table_squares])), (a_images_1_table_squares, .inl (G.2.1 1, 49, .inl g_images_1_table_squares)), (a_images_1_way, .inr (5, [.int g_images_1_way_parts, .ref a_images_1_way_lengths])), (a_images_1_way_lengths, .inl (G.2.1 1, 8, .inl g_images_1_way_lengths)), (a_table, .inr (8, [.int g_table_places, .ref a_table_squares])), (a_table_squares, .inl (G.2.1 1, 49, .inl g_table_squares)), (a_way, .inr (5, [.int g_way_parts, .ref a_way_lengths])), (a_way_lengths, .inl (G.2.1 1, 8, .inl g_way_lengths))] (some (.int u.1)) [(a_this, .inr (10, [.ref a_tape, .ref a_reader, .ref a_table, .ref a_way, .ref a_images, .ref a_sheets, .ref a_flaws, .ref a_sixthOf, .ref a_drawing, .ref a_naming, .int g_lastFault, .int g_lastTear])), (a_images, .inl (G.2.1 3, 2, .inr (.inr (.inr (.inr (rf2 a_images_0 a_images_1)))))), (a_images_0, .inr (2, [.int g_images_0_kept, .ref a_images_0_table, .ref a_images_0_way])), (a_images_0_table, .inr (8, [.int g_images_0_table_places, .ref a_images_0_table_squares])), (a_images_0_table_squares, .inl (G.2.1 1, 49, .inl g_images_0_table_squares)), (a_images_0_way, .inr (5, [.int g_images_0_way_parts, .ref a_images_0_way_lengths])), (a_images_0_way_lengths, .inl (G.2.1 1, 8, .inl g_images_0_way_lengths)), (a_images_1, .inr (2, [.int g_images_1_kept, .ref a_images_1_table, .ref a_images_1_way])), (a_images_1_table, .inr (8, [.int g_images_1_table_places, .ref a_images_1_table_squares])), (a_images_1_table_squares, .inl (G.2.1 1, 49, .inl g_images_1_table_squares)), (a_images_1_way, .inr (5, [.int g_images_1_way_parts, .ref a_images_1_way_lengths])), (a_images_1_way_lengths, .inl (G.2.1 1, 8, .inl g_images_1_way_lengths)), (a_table, .inr (8, [.int u.2.1, .ref a_table_squares])), (a_table_squares, .inl (G.2.1 1, 49, .inl u.2.2.1)), (a_way, .inr (5, [.int u.2.2.2.1, .ref a_way_lengths])), (a_way_lengths, .inl (G.2.1 1, 8, .inl u.2.2.2.2))] := by
  obtain ⟨enc, henc⟩ : ∃ enc : (Int32 × Int32 × (Nat → Int32) × Int32 × (Nat → Int32)) → Option Value × va_W, enc = fun u => (((some (.int u.1)) : Option Value), ([(a_this, .inr (10, [.ref a_tape, .ref a_reader, .ref a_table, .ref a_way, .ref a_images, .ref a_sheets, .ref a_flaws, .ref a_sixthOf, .ref a_drawing, .ref a_naming, .int g_lastFault, .int g_lastTear])), (a_images, .inl (G.2.1 3, 2, .inr (.inr (.inr (.inr (rf2 a_images_0 a_images_1)))))), (a_images_0, .inr (2, [.int g_images_0_kept, .ref a_images_0_table, .ref a_images_0_way])), (a_images_0_table, .inr (8, [.int g_images_0_table_places, .ref a_images_0_table_squares])), (a_images_0_table_squares, .inl (G.2.1 1, 49, .inl g_images_0_table_squares)), (a_images_0_way, .inr (5, [.int g_images_0_way_parts, .ref a_images_0_way_lengths])), (a_images_0_way_lengths, .inl (G.2.1 1, 8, .inl g_images_0_way_lengths)), (a_images_1, .inr (2, [.int g_images_1_kept, .ref a_images_1_table, .ref a_images_1_way])), (a_images_1_table, .inr (8, [.int g_images_1_table_places, .ref a_images_1_table_squares])), (a_images_1_table_squares, .inl (G.2.1 1, 49, .inl g_images_1_table_squares)), (a_images_1_way, .inr (5, [.int g_images_1_way_parts, .ref a_images_1_way_lengths])), (a_images_1_way_lengths, .inl (G.2.1 1, 8, .inl g_images_1_way_lengths)), (a_table, .inr (8, [.int u.2.1, .ref a_table_squares])), (a_table_squares, .inl (G.2.1 1, 49, .inl u.2.2.1)), (a_way, .inr (5, [.int u.2.2.2.1, .ref a_way_lengths])), (a_way_lengths, .inl (G.2.1 1, 8, .inl u.2.2.2.2))] : va_W)) := ⟨_, rfl⟩
  refine ctr_of (cc := cX10_back) (own := RX10) (E := Option.map enc) (o := X10_back x1 g_images_0_kept g_images_0_table_places g_images_0_table_squares g_images_0_way_parts g_images_0_way_lengths g_images_1_kept g_images_1_table_places g_images_1_table_squares g_images_1_way_parts g_images_1_way_lengths g_table_places g_table_squares g_way_parts g_way_lengths) (by decide) rfl rfl (L := [(0, .ref a_this), (1, .int x1)]) rfl (Nat.le_of_ble_eq_true rfl) (by rw [hu, henc]; rfl) ?_
  intro Z hX hl hG hr
  subst hl; subst hG
  have fl115 : (Cond.fieldLink RX10 115 "OnlyFar$Image" "kept" "Z").before (za Z) (zs Z) = true := hX.wd (mcC _ wd_207)
  have fl28 : (Cond.fieldLink RX10 28 "OnlyFar" "table" "LOnlyFar$Table;").before (za Z) (zs Z) = true := hX.wd (mcC _ wd_359)
  have fl303 : (Cond.fieldLink RX10 303 "OnlyFar$Image" "table" "LOnlyFar$Table;").before (za Z) (zs Z) = true := hX.wd (mcC _ wd_209)
  have fl322 : (Cond.fieldLink RX10 322 "OnlyFar$Image" "way" "LOnlyFar$Road;").before (za Z) (zs Z) = true := hX.wd (mcC _ wd_211)
  have fl35 : (Cond.fieldLink RX10 35 "OnlyFar" "way" "LOnlyFar$Road;").before (za Z) (zs Z) = true := hX.wd (mcC _ wd_360)
  have fl41 : (Cond.fieldLink RX10 41 "OnlyFar" "images" "[LOnlyFar$Image;").before (za Z) (zs Z) = true := hX.wd (mcC _ wd_361)
  have inX10 : ∀ w ∈ u_ws RX10 TX10 12, w ∈ wsX10_back := fun w h => mcC w (inC_X10 w h)
  have inX2 : ∀ w ∈ u_ws RX2 TX2 3, w ∈ wsX10_back := fun w h => mcC w (inC_X2 w h)
  unfold X10_back
  refine rn_iload_n hX dX10_back_0 1 rfl 1 rfl ?_
  refine rn_callS0 hX (gS mcC wd_862 wd_863 wd_70 wd_864) rfl hdS_X10_isImage rfl rfl ⟨Nat.le_of_ble_eq_true rfl, Nat.le_of_ble_eq_true rfl⟩ (c_X10_isImage (zl Z) (zG Z) x1 rfl) rfl [] rfl rfl rfl (Nat.le_of_ble_eq_true rfl) dX10_back_1 4 rfl (S' := [.int (X10_isImage x1)]) rfl ⟨Nat.zero_le _, Nat.zero_le _⟩ ?_
  refine rn_if_ne hX dX10_back_4 9 (by decide) 7 rfl ?_ ?_
  · refine rn_aload_n hX dX10_back_9 0 rfl 10 rfl ?_
    refine rn_get hX inX10 0 rfl rfl 4 (by decide) fl41 rfl rfl dX10_back_10 13 rfl ?_
    refine rn_iload_n hX dX10_back_13 1 rfl 14 rfl ?_
    by_cases he14_0 : x1 = (0 : Int32)
    · rw [if_pos he14_0]
      refine rn_aald hX (t0 := 3) (n := 2) (f := rf2 a_images_0 a_images_1) 1 rfl rfl he14_0 (vpk (by decide)) rfl dX10_back_14 15 rfl ?_
      refine rn_astore_n hX dX10_back_15 2 rfl (by decide) (L' := [(2, .ref a_images_0), (0, .ref a_this), (1, .int x1)]) rfl 16 rfl ?_
      refine rn_aload_n hX dX10_back_16 0 rfl 17 rfl ?_
      refine rn_get hX inX2 2 rfl rfl 0 (by decide) fl115 rfl rfl dX10_back_17 20 rfl ?_
      refine rn_if_ne hX dX10_back_20 26 (by decide) 23 rfl ?_ ?_
      · refine rn_aload_n hX dX10_back_26 1 rfl 27 rfl ?_
        refine rn_get hX inX10 0 rfl rfl 2 (by decide) fl28 rfl rfl dX10_back_27 30 rfl ?_
        refine rn_aload_n hX dX10_back_30 0 rfl 31 rfl ?_
        refine rn_get hX inX2 2 rfl rfl 1 (by decide) fl303 rfl rfl dX10_back_31 34 rfl ?_
        refine rn_lat (fun u1 hu1 => ?_)
        refine rn_callV hX (gV mcC wd_522 wd_523 wd_524 wd_73 wd_525) rfl hdV_X8_copyFrom rfl rfl ⟨Nat.le_of_ble_eq_true rfl, Nat.le_of_ble_eq_true rfl⟩ (c_X8_copyFrom (zl Z) (zG Z) a_table a_table_squares a_images_0_table a_images_0_table_squares g_table_places g_table_squares g_images_0_table_places g_images_0_table_squares hu1) rfl [12, 13, 3, 4] rfl rfl rfl (ci := 8) rfl rfl rfl (Nat.le_of_ble_eq_true rfl) dX10_back_34 37 rfl (wn := [(a_this, .inr (10, [.ref a_tape, .ref a_reader, .ref a_table, .ref a_way, .ref a_images, .ref a_sheets, .ref a_flaws, .ref a_sixthOf, .ref a_drawing, .ref a_naming, .int g_lastFault, .int g_lastTear])), (a_images, .inl ((zG Z).2.1 3, 2, .inr (.inr (.inr (.inr (rf2 a_images_0 a_images_1)))))), (a_images_0, .inr (2, [.int g_images_0_kept, .ref a_images_0_table, .ref a_images_0_way])), (a_images_0_table, .inr (8, [.int g_images_0_table_places, .ref a_images_0_table_squares])), (a_images_0_table_squares, .inl ((zG Z).2.1 1, 49, .inl g_images_0_table_squares)), (a_images_0_way, .inr (5, [.int g_images_0_way_parts, .ref a_images_0_way_lengths])), (a_images_0_way_lengths, .inl ((zG Z).2.1 1, 8, .inl g_images_0_way_lengths)), (a_images_1, .inr (2, [.int g_images_1_kept, .ref a_images_1_table, .ref a_images_1_way])), (a_images_1_table, .inr (8, [.int g_images_1_table_places, .ref a_images_1_table_squares])), (a_images_1_table_squares, .inl ((zG Z).2.1 1, 49, .inl g_images_1_table_squares)), (a_images_1_way, .inr (5, [.int g_images_1_way_parts, .ref a_images_1_way_lengths])), (a_images_1_way_lengths, .inl ((zG Z).2.1 1, 8, .inl g_images_1_way_lengths)), (a_table, .inr (8, [.int u1.1, .ref a_table_squares])), (a_table_squares, .inl ((zG Z).2.1 1, 49, .inl u1.2)), (a_way, .inr (5, [.int g_way_parts, .ref a_way_lengths])), (a_way_lengths, .inl ((zG Z).2.1 1, 8, .inl g_way_lengths))]) rfl (S' := []) rfl ⟨Nat.zero_le _, Nat.zero_le _⟩ ?_
        refine rn_aload_n hX dX10_back_37 1 rfl 38 rfl ?_
        refine rn_get hX inX10 0 rfl rfl 3 (by decide) fl35 rfl rfl dX10_back_38 41 rfl ?_
        refine rn_aload_n hX dX10_back_41 0 rfl 42 rfl ?_
        refine rn_get hX inX2 2 rfl rfl 2 (by decide) fl322 rfl rfl dX10_back_42 45 rfl ?_
        refine rn_lat (fun u2 hu2 => ?_)
        refine rn_callV hX (gV mcC wd_918 wd_919 wd_920 wd_74 wd_921) rfl hdV_X5_copyFrom rfl rfl ⟨Nat.le_of_ble_eq_true rfl, Nat.le_of_ble_eq_true rfl⟩ (c_X5_copyFrom (zl Z) (zG Z) a_way a_way_lengths a_images_0_way a_images_0_way_lengths g_way_parts g_way_lengths g_images_0_way_parts g_images_0_way_lengths hu2) rfl [14, 15, 5, 6] rfl rfl rfl (ci := 5) rfl rfl rfl (Nat.le_of_ble_eq_true rfl) dX10_back_45 48 rfl (wn := [(a_this, .inr (10, [.ref a_tape, .ref a_reader, .ref a_table, .ref a_way, .ref a_images, .ref a_sheets, .ref a_flaws, .ref a_sixthOf, .ref a_drawing, .ref a_naming, .int g_lastFault, .int g_lastTear])), (a_images, .inl ((zG Z).2.1 3, 2, .inr (.inr (.inr (.inr (rf2 a_images_0 a_images_1)))))), (a_images_0, .inr (2, [.int g_images_0_kept, .ref a_images_0_table, .ref a_images_0_way])), (a_images_0_table, .inr (8, [.int g_images_0_table_places, .ref a_images_0_table_squares])), (a_images_0_table_squares, .inl ((zG Z).2.1 1, 49, .inl g_images_0_table_squares)), (a_images_0_way, .inr (5, [.int g_images_0_way_parts, .ref a_images_0_way_lengths])), (a_images_0_way_lengths, .inl ((zG Z).2.1 1, 8, .inl g_images_0_way_lengths)), (a_images_1, .inr (2, [.int g_images_1_kept, .ref a_images_1_table, .ref a_images_1_way])), (a_images_1_table, .inr (8, [.int g_images_1_table_places, .ref a_images_1_table_squares])), (a_images_1_table_squares, .inl ((zG Z).2.1 1, 49, .inl g_images_1_table_squares)), (a_images_1_way, .inr (5, [.int g_images_1_way_parts, .ref a_images_1_way_lengths])), (a_images_1_way_lengths, .inl ((zG Z).2.1 1, 8, .inl g_images_1_way_lengths)), (a_table, .inr (8, [.int u1.1, .ref a_table_squares])), (a_table_squares, .inl ((zG Z).2.1 1, 49, .inl u1.2)), (a_way, .inr (5, [.int u2.1, .ref a_way_lengths])), (a_way_lengths, .inl ((zG Z).2.1 1, 8, .inl u2.2))]) rfl (S' := []) rfl ⟨Nat.zero_le _, Nat.zero_le _⟩ ?_
        refine rn_aload_n hX dX10_back_48 1 rfl 49 rfl ?_
        refine rn_get hX inX10 0 rfl rfl 2 (by decide) fl28 rfl rfl dX10_back_49 52 rfl ?_
        refine rn_bind (fun u3 hu3 => ?_)
        refine rn_callV0 hX (gV mcC wd_927 wd_928 wd_929 wd_73 wd_930) rfl hdV_X8_countTold rfl rfl ⟨Nat.le_of_ble_eq_true rfl, Nat.le_of_ble_eq_true rfl⟩ (c_X8_countTold (zl Z) (zG Z) a_table a_table_squares u1.1 u1.2 hu3) rfl [12, 13] rfl rfl (ci := 8) rfl rfl rfl (Nat.le_of_ble_eq_true rfl) dX10_back_52 55 rfl (S' := [.int u3]) rfl ⟨Nat.zero_le _, Nat.zero_le _⟩ ?_
        exact rn_iret hX hr (by rw [henc]; rfl) dX10_back_55
      refine rn_bipush hX dX10_back_23 25 rfl bp_m2 ?_
      exact rn_iret hX hr (by rw [henc]; rfl) dX10_back_25
    rw [if_neg he14_0]
    by_cases he14_1 : x1 = (1 : Int32)
    · rw [if_pos he14_1]
      refine rn_aald hX (t0 := 3) (n := 2) (f := rf2 a_images_0 a_images_1) 1 rfl rfl he14_1 (vpk (by decide)) rfl dX10_back_14 15 rfl ?_
      refine rn_astore_n hX dX10_back_15 2 rfl (by decide) (L' := [(2, .ref a_images_1), (0, .ref a_this), (1, .int x1)]) rfl 16 rfl ?_
      refine rn_aload_n hX dX10_back_16 0 rfl 17 rfl ?_
      refine rn_get hX inX2 7 rfl rfl 0 (by decide) fl115 rfl rfl dX10_back_17 20 rfl ?_
      refine rn_if_ne hX dX10_back_20 26 (by decide) 23 rfl ?_ ?_
      · refine rn_aload_n hX dX10_back_26 1 rfl 27 rfl ?_
        refine rn_get hX inX10 0 rfl rfl 2 (by decide) fl28 rfl rfl dX10_back_27 30 rfl ?_
        refine rn_aload_n hX dX10_back_30 0 rfl 31 rfl ?_
        refine rn_get hX inX2 7 rfl rfl 1 (by decide) fl303 rfl rfl dX10_back_31 34 rfl ?_
        refine rn_lat (fun u4 hu4 => ?_)
        refine rn_callV hX (gV mcC wd_522 wd_523 wd_524 wd_73 wd_525) rfl hdV_X8_copyFrom rfl rfl ⟨Nat.le_of_ble_eq_true rfl, Nat.le_of_ble_eq_true rfl⟩ (c_X8_copyFrom (zl Z) (zG Z) a_table a_table_squares a_images_1_table a_images_1_table_squares g_table_places g_table_squares g_images_1_table_places g_images_1_table_squares hu4) rfl [12, 13, 8, 9] rfl rfl rfl (ci := 8) rfl rfl rfl (Nat.le_of_ble_eq_true rfl) dX10_back_34 37 rfl (wn := [(a_this, .inr (10, [.ref a_tape, .ref a_reader, .ref a_table, .ref a_way, .ref a_images, .ref a_sheets, .ref a_flaws, .ref a_sixthOf, .ref a_drawing, .ref a_naming, .int g_lastFault, .int g_lastTear])), (a_images, .inl ((zG Z).2.1 3, 2, .inr (.inr (.inr (.inr (rf2 a_images_0 a_images_1)))))), (a_images_0, .inr (2, [.int g_images_0_kept, .ref a_images_0_table, .ref a_images_0_way])), (a_images_0_table, .inr (8, [.int g_images_0_table_places, .ref a_images_0_table_squares])), (a_images_0_table_squares, .inl ((zG Z).2.1 1, 49, .inl g_images_0_table_squares)), (a_images_0_way, .inr (5, [.int g_images_0_way_parts, .ref a_images_0_way_lengths])), (a_images_0_way_lengths, .inl ((zG Z).2.1 1, 8, .inl g_images_0_way_lengths)), (a_images_1, .inr (2, [.int g_images_1_kept, .ref a_images_1_table, .ref a_images_1_way])), (a_images_1_table, .inr (8, [.int g_images_1_table_places, .ref a_images_1_table_squares])), (a_images_1_table_squares, .inl ((zG Z).2.1 1, 49, .inl g_images_1_table_squares)), (a_images_1_way, .inr (5, [.int g_images_1_way_parts, .ref a_images_1_way_lengths])), (a_images_1_way_lengths, .inl ((zG Z).2.1 1, 8, .inl g_images_1_way_lengths)), (a_table, .inr (8, [.int u4.1, .ref a_table_squares])), (a_table_squares, .inl ((zG Z).2.1 1, 49, .inl u4.2)), (a_way, .inr (5, [.int g_way_parts, .ref a_way_lengths])), (a_way_lengths, .inl ((zG Z).2.1 1, 8, .inl g_way_lengths))]) rfl (S' := []) rfl ⟨Nat.zero_le _, Nat.zero_le _⟩ ?_
        refine rn_aload_n hX dX10_back_37 1 rfl 38 rfl ?_
        refine rn_get hX inX10 0 rfl rfl 3 (by decide) fl35 rfl rfl dX10_back_38 41 rfl ?_
        refine rn_aload_n hX dX10_back_41 0 rfl 42 rfl ?_
        refine rn_get hX inX2 7 rfl rfl 2 (by decide) fl322 rfl rfl dX10_back_42 45 rfl ?_
        refine rn_lat (fun u5 hu5 => ?_)
        refine rn_callV hX (gV mcC wd_918 wd_919 wd_920 wd_74 wd_921) rfl hdV_X5_copyFrom rfl rfl ⟨Nat.le_of_ble_eq_true rfl, Nat.le_of_ble_eq_true rfl⟩ (c_X5_copyFrom (zl Z) (zG Z) a_way a_way_lengths a_images_1_way a_images_1_way_lengths g_way_parts g_way_lengths g_images_1_way_parts g_images_1_way_lengths hu5) rfl [14, 15, 10, 11] rfl rfl rfl (ci := 5) rfl rfl rfl (Nat.le_of_ble_eq_true rfl) dX10_back_45 48 rfl (wn := [(a_this, .inr (10, [.ref a_tape, .ref a_reader, .ref a_table, .ref a_way, .ref a_images, .ref a_sheets, .ref a_flaws, .ref a_sixthOf, .ref a_drawing, .ref a_naming, .int g_lastFault, .int g_lastTear])), (a_images, .inl ((zG Z).2.1 3, 2, .inr (.inr (.inr (.inr (rf2 a_images_0 a_images_1)))))), (a_images_0, .inr (2, [.int g_images_0_kept, .ref a_images_0_table, .ref a_images_0_way])), (a_images_0_table, .inr (8, [.int g_images_0_table_places, .ref a_images_0_table_squares])), (a_images_0_table_squares, .inl ((zG Z).2.1 1, 49, .inl g_images_0_table_squares)), (a_images_0_way, .inr (5, [.int g_images_0_way_parts, .ref a_images_0_way_lengths])), (a_images_0_way_lengths, .inl ((zG Z).2.1 1, 8, .inl g_images_0_way_lengths)), (a_images_1, .inr (2, [.int g_images_1_kept, .ref a_images_1_table, .ref a_images_1_way])), (a_images_1_table, .inr (8, [.int g_images_1_table_places, .ref a_images_1_table_squares])), (a_images_1_table_squares, .inl ((zG Z).2.1 1, 49, .inl g_images_1_table_squares)), (a_images_1_way, .inr (5, [.int g_images_1_way_parts, .ref a_images_1_way_lengths])), (a_images_1_way_lengths, .inl ((zG Z).2.1 1, 8, .inl g_images_1_way_lengths)), (a_table, .inr (8, [.int u4.1, .ref a_table_squares])), (a_table_squares, .inl ((zG Z).2.1 1, 49, .inl u4.2)), (a_way, .inr (5, [.int u5.1, .ref a_way_lengths])), (a_way_lengths, .inl ((zG Z).2.1 1, 8, .inl u5.2))]) rfl (S' := []) rfl ⟨Nat.zero_le _, Nat.zero_le _⟩ ?_
        refine rn_aload_n hX dX10_back_48 1 rfl 49 rfl ?_
        refine rn_get hX inX10 0 rfl rfl 2 (by decide) fl28 rfl rfl dX10_back_49 52 rfl ?_
        refine rn_bind (fun u6 hu6 => ?_)
        refine rn_callV0 hX (gV mcC wd_927 wd_928 wd_929 wd_73 wd_930) rfl hdV_X8_countTold rfl rfl ⟨Nat.le_of_ble_eq_true rfl, Nat.le_of_ble_eq_true rfl⟩ (c_X8_countTold (zl Z) (zG Z) a_table a_table_squares u4.1 u4.2 hu6) rfl [12, 13] rfl rfl (ci := 8) rfl rfl rfl (Nat.le_of_ble_eq_true rfl) dX10_back_52 55 rfl (S' := [.int u6]) rfl ⟨Nat.zero_le _, Nat.zero_le _⟩ ?_
        exact rn_iret hX hr (by rw [henc]; rfl) dX10_back_55
      refine rn_bipush hX dX10_back_23 25 rfl bp_m2 ?_
      exact rn_iret hX hr (by rw [henc]; rfl) dX10_back_25
    rw [if_neg he14_1]
    exact rn_none
  refine rn_iconst hX dX10_back_7 8 rfl ic_m1 ?_
  exact rn_iret hX hr (by rw [henc]; rfl) dX10_back_8
abbrev rmX10_isSheet : Room := { frames := 0, cells := 0, slots := 0, locals := 0 }
theorem hdS_X10_isSheet : yX10_isSheet.cls ≠ "java/lang/invoke/MethodHandle" ∧ yX10_isSheet.cls ≠ "java/lang/invoke/VarHandle" ∧ (parseMethodDescriptor yX10_isSheet.desc).map (fun d => d.parameters.length) = some 1 := by decide +kernel
set_option maxHeartbeats 4000000 in
set_option maxRecDepth 100000 in
theorem c_X10_isSheet (l : Launch) (G : GT) (x0 : Int32) {u : Int32} (hu : X10_isSheet x0 = u) : Ctr l G yX10_isSheet wsX10_isSheet rmX10_isSheet [.int x0] [] (some (.int u)) [] := by
  obtain ⟨enc, henc⟩ : ∃ enc : (Int32) → Option Value × va_W, enc = fun u => (((some (.int u)) : Option Value), ([] : va_W)) := ⟨_, rfl⟩
  refine ctr_of (cc := cX10_isSheet) (own := RX10) (E := fun o => some (enc o)) (o := X10_isSheet x0) (by decide) rfl rfl (L := [(0, .int x0)]) rfl (Nat.le_of_ble_eq_true rfl) (by rw [hu, henc]) ?_
  intro Z hX hl hG hr
  subst hl; subst hG
  unfold X10_isSheet
  refine rn_iload_n hX dX10_isSheet_0 0 rfl 1 rfl ?_
  refine rn_if_lt hX dX10_isSheet_1 13 (by decide) 4 rfl ?_ ?_
  · refine rn_iconst hX dX10_isSheet_13 14 rfl ic_0 ?_
    exact rn_zret hX rfl hr (by rw [henc]) dX10_isSheet_14
  refine rn_iload_n hX dX10_isSheet_4 0 rfl 5 rfl ?_
  refine rn_iconst hX dX10_isSheet_5 6 rfl ic_4 ?_
  refine rn_icmp_ge hX dX10_isSheet_6 13 (by decide) 9 rfl ?_ ?_
  · refine rn_iconst hX dX10_isSheet_13 14 rfl ic_0 ?_
    exact rn_zret hX rfl hr (by rw [henc]) dX10_isSheet_14
  refine rn_iconst hX dX10_isSheet_9 10 rfl ic_1 ?_
  refine rn_goto hX dX10_isSheet_10 14 (by decide) ?_
  exact rn_zret hX rfl hr (by rw [henc]) dX10_isSheet_14
abbrev rmX10_isLane : Room := { frames := 0, cells := 0, slots := 0, locals := 0 }
theorem hdS_X10_isLane : yX10_isLane.cls ≠ "java/lang/invoke/MethodHandle" ∧ yX10_isLane.cls ≠ "java/lang/invoke/VarHandle" ∧ (parseMethodDescriptor yX10_isLane.desc).map (fun d => d.parameters.length) = some 1 := by decide +kernel
set_option maxHeartbeats 4000000 in
set_option maxRecDepth 100000 in
theorem c_X10_isLane (l : Launch) (G : GT) (x0 : Int32) {u : Int32} (hu : X10_isLane x0 = u) : Ctr l G yX10_isLane wsX10_isLane rmX10_isLane [.int x0] [] (some (.int u)) [] := by
  obtain ⟨enc, henc⟩ : ∃ enc : (Int32) → Option Value × va_W, enc = fun u => (((some (.int u)) : Option Value), ([] : va_W)) := ⟨_, rfl⟩
  refine ctr_of (cc := cX10_isLane) (own := RX10) (E := fun o => some (enc o)) (o := X10_isLane x0) (by decide) rfl rfl (L := [(0, .int x0)]) rfl (Nat.le_of_ble_eq_true rfl) (by rw [hu, henc]) ?_
  intro Z hX hl hG hr
  subst hl; subst hG
  unfold X10_isLane
  refine rn_iload_n hX dX10_isLane_0 0 rfl 1 rfl ?_
  refine rn_if_lt hX dX10_isLane_1 13 (by decide) 4 rfl ?_ ?_
  · refine rn_iconst hX dX10_isLane_13 14 rfl ic_0 ?_
    exact rn_zret hX rfl hr (by rw [henc]) dX10_isLane_14
  refine rn_iload_n hX dX10_isLane_4 0 rfl 5 rfl ?_
  refine rn_iconst hX dX10_isLane_5 6 rfl ic_3 ?_
  refine rn_icmp_ge hX dX10_isLane_6 13 (by decide) 9 rfl ?_ ?_
  · refine rn_iconst hX dX10_isLane_13 14 rfl ic_0 ?_
    exact rn_zret hX rfl hr (by rw [henc]) dX10_isLane_14
  refine rn_iconst hX dX10_isLane_9 10 rfl ic_1 ?_
  refine rn_goto hX dX10_isLane_10 14 (by decide) ?_
  exact rn_zret hX rfl hr (by rw [henc]) dX10_isLane_14
