abbrev rmX8_square : Room := { frames := 0, cells := 0, slots := 0, locals := 0 }
theorem hdV_X8_square : yX8_square.cls = RX8 ∧ yX8_square.cls ≠ "java/lang/invoke/MethodHandle" ∧ yX8_square.cls ≠ "java/lang/invoke/VarHandle" ∧ (parseMethodDescriptor yX8_square.desc).map (fun d => d.parameters.length) = some 2 := by decide +kernel
set_option maxHeartbeats 4000000 in
set_option maxRecDepth 100000 in
theorem c_X8_square (l : Launch) (G : GT) (a_this a_squares : Nat) (g_places : Int32) (g_squares : (Nat → Int32)) (x1 : Int32) (x2 : Int32) {u : Int32} (hu : X8_square x1 x2 g_squares = some u) : Ctr l G yX8_square wsX8_square rmX8_square [.ref a_this, .int x1, .int x2] [(a_this, .inr (8, [.int g_places, .ref a_squares])), (a_squares, .inl (G.2.1 1, 49, .inl g_squares))] (some (.int u)) [(a_this, .inr (8, [.int g_places, .ref a_squares])), (a_squares, .inl (G.2.1 1, 49, .inl g_squares))] := by
  obtain ⟨enc, henc⟩ : ∃ enc : (Int32) → Option Value × va_W, enc = fun u => (((some (.int u)) : Option Value), ([(a_this, .inr (8, [.int g_places, .ref a_squares])), (a_squares, .inl (G.2.1 1, 49, .inl g_squares))] : va_W)) := ⟨_, rfl⟩
  refine ctr_of (cc := cX8_square) (own := RX8) (E := Option.map enc) (o := X8_square x1 x2 g_squares) (by decide) rfl rfl (L := [(0, .ref a_this), (1, .int x1), (2, .int x2)]) rfl (Nat.le_of_ble_eq_true rfl) (by rw [hu, henc]; rfl) ?_
  intro Z hX hl hG hr
  subst hl; subst hG
  have fl15 : (Cond.fieldLink RX8 15 "OnlyFar$Table" "squares" "[I").before (za Z) (zs Z) = true := hX.wd (mcC _ wd_134)
  have inX8 : ∀ w ∈ u_ws RX8 TX8 2, w ∈ wsX8_square := fun w h => mcC w (inC_X8 w h)
  unfold X8_square
  refine rn_iload_n hX dX8_square_0 1 rfl 1 rfl ?_
  refine rn_if_lt hX dX8_square_1 20 (by decide) 4 rfl ?_ ?_
  · refine rn_iconst hX dX8_square_20 21 rfl ic_0 ?_
    exact rn_iret hX hr (by rw [henc]; rfl) dX8_square_21
  refine rn_iload_n hX dX8_square_4 1 rfl 5 rfl ?_
  refine rn_bipush hX dX8_square_5 7 rfl bp_7 ?_
  refine rn_icmp_ge hX dX8_square_7 20 (by decide) 10 rfl ?_ ?_
  · refine rn_iconst hX dX8_square_20 21 rfl ic_0 ?_
    exact rn_iret hX hr (by rw [henc]; rfl) dX8_square_21
  refine rn_iload_n hX dX8_square_10 2 rfl 11 rfl ?_
  refine rn_if_lt hX dX8_square_11 20 (by decide) 14 rfl ?_ ?_
  · refine rn_iconst hX dX8_square_20 21 rfl ic_0 ?_
    exact rn_iret hX hr (by rw [henc]; rfl) dX8_square_21
  refine rn_iload_n hX dX8_square_14 2 rfl 15 rfl ?_
  refine rn_bipush hX dX8_square_15 17 rfl bp_7 ?_
  refine rn_icmp_lt hX dX8_square_17 22 (by decide) 20 rfl ?_ ?_
  · refine rn_aload_n hX dX8_square_22 0 rfl 23 rfl ?_
    refine rn_get hX inX8 0 rfl rfl 1 (by decide) fl15 rfl rfl dX8_square_23 26 rfl ?_
    refine rn_iload_n hX dX8_square_26 1 rfl 27 rfl ?_
    refine rn_bipush hX dX8_square_27 29 rfl bp_7 ?_
    refine rn_imul hX dX8_square_29 30 rfl ?_
    refine rn_iload_n hX dX8_square_30 2 rfl 31 rfl ?_
    refine rn_iadd hX dX8_square_31 32 rfl ?_
    refine rn_gd (fun hi1 => ?_)
    refine rn_iald hX 1 rfl hi1 dX8_square_32 33 rfl ?_
    exact rn_iret hX hr (by rw [henc]; rfl) dX8_square_33
  refine rn_iconst hX dX8_square_20 21 rfl ic_0 ?_
  exact rn_iret hX hr (by rw [henc]; rfl) dX8_square_21
abbrev rmX8_isToldThree : Room := { frames := 1, cells := 0, slots := 0, locals := 22 }
theorem hdV_X8_isToldThree : yX8_isToldThree.cls = RX8 ∧ yX8_isToldThree.cls ≠ "java/lang/invoke/MethodHandle" ∧ yX8_isToldThree.cls ≠ "java/lang/invoke/VarHandle" ∧ (parseMethodDescriptor yX8_isToldThree.desc).map (fun d => d.parameters.length) = some 3 := by decide +kernel
set_option maxHeartbeats 4000000 in
set_option maxRecDepth 100000 in
theorem c_X8_isToldThree (l : Launch) (G : GT) (a_this a_squares : Nat) (g_places : Int32) (g_squares : (Nat → Int32)) (x1 : Int32) (x2 : Int32) (x3 : Int32) {u : Int32} (hu : X8_isToldThree x1 x2 x3 g_squares = some u) : Ctr l G yX8_isToldThree wsX8_isToldThree rmX8_isToldThree [.ref a_this, .int x1, .int x2, .int x3] [(a_this, .inr (8, [.int g_places, .ref a_squares])), (a_squares, .inl (G.2.1 1, 49, .inl g_squares))] (some (.int u)) [(a_this, .inr (8, [.int g_places, .ref a_squares])), (a_squares, .inl (G.2.1 1, 49, .inl g_squares))] := by
  obtain ⟨enc, henc⟩ : ∃ enc : (Int32) → Option Value × va_W, enc = fun u => (((some (.int u)) : Option Value), ([(a_this, .inr (8, [.int g_places, .ref a_squares])), (a_squares, .inl (G.2.1 1, 49, .inl g_squares))] : va_W)) := ⟨_, rfl⟩
  refine ctr_of (cc := cX8_isToldThree) (own := RX8) (E := Option.map enc) (o := X8_isToldThree x1 x2 x3 g_squares) (by decide) rfl rfl (L := [(0, .ref a_this), (1, .int x1), (2, .int x2), (3, .int x3)]) rfl (Nat.le_of_ble_eq_true rfl) (by rw [hu, henc]; rfl) ?_
  intro Z hX hl hG hr
  subst hl; subst hG
  unfold X8_isToldThree
  refine rn_aload_n hX dX8_isToldThree_0 0 rfl 1 rfl ?_
  refine rn_iload_n hX dX8_isToldThree_1 1 rfl 2 rfl ?_
  refine rn_iload_n hX dX8_isToldThree_2 2 rfl 3 rfl ?_
  refine rn_bind (fun u1 hu1 => ?_)
  refine rn_callV0 hX (gV mcC wd_549 wd_512 wd_513 wd_73 wd_514) rfl hdV_X8_square rfl rfl ⟨Nat.le_of_ble_eq_true rfl, Nat.le_of_ble_eq_true rfl⟩ (c_X8_square (zl Z) (zG Z) a_this a_squares g_places g_squares x1 x2 hu1) rfl [0, 1] rfl rfl (ci := 8) rfl rfl rfl (Nat.le_of_ble_eq_true rfl) dX8_isToldThree_3 6 rfl (S' := [.int u1]) rfl ⟨Nat.zero_le _, Nat.zero_le _⟩ ?_
  refine rn_if_le hX dX8_isToldThree_6 31 (by decide) 9 rfl ?_ ?_
  · refine rn_iconst hX dX8_isToldThree_31 32 rfl ic_0 ?_
    exact rn_zret hX rfl hr (by rw [henc]; rfl) dX8_isToldThree_32
  refine rn_aload_n hX dX8_isToldThree_9 0 rfl 10 rfl ?_
  refine rn_iload_n hX dX8_isToldThree_10 1 rfl 11 rfl ?_
  refine rn_iload_n hX dX8_isToldThree_11 3 rfl 12 rfl ?_
  refine rn_bind (fun u2 hu2 => ?_)
  refine rn_callV0 hX (gV mcC wd_549 wd_512 wd_513 wd_73 wd_514) rfl hdV_X8_square rfl rfl ⟨Nat.le_of_ble_eq_true rfl, Nat.le_of_ble_eq_true rfl⟩ (c_X8_square (zl Z) (zG Z) a_this a_squares g_places g_squares x1 x3 hu2) rfl [0, 1] rfl rfl (ci := 8) rfl rfl rfl (Nat.le_of_ble_eq_true rfl) dX8_isToldThree_12 15 rfl (S' := [.int u2]) rfl ⟨Nat.zero_le _, Nat.zero_le _⟩ ?_
  refine rn_if_le hX dX8_isToldThree_15 31 (by decide) 18 rfl ?_ ?_
  · refine rn_iconst hX dX8_isToldThree_31 32 rfl ic_0 ?_
    exact rn_zret hX rfl hr (by rw [henc]; rfl) dX8_isToldThree_32
  refine rn_aload_n hX dX8_isToldThree_18 0 rfl 19 rfl ?_
  refine rn_iload_n hX dX8_isToldThree_19 2 rfl 20 rfl ?_
  refine rn_iload_n hX dX8_isToldThree_20 3 rfl 21 rfl ?_
  refine rn_bind (fun u3 hu3 => ?_)
  refine rn_callV0 hX (gV mcC wd_549 wd_512 wd_513 wd_73 wd_514) rfl hdV_X8_square rfl rfl ⟨Nat.le_of_ble_eq_true rfl, Nat.le_of_ble_eq_true rfl⟩ (c_X8_square (zl Z) (zG Z) a_this a_squares g_places g_squares x2 x3 hu3) rfl [0, 1] rfl rfl (ci := 8) rfl rfl rfl (Nat.le_of_ble_eq_true rfl) dX8_isToldThree_21 24 rfl (S' := [.int u3]) rfl ⟨Nat.zero_le _, Nat.zero_le _⟩ ?_
  refine rn_if_le hX dX8_isToldThree_24 31 (by decide) 27 rfl ?_ ?_
  · refine rn_iconst hX dX8_isToldThree_31 32 rfl ic_0 ?_
    exact rn_zret hX rfl hr (by rw [henc]; rfl) dX8_isToldThree_32
  refine rn_iconst hX dX8_isToldThree_27 28 rfl ic_1 ?_
  refine rn_goto hX dX8_isToldThree_28 32 (by decide) ?_
  exact rn_zret hX rfl hr (by rw [henc]; rfl) dX8_isToldThree_32
abbrev rmX10_wideOfSquares : Room := { frames := 0, cells := 0, slots := 0, locals := 0 }
theorem hdS_X10_wideOfSquares : yX10_wideOfSquares.cls ≠ "java/lang/invoke/MethodHandle" ∧ yX10_wideOfSquares.cls ≠ "java/lang/invoke/VarHandle" ∧ (parseMethodDescriptor yX10_wideOfSquares.desc).map (fun d => d.parameters.length) = some 3 := by decide +kernel
set_option maxHeartbeats 4000000 in
set_option maxRecDepth 100000 in
theorem c_X10_wideOfSquares (l : Launch) (G : GT) (x0 : Int64) (x2 : Int64) (x4 : Int64) {u : Int64} (hu : X10_wideOfSquares x0 x2 x4 = u) : Ctr l G yX10_wideOfSquares wsX10_wideOfSquares rmX10_wideOfSquares [.long x0, .long x2, .long x4] [] (some (.long u)) [] := by
  obtain ⟨enc, henc⟩ : ∃ enc : (Int64) → Option Value × va_W, enc = fun u => (((some (.long u)) : Option Value), ([] : va_W)) := ⟨_, rfl⟩
  refine ctr_of (cc := cX10_wideOfSquares) (own := RX10) (E := fun o => some (enc o)) (o := X10_wideOfSquares x0 x2 x4) (by decide) rfl rfl (L := [(0, .long x0), (2, .long x2), (4, .long x4)]) rfl (Nat.le_of_ble_eq_true rfl) (by rw [hu, henc]) ?_
  intro Z hX hl hG hr
  subst hl; subst hG
  have kl220 : (Cond.constantLong RX10 220 (4)).before (za Z) (zs Z) = true := hX.wd (mcC _ wd_590)
  unfold X10_wideOfSquares
  refine rn_lload_n hX dX10_wideOfSquares_0 0 rfl 1 rfl ?_
  refine rn_lload_n hX dX10_wideOfSquares_1 1 rfl 2 rfl ?_
  refine rn_ladd hX dX10_wideOfSquares_2 3 rfl ?_
  refine rn_lload hX dX10_wideOfSquares_3 2 rfl 5 rfl ?_
  refine rn_lsub hX dX10_wideOfSquares_5 6 rfl ?_
  refine rn_latl (fun v1 => ?_)
  refine rn_lstore hX dX10_wideOfSquares_6 (by decide) (L' := [(6, .long v1), (0, .long x0), (2, .long x2), (4, .long x4)]) rfl 8 rfl ?_
  refine rn_ldc2 hX kl220 dX10_wideOfSquares_8 11 rfl ?_
  refine rn_lload_n hX dX10_wideOfSquares_11 1 rfl 12 rfl ?_
  refine rn_lmul hX dX10_wideOfSquares_12 13 rfl ?_
  refine rn_lload_n hX dX10_wideOfSquares_13 2 rfl 14 rfl ?_
  refine rn_lmul hX dX10_wideOfSquares_14 15 rfl ?_
  refine rn_lload hX dX10_wideOfSquares_15 0 rfl 17 rfl ?_
  refine rn_lload hX dX10_wideOfSquares_17 0 rfl 19 rfl ?_
  refine rn_lmul hX dX10_wideOfSquares_19 20 rfl ?_
  refine rn_lsub hX dX10_wideOfSquares_20 21 rfl ?_
  exact rn_lret hX hr (by rw [henc]) dX10_wideOfSquares_21
abbrev rmX8_wideOf : Room := { frames := 1, cells := 0, slots := 0, locals := 27 }
theorem hdV_X8_wideOf : yX8_wideOf.cls = RX8 ∧ yX8_wideOf.cls ≠ "java/lang/invoke/MethodHandle" ∧ yX8_wideOf.cls ≠ "java/lang/invoke/VarHandle" ∧ (parseMethodDescriptor yX8_wideOf.desc).map (fun d => d.parameters.length) = some 3 := by decide +kernel
set_option maxHeartbeats 4000000 in
set_option maxRecDepth 100000 in
theorem c_X8_wideOf (l : Launch) (G : GT) (a_this a_squares : Nat) (g_places : Int32) (g_squares : (Nat → Int32)) (x1 : Int32) (x2 : Int32) (x3 : Int32) {u : Int64} (hu : X8_wideOf x1 x2 x3 g_squares = some u) : Ctr l G yX8_wideOf wsX8_wideOf rmX8_wideOf [.ref a_this, .int x1, .int x2, .int x3] [(a_this, .inr (8, [.int g_places, .ref a_squares])), (a_squares, .inl (G.2.1 1, 49, .inl g_squares))] (some (.long u)) [(a_this, .inr (8, [.int g_places, .ref a_squares])), (a_squares, .inl (G.2.1 1, 49, .inl g_squares))] := by
  obtain ⟨enc, henc⟩ : ∃ enc : (Int64) → Option Value × va_W, enc = fun u => (((some (.long u)) : Option Value), ([(a_this, .inr (8, [.int g_places, .ref a_squares])), (a_squares, .inl (G.2.1 1, 49, .inl g_squares))] : va_W)) := ⟨_, rfl⟩
  refine ctr_of (cc := cX8_wideOf) (own := RX8) (E := Option.map enc) (o := X8_wideOf x1 x2 x3 g_squares) (by decide) rfl rfl (L := [(0, .ref a_this), (1, .int x1), (2, .int x2), (3, .int x3)]) rfl (Nat.le_of_ble_eq_true rfl) (by rw [hu, henc]; rfl) ?_
  intro Z hX hl hG hr
  subst hl; subst hG
  unfold X8_wideOf
  refine rn_aload_n hX dX8_wideOf_0 0 rfl 1 rfl ?_
  refine rn_iload_n hX dX8_wideOf_1 1 rfl 2 rfl ?_
  refine rn_iload_n hX dX8_wideOf_2 2 rfl 3 rfl ?_
  refine rn_bind (fun u1 hu1 => ?_)
  refine rn_callV0 hX (gV mcC wd_549 wd_512 wd_513 wd_73 wd_514) rfl hdV_X8_square rfl rfl ⟨Nat.le_of_ble_eq_true rfl, Nat.le_of_ble_eq_true rfl⟩ (c_X8_square (zl Z) (zG Z) a_this a_squares g_places g_squares x1 x2 hu1) rfl [0, 1] rfl rfl (ci := 8) rfl rfl rfl (Nat.le_of_ble_eq_true rfl) dX8_wideOf_3 6 rfl (S' := [.int u1]) rfl ⟨Nat.zero_le _, Nat.zero_le _⟩ ?_
  refine rn_i2l hX dX8_wideOf_6 7 rfl ?_
  refine rn_aload_n hX dX8_wideOf_7 0 rfl 8 rfl ?_
  refine rn_iload_n hX dX8_wideOf_8 1 rfl 9 rfl ?_
  refine rn_iload_n hX dX8_wideOf_9 3 rfl 10 rfl ?_
  refine rn_bind (fun u2 hu2 => ?_)
  refine rn_callV0 hX (gV mcC wd_549 wd_512 wd_513 wd_73 wd_514) rfl hdV_X8_square rfl rfl ⟨Nat.le_of_ble_eq_true rfl, Nat.le_of_ble_eq_true rfl⟩ (c_X8_square (zl Z) (zG Z) a_this a_squares g_places g_squares x1 x3 hu2) rfl [0, 1] rfl rfl (ci := 8) rfl rfl rfl (Nat.le_of_ble_eq_true rfl) dX8_wideOf_10 13 rfl (S' := [.int u2, .long u1.toInt64]) rfl ⟨Nat.zero_le _, Nat.zero_le _⟩ ?_
  refine rn_i2l hX dX8_wideOf_13 14 rfl ?_
  refine rn_aload_n hX dX8_wideOf_14 0 rfl 15 rfl ?_
  refine rn_iload_n hX dX8_wideOf_15 2 rfl 16 rfl ?_
  refine rn_iload_n hX dX8_wideOf_16 3 rfl 17 rfl ?_
  refine rn_bind (fun u3 hu3 => ?_)
  refine rn_callV0 hX (gV mcC wd_549 wd_512 wd_513 wd_73 wd_514) rfl hdV_X8_square rfl rfl ⟨Nat.le_of_ble_eq_true rfl, Nat.le_of_ble_eq_true rfl⟩ (c_X8_square (zl Z) (zG Z) a_this a_squares g_places g_squares x2 x3 hu3) rfl [0, 1] rfl rfl (ci := 8) rfl rfl rfl (Nat.le_of_ble_eq_true rfl) dX8_wideOf_17 20 rfl (S' := [.int u3, .long u2.toInt64, .long u1.toInt64]) rfl ⟨Nat.zero_le _, Nat.zero_le _⟩ ?_
  refine rn_i2l hX dX8_wideOf_20 21 rfl ?_
  refine rn_callSN0 hX (goodK mcC wd_589) rfl (host := "OnlyFar") hn_X8_54 (hX.wd (mcC _ wd_70)) (hX.wd (mcC _ wd_588)) hdS_X10_wideOfSquares rfl rfl ⟨Nat.le_of_ble_eq_true rfl, Nat.le_of_ble_eq_true rfl⟩ (c_X10_wideOfSquares (zl Z) (zG Z) u1.toInt64 u2.toInt64 u3.toInt64 rfl) rfl [] rfl rfl rfl (Nat.le_of_ble_eq_true rfl) dX8_wideOf_21 24 rfl (S' := [.long (X10_wideOfSquares u1.toInt64 u2.toInt64 u3.toInt64)]) rfl ⟨Nat.zero_le _, Nat.zero_le _⟩ ?_
  exact rn_lret hX hr (by rw [henc]; rfl) dX8_wideOf_24
abbrev rmX0_layPlaces : Room := { frames := 2, cells := 0, slots := 0, locals := 50 }
theorem hdV_X0_layPlaces : yX0_layPlaces.cls = RX0 ∧ yX0_layPlaces.cls ≠ "java/lang/invoke/MethodHandle" ∧ yX0_layPlaces.cls ≠ "java/lang/invoke/VarHandle" ∧ (parseMethodDescriptor yX0_layPlaces.desc).map (fun d => d.parameters.length) = some 2 := by decide +kernel
set_option maxHeartbeats 4000000 in
set_option maxRecDepth 100000 in
theorem c_X0_layPlaces (l : Launch) (G : GT) (a_this a_table a_table_squares a_sixthOf a_sides a_bonds : Nat) (g_laid : Int32) (g_groups : Int32) (g_stands : Int32) (g_offLine : Int32) (g_table_places : Int32) (g_table_squares : (Nat → Int32)) (x1 : Int32) (x2 : Int32) {u : Int32 × Int32} (hu : X0_layPlaces x1 x2 g_laid g_offLine g_table_places g_table_squares = some u) : Ctr l G yX0_layPlaces wsX0_layPlaces rmX0_layPlaces [.ref a_this, .int x1, .int x2] [(a_this, .inr (0, [.int g_laid, .int g_groups, .int g_stands, .ref a_table, .ref a_sixthOf, .ref a_sides, .ref a_bonds, .int g_offLine])), (a_table, .inr (8, [.int g_table_places, .ref a_table_squares])), (a_table_squares, .inl (G.2.1 1, 49, .inl g_table_squares))] none [(a_this, .inr (0, [.int u.1, .int g_groups, .int g_stands, .ref a_table, .ref a_sixthOf, .ref a_sides, .ref a_bonds, .int u.2])), (a_table, .inr (8, [.int g_table_places, .ref a_table_squares])), (a_table_squares, .inl (G.2.1 1, 49, .inl g_table_squares))] := by
  obtain ⟨enc, henc⟩ : ∃ enc : (Int32 × Int32) → Option Value × va_W, enc = fun u => ((none : Option Value), ([(a_this, .inr (0, [.int u.1, .int g_groups, .int g_stands, .ref a_table, .ref a_sixthOf, .ref a_sides, .ref a_bonds, .int u.2])), (a_table, .inr (8, [.int g_table_places, .ref a_table_squares])), (a_table_squares, .inl (G.2.1 1, 49, .inl g_table_squares))] : va_W)) := ⟨_, rfl⟩
  refine ctr_of (cc := cX0_layPlaces) (own := RX0) (E := Option.map enc) (o := X0_layPlaces x1 x2 g_laid g_offLine g_table_places g_table_squares) (by decide) rfl rfl (L := [(0, .ref a_this), (1, .int x1), (2, .int x2)]) rfl (Nat.le_of_ble_eq_true rfl) (by rw [hu, henc]; rfl) ?_
  intro Z hX hl hG hr
  subst hl; subst hG
  have fl65 : (Cond.fieldLink RX0 65 "OnlyFar$Drawing" "laid" "I").before (za Z) (zs Z) = true := hX.wd (mcC _ wd_300)
  have fl71 : (Cond.fieldLink RX0 71 "OnlyFar$Drawing" "offLine" "I").before (za Z) (zs Z) = true := hX.wd (mcC _ wd_310)
  have fl74 : (Cond.fieldLink RX0 74 "OnlyFar$Table" "places" "I").before (za Z) (zs Z) = true := hX.wd (mcC _ wd_132)
  have fl9 : (Cond.fieldLink RX0 9 "OnlyFar$Drawing" "table" "LOnlyFar$Table;").before (za Z) (zs Z) = true := hX.wd (mcC _ wd_306)
  have inX0 : ∀ w ∈ u_ws RX0 TX0 8, w ∈ wsX0_layPlaces := fun w h => mcC w (inC_X0 w h)
  have inX8 : ∀ w ∈ u_ws RX8 TX8 2, w ∈ wsX0_layPlaces := fun w h => mcC w (inC_X8 w h)
  have hJ89 : ∀ (again : Int32 → Int32 → Int32 → Int32 → Int32 → Option (Int32 × Int32)) (hagain : ∀ (x1 : Int32) (x2 : Int32) (x3 : Int32) (g_laid : Int32) (g_offLine : Int32), Rn Z 6 (Option.map enc) 0 0 12 [(0, .ref a_this), (1, .int x1), (2, .int x2), (3, .int x3)] [] [(a_this, .inr (0, [.int g_laid, .int g_groups, .int g_stands, .ref a_table, .ref a_sixthOf, .ref a_sides, .ref a_bonds, .int g_offLine])), (a_table, .inr (8, [.int g_table_places, .ref a_table_squares])), (a_table_squares, .inl ((zG Z).2.1 1, 49, .inl g_table_squares))] (again x1 x2 x3 g_laid g_offLine)) (x1 : Int32) (x2 : Int32) (x3 : Int32) (g_laid : Int32) (g_offLine : Int32), Rn Z 6 (Option.map enc) 0 0 89 [(0, .ref a_this), (1, .int x1), (2, .int x2), (3, .int x3)] [] [(a_this, .inr (0, [.int g_laid, .int g_groups, .int g_stands, .ref a_table, .ref a_sixthOf, .ref a_sides, .ref a_bonds, .int g_offLine])), (a_table, .inr (8, [.int g_table_places, .ref a_table_squares])), (a_table_squares, .inl ((zG Z).2.1 1, 49, .inl g_table_squares))] (X0_layPlaces_J89 again x1 x2 x3 g_laid g_offLine) := by
    intro again hagain x1 x2 x3 g_laid g_offLine
    unfold X0_layPlaces_J89
    refine rn_iinc hX dX0_layPlaces_89 3 rfl ic_1 (by decide) (L' := fun v1 => [(3, .int v1), (0, .ref a_this), (1, .int x1), (2, .int x2)]) (fun _ => rfl) 92 rfl (fun v1 => ?_)
    refine rn_goto hX dX0_layPlaces_92 12 (by decide) ?_
    refine rn_sub [1, 2, 3, 0] rfl ?_
    exact hagain x1 x2 v1 g_laid g_offLine
  have hJ70 : ∀ (again : Int32 → Int32 → Int32 → Int32 → Int32 → Option (Int32 × Int32)) (hagain : ∀ (x1 : Int32) (x2 : Int32) (x3 : Int32) (g_laid : Int32) (g_offLine : Int32), Rn Z 6 (Option.map enc) 0 0 12 [(0, .ref a_this), (1, .int x1), (2, .int x2), (3, .int x3)] [] [(a_this, .inr (0, [.int g_laid, .int g_groups, .int g_stands, .ref a_table, .ref a_sixthOf, .ref a_sides, .ref a_bonds, .int g_offLine])), (a_table, .inr (8, [.int g_table_places, .ref a_table_squares])), (a_table_squares, .inl ((zG Z).2.1 1, 49, .inl g_table_squares))] (again x1 x2 x3 g_laid g_offLine)) (x1 : Int32) (x2 : Int32) (x3 : Int32) (x4 : Int64) (g_laid : Int32) (g_offLine : Int32), Rn Z 6 (Option.map enc) 0 0 70 [(0, .ref a_this), (1, .int x1), (2, .int x2), (3, .int x3), (4, .long x4)] [] [(a_this, .inr (0, [.int g_laid, .int g_groups, .int g_stands, .ref a_table, .ref a_sixthOf, .ref a_sides, .ref a_bonds, .int g_offLine])), (a_table, .inr (8, [.int g_table_places, .ref a_table_squares])), (a_table_squares, .inl ((zG Z).2.1 1, 49, .inl g_table_squares))] (X0_layPlaces_J70 again x1 x2 x3 x4 g_laid g_offLine) := by
    intro again hagain x1 x2 x3 x4 g_laid g_offLine
    unfold X0_layPlaces_J70
    refine rn_lload hX dX0_layPlaces_70 4 rfl 72 rfl ?_
    refine rn_lconst hX dX0_layPlaces_72 73 rfl lc_0 ?_
    refine rn_lcmp_le hX dX0_layPlaces_73 74 rfl dX0_layPlaces_74 89 (by decide) 77 rfl ?_ ?_
    · refine rn_sub [0, 1, 2, 3] rfl ?_
      exact (hJ89 _ hagain) x1 x2 x3 g_laid g_offLine
    refine rn_aload_n hX dX0_layPlaces_77 0 rfl 78 rfl ?_
    refine rn_dup hX dX0_layPlaces_78 79 rfl rfl ?_
    refine rn_get hX inX0 0 rfl rfl 7 (by decide) fl71 rfl rfl dX0_layPlaces_79 82 rfl ?_
    refine rn_iconst hX dX0_layPlaces_82 83 rfl ic_1 ?_
    refine rn_iload_n hX dX0_layPlaces_83 3 rfl 84 rfl ?_
    refine rn_ishl hX dX0_layPlaces_84 85 rfl ?_
    refine rn_ior hX dX0_layPlaces_85 86 rfl ?_
    refine rn_lati (fun v2 => ?_)
    refine rn_put hX inX0 tyX0_ok nmX0 0 rfl rfl 7 (by decide) fl71 rfl rfl rfl rfl (Nat.le_of_ble_eq_true rfl) dX0_layPlaces_86 89 rfl (w1 := [(a_this, .inr (0, [.int g_laid, .int g_groups, .int g_stands, .ref a_table, .ref a_sixthOf, .ref a_sides, .ref a_bonds, .int v2])), (a_table, .inr (8, [.int g_table_places, .ref a_table_squares])), (a_table_squares, .inl ((zG Z).2.1 1, 49, .inl g_table_squares))]) rfl ?_
    refine rn_sub [0, 1, 2, 3] rfl ?_
    exact (hJ89 _ hagain) x1 x2 x3 g_laid v2
  have hB12 : ∀ (again : Int32 → Int32 → Int32 → Int32 → Int32 → Option (Int32 × Int32)) (hagain : ∀ (x1 : Int32) (x2 : Int32) (x3 : Int32) (g_laid : Int32) (g_offLine : Int32), Rn Z 6 (Option.map enc) 0 0 12 [(0, .ref a_this), (1, .int x1), (2, .int x2), (3, .int x3)] [] [(a_this, .inr (0, [.int g_laid, .int g_groups, .int g_stands, .ref a_table, .ref a_sixthOf, .ref a_sides, .ref a_bonds, .int g_offLine])), (a_table, .inr (8, [.int g_table_places, .ref a_table_squares])), (a_table_squares, .inl ((zG Z).2.1 1, 49, .inl g_table_squares))] (again x1 x2 x3 g_laid g_offLine)) (x1 : Int32) (x2 : Int32) (x3 : Int32) (g_laid : Int32) (g_offLine : Int32), Rn Z 6 (Option.map enc) 0 0 12 [(0, .ref a_this), (1, .int x1), (2, .int x2), (3, .int x3)] [] [(a_this, .inr (0, [.int g_laid, .int g_groups, .int g_stands, .ref a_table, .ref a_sixthOf, .ref a_sides, .ref a_bonds, .int g_offLine])), (a_table, .inr (8, [.int g_table_places, .ref a_table_squares])), (a_table_squares, .inl ((zG Z).2.1 1, 49, .inl g_table_squares))] (X0_layPlaces_B12 g_table_places g_table_squares again x1 x2 x3 g_laid g_offLine) := by
    intro again hagain x1 x2 x3 g_laid g_offLine
    unfold X0_layPlaces_B12
    refine rn_iload_n hX dX0_layPlaces_12 3 rfl 13 rfl ?_
    refine rn_aload_n hX dX0_layPlaces_13 0 rfl 14 rfl ?_
    refine rn_get hX inX0 0 rfl rfl 3 (by decide) fl9 rfl rfl dX0_layPlaces_14 17 rfl ?_
    refine rn_get hX inX8 1 rfl rfl 0 (by decide) fl74 rfl rfl dX0_layPlaces_17 20 rfl ?_
    refine rn_icmp_ge hX dX0_layPlaces_20 95 (by decide) 23 rfl ?_ ?_
    · exact rn_vret hX hr (by rw [henc]; rfl) dX0_layPlaces_95
    refine rn_aload_n hX dX0_layPlaces_23 0 rfl 24 rfl ?_
    refine rn_get hX inX0 0 rfl rfl 3 (by decide) fl9 rfl rfl dX0_layPlaces_24 27 rfl ?_
    refine rn_iload_n hX dX0_layPlaces_27 1 rfl 28 rfl ?_
    refine rn_iload_n hX dX0_layPlaces_28 2 rfl 29 rfl ?_
    refine rn_iload_n hX dX0_layPlaces_29 3 rfl 30 rfl ?_
    refine rn_bind (fun u3 hu3 => ?_)
    refine rn_callV0 hX (gV mcC wd_786 wd_580 wd_581 wd_73 wd_582) rfl hdV_X8_isToldThree rfl rfl ⟨Nat.le_of_ble_eq_true rfl, Nat.le_of_ble_eq_true rfl⟩ (c_X8_isToldThree (zl Z) (zG Z) a_table a_table_squares g_table_places g_table_squares x1 x2 x3 hu3) rfl [1, 2] rfl rfl (ci := 8) rfl rfl rfl (Nat.le_of_ble_eq_true rfl) dX0_layPlaces_30 33 rfl (S' := [.int u3]) rfl ⟨Nat.zero_le _, Nat.zero_le _⟩ ?_
    refine rn_if_ne hX dX0_layPlaces_33 39 (by decide) 36 rfl ?_ ?_
    · refine rn_aload_n hX dX0_layPlaces_39 0 rfl 40 rfl ?_
      refine rn_get hX inX0 0 rfl rfl 3 (by decide) fl9 rfl rfl dX0_layPlaces_40 43 rfl ?_
      refine rn_iload_n hX dX0_layPlaces_43 1 rfl 44 rfl ?_
      refine rn_iload_n hX dX0_layPlaces_44 2 rfl 45 rfl ?_
      refine rn_iload_n hX dX0_layPlaces_45 3 rfl 46 rfl ?_
      refine rn_bind (fun u4 hu4 => ?_)
      refine rn_callV0 hX (gV mcC wd_787 wd_584 wd_585 wd_73 wd_586) rfl hdV_X8_wideOf rfl rfl ⟨Nat.le_of_ble_eq_true rfl, Nat.le_of_ble_eq_true rfl⟩ (c_X8_wideOf (zl Z) (zG Z) a_table a_table_squares g_table_places g_table_squares x1 x2 x3 hu4) rfl [1, 2] rfl rfl (ci := 8) rfl rfl rfl (Nat.le_of_ble_eq_true rfl) dX0_layPlaces_46 49 rfl (S' := [.long u4]) rfl ⟨Nat.zero_le _, Nat.zero_le _⟩ ?_
      refine rn_lstore hX dX0_layPlaces_49 (by decide) (L' := [(4, .long u4), (0, .ref a_this), (1, .int x1), (2, .int x2), (3, .int x3)]) rfl 51 rfl ?_
      refine rn_lload hX dX0_layPlaces_51 0 rfl 53 rfl ?_
      refine rn_lconst hX dX0_layPlaces_53 54 rfl lc_0 ?_
      refine rn_lcmp_lt hX dX0_layPlaces_54 55 rfl dX0_layPlaces_55 70 (by decide) 58 rfl ?_ ?_
      · refine rn_sub [1, 2, 3, 4, 0] rfl ?_
        exact (hJ70 _ hagain) x1 x2 x3 u4 g_laid g_offLine
      refine rn_aload_n hX dX0_layPlaces_58 1 rfl 59 rfl ?_
      refine rn_dup hX dX0_layPlaces_59 60 rfl rfl ?_
      refine rn_get hX inX0 0 rfl rfl 0 (by decide) fl65 rfl rfl dX0_layPlaces_60 63 rfl ?_
      refine rn_iconst hX dX0_layPlaces_63 64 rfl ic_1 ?_
      refine rn_iload_n hX dX0_layPlaces_64 4 rfl 65 rfl ?_
      refine rn_ishl hX dX0_layPlaces_65 66 rfl ?_
      refine rn_ior hX dX0_layPlaces_66 67 rfl ?_
      refine rn_lati (fun v5 => ?_)
      refine rn_put hX inX0 tyX0_ok nmX0 0 rfl rfl 0 (by decide) fl65 rfl rfl rfl rfl (Nat.le_of_ble_eq_true rfl) dX0_layPlaces_67 70 rfl (w1 := [(a_this, .inr (0, [.int v5, .int g_groups, .int g_stands, .ref a_table, .ref a_sixthOf, .ref a_sides, .ref a_bonds, .int g_offLine])), (a_table, .inr (8, [.int g_table_places, .ref a_table_squares])), (a_table_squares, .inl ((zG Z).2.1 1, 49, .inl g_table_squares))]) rfl ?_
      refine rn_sub [1, 2, 3, 4, 0] rfl ?_
      exact (hJ70 _ hagain) x1 x2 x3 u4 v5 g_offLine
    refine rn_goto hX dX0_layPlaces_36 89 (by decide) ?_
    exact (hJ89 _ hagain) x1 x2 x3 g_laid g_offLine
  have hL12 : ∀ (n : Nat) (x1 : Int32) (x2 : Int32) (x3 : Int32) (g_laid : Int32) (g_offLine : Int32), Rn Z 6 (Option.map enc) 0 0 12 [(0, .ref a_this), (1, .int x1), (2, .int x2), (3, .int x3)] [] [(a_this, .inr (0, [.int g_laid, .int g_groups, .int g_stands, .ref a_table, .ref a_sixthOf, .ref a_sides, .ref a_bonds, .int g_offLine])), (a_table, .inr (8, [.int g_table_places, .ref a_table_squares])), (a_table_squares, .inl ((zG Z).2.1 1, 49, .inl g_table_squares))] (X0_layPlaces_L12 g_table_places g_table_squares n x1 x2 x3 g_laid g_offLine) := by
    intro n
    induction n with
    | zero => intros; exact rn_none
    | succ n ih => exact hB12 _ ih
  unfold X0_layPlaces
  refine rn_aload_n hX dX0_layPlaces_0 0 rfl 1 rfl ?_
  refine rn_iconst hX dX0_layPlaces_1 2 rfl ic_0 ?_
  refine rn_put hX inX0 tyX0_ok nmX0 0 rfl rfl 0 (by decide) fl65 rfl rfl rfl rfl (Nat.le_of_ble_eq_true rfl) dX0_layPlaces_2 5 rfl (w1 := [(a_this, .inr (0, [.int (0 : Int32), .int g_groups, .int g_stands, .ref a_table, .ref a_sixthOf, .ref a_sides, .ref a_bonds, .int g_offLine])), (a_table, .inr (8, [.int g_table_places, .ref a_table_squares])), (a_table_squares, .inl ((zG Z).2.1 1, 49, .inl g_table_squares))]) rfl ?_
  refine rn_aload_n hX dX0_layPlaces_5 0 rfl 6 rfl ?_
  refine rn_iconst hX dX0_layPlaces_6 7 rfl ic_0 ?_
  refine rn_put hX inX0 tyX0_ok nmX0 0 rfl rfl 7 (by decide) fl71 rfl rfl rfl rfl (Nat.le_of_ble_eq_true rfl) dX0_layPlaces_7 10 rfl (w1 := [(a_this, .inr (0, [.int (0 : Int32), .int g_groups, .int g_stands, .ref a_table, .ref a_sixthOf, .ref a_sides, .ref a_bonds, .int (0 : Int32)])), (a_table, .inr (8, [.int g_table_places, .ref a_table_squares])), (a_table_squares, .inl ((zG Z).2.1 1, 49, .inl g_table_squares))]) rfl ?_
  refine rn_iconst hX dX0_layPlaces_10 11 rfl ic_0 ?_
  refine rn_istore_n hX dX0_layPlaces_11 3 rfl (by decide) (L' := [(3, .int (0 : Int32)), (0, .ref a_this), (1, .int x1), (2, .int x2)]) rfl 12 rfl ?_
  refine rn_sub [1, 2, 3, 0] rfl ?_
  exact (hL12  1000) x1 x2 (0 : Int32) (0 : Int32) (0 : Int32)
abbrev rmX10_hasBit : Room := { frames := 0, cells := 0, slots := 0, locals := 0 }
theorem hdS_X10_hasBit : yX10_hasBit.cls ≠ "java/lang/invoke/MethodHandle" ∧ yX10_hasBit.cls ≠ "java/lang/invoke/VarHandle" ∧ (parseMethodDescriptor yX10_hasBit.desc).map (fun d => d.parameters.length) = some 2 := by decide +kernel
set_option maxHeartbeats 4000000 in
set_option maxRecDepth 100000 in
theorem c_X10_hasBit (l : Launch) (G : GT) (x0 : Int32) (x1 : Int32) {u : Int32} (hu : X10_hasBit x0 x1 = u) : Ctr l G yX10_hasBit wsX10_hasBit rmX10_hasBit [.int x0, .int x1] [] (some (.int u)) [] := by
  obtain ⟨enc, henc⟩ : ∃ enc : (Int32) → Option Value × va_W, enc = fun u => (((some (.int u)) : Option Value), ([] : va_W)) := ⟨_, rfl⟩
  refine ctr_of (cc := cX10_hasBit) (own := RX10) (E := fun o => some (enc o)) (o := X10_hasBit x0 x1) (by decide) rfl rfl (L := [(0, .int x0), (1, .int x1)]) rfl (Nat.le_of_ble_eq_true rfl) (by rw [hu, henc]) ?_
  intro Z hX hl hG hr
  subst hl; subst hG
  unfold X10_hasBit
  refine rn_iload_n hX dX10_hasBit_0 0 rfl 1 rfl ?_
  refine rn_iload_n hX dX10_hasBit_1 1 rfl 2 rfl ?_
  refine rn_ishr hX dX10_hasBit_2 3 rfl ?_
  refine rn_iconst hX dX10_hasBit_3 4 rfl ic_1 ?_
  refine rn_iand hX dX10_hasBit_4 5 rfl ?_
  refine rn_if_eq hX dX10_hasBit_5 12 (by decide) 8 rfl ?_ ?_
  · refine rn_iconst hX dX10_hasBit_12 13 rfl ic_0 ?_
    exact rn_zret hX rfl hr (by rw [henc]) dX10_hasBit_13
  refine rn_iconst hX dX10_hasBit_8 9 rfl ic_1 ?_
  refine rn_goto hX dX10_hasBit_9 13 (by decide) ?_
  exact rn_zret hX rfl hr (by rw [henc]) dX10_hasBit_13
abbrev rmX0_isLaid : Room := { frames := 1, cells := 0, slots := 0, locals := 21 }
theorem hdV_X0_isLaid : yX0_isLaid.cls = RX0 ∧ yX0_isLaid.cls ≠ "java/lang/invoke/MethodHandle" ∧ yX0_isLaid.cls ≠ "java/lang/invoke/VarHandle" ∧ (parseMethodDescriptor yX0_isLaid.desc).map (fun d => d.parameters.length) = some 1 := by decide +kernel
set_option maxHeartbeats 4000000 in
set_option maxRecDepth 100000 in
theorem c_X0_isLaid (l : Launch) (G : GT) (a_this a_table a_sixthOf a_sides a_bonds : Nat) (g_laid : Int32) (g_groups : Int32) (g_stands : Int32) (g_offLine : Int32) (x1 : Int32) {u : Int32} (hu : X0_isLaid x1 g_laid = some u) : Ctr l G yX0_isLaid wsX0_isLaid rmX0_isLaid [.ref a_this, .int x1] [(a_this, .inr (0, [.int g_laid, .int g_groups, .int g_stands, .ref a_table, .ref a_sixthOf, .ref a_sides, .ref a_bonds, .int g_offLine]))] (some (.int u)) [(a_this, .inr (0, [.int g_laid, .int g_groups, .int g_stands, .ref a_table, .ref a_sixthOf, .ref a_sides, .ref a_bonds, .int g_offLine]))] := by
  obtain ⟨enc, henc⟩ : ∃ enc : (Int32) → Option Value × va_W, enc = fun u => (((some (.int u)) : Option Value), ([(a_this, .inr (0, [.int g_laid, .int g_groups, .int g_stands, .ref a_table, .ref a_sixthOf, .ref a_sides, .ref a_bonds, .int g_offLine]))] : va_W)) := ⟨_, rfl⟩
  refine ctr_of (cc := cX0_isLaid) (own := RX0) (E := Option.map enc) (o := X0_isLaid x1 g_laid) (by decide) rfl rfl (L := [(0, .ref a_this), (1, .int x1)]) rfl (Nat.le_of_ble_eq_true rfl) (by rw [hu, henc]; rfl) ?_
  intro Z hX hl hG hr
  subst hl; subst hG
  have fl65 : (Cond.fieldLink RX0 65 "OnlyFar$Drawing" "laid" "I").before (za Z) (zs Z) = true := hX.wd (mcC _ wd_300)
  have inX0 : ∀ w ∈ u_ws RX0 TX0 8, w ∈ wsX0_isLaid := fun w h => mcC w (inC_X0 w h)
  unfold X0_isLaid
  refine rn_aload_n hX dX0_isLaid_0 0 rfl 1 rfl ?_
  refine rn_get hX inX0 0 rfl rfl 0 (by decide) fl65 rfl rfl dX0_isLaid_1 4 rfl ?_
  refine rn_iload_n hX dX0_isLaid_4 1 rfl 5 rfl ?_
  refine rn_callSN0 hX (goodK mcC wd_684) rfl (host := "OnlyFar") hn_X0_68 (hX.wd (mcC _ wd_70)) (hX.wd (mcC _ wd_683)) hdS_X10_hasBit rfl rfl ⟨Nat.le_of_ble_eq_true rfl, Nat.le_of_ble_eq_true rfl⟩ (c_X10_hasBit (zl Z) (zG Z) g_laid x1 rfl) rfl [] rfl rfl rfl (Nat.le_of_ble_eq_true rfl) dX0_isLaid_5 8 rfl (S' := [.int (X10_hasBit g_laid x1)]) rfl ⟨Nat.zero_le _, Nat.zero_le _⟩ ?_
  refine rn_gz (fun hz1 => ?_)
  exact rn_zret hX (nar_z hz1) hr (by rw [henc]; rfl) dX0_isLaid_8
abbrev rmX10_pairOf : Room := { frames := 1, cells := 0, slots := 0, locals := 21 }
theorem hdS_X10_pairOf : yX10_pairOf.cls ≠ "java/lang/invoke/MethodHandle" ∧ yX10_pairOf.cls ≠ "java/lang/invoke/VarHandle" ∧ (parseMethodDescriptor yX10_pairOf.desc).map (fun d => d.parameters.length) = some 2 := by decide +kernel
set_option maxHeartbeats 4000000 in
set_option maxRecDepth 100000 in
theorem c_X10_pairOf (l : Launch) (G : GT) (x0 : Int32) (x1 : Int32) {u : Int32} (hu : X10_pairOf x0 x1 = u) : Ctr l G yX10_pairOf wsX10_pairOf rmX10_pairOf [.int x0, .int x1] [] (some (.int u)) [] := by
  obtain ⟨enc, henc⟩ : ∃ enc : (Int32) → Option Value × va_W, enc = fun u => (((some (.int u)) : Option Value), ([] : va_W)) := ⟨_, rfl⟩
  refine ctr_of (cc := cX10_pairOf) (own := RX10) (E := fun o => some (enc o)) (o := X10_pairOf x0 x1) (by decide) rfl rfl (L := [(0, .int x0), (1, .int x1)]) rfl (Nat.le_of_ble_eq_true rfl) (by rw [hu, henc]) ?_
  intro Z hX hl hG hr
  subst hl; subst hG
  have mathmaxS : (Cond.static Lib.Math.max.name).before (za Z) (zs Z) = true := hX.wd (mcC _ wd_520)
  have mathmaxI : (Cond.initialized "java/lang/Math").before (za Z) (zs Z) = true := hX.wd (mcC _ wd_87)
  have mathmaxC : (Cond.code Lib.Math.max.name Lib.Math.max.code 2 (some .int)).before (za Z) (zs Z) = true := hX.wd (mcC _ wd_521)
  have mathminS : (Cond.static Lib.Math.min.name).before (za Z) (zs Z) = true := hX.wd (mcC _ wd_567)
  have mathminI : (Cond.initialized "java/lang/Math").before (za Z) (zs Z) = true := hX.wd (mcC _ wd_87)
  have mathminC : (Cond.code Lib.Math.min.name Lib.Math.min.code 2 (some .int)).before (za Z) (zs Z) = true := hX.wd (mcC _ wd_568)
  have ml252 : (Cond.methodLink RX10 252 Lib.Math.max.name).before (za Z) (zs Z) = true := hX.wd (mcC _ wd_565)
  have ml257 : (Cond.methodLink RX10 257 Lib.Math.min.name).before (za Z) (zs Z) = true := hX.wd (mcC _ wd_566)
  unfold X10_pairOf
  refine rn_iload_n hX dX10_pairOf_0 0 rfl 1 rfl ?_
  refine rn_iload_n hX dX10_pairOf_1 1 rfl 2 rfl ?_
  refine rn_mmax hX ml252 mathmaxS mathmaxI mathmaxC (Nat.le_of_ble_eq_true rfl) (Nat.le_of_ble_eq_true rfl) ⟨Nat.zero_le _, Nat.zero_le _⟩ dX10_pairOf_2 5 rfl ?_
  refine rn_lati (fun v1 => ?_)
  refine rn_istore_n hX dX10_pairOf_5 2 rfl (by decide) (L' := [(2, .int v1), (0, .int x0), (1, .int x1)]) rfl 6 rfl ?_
  refine rn_iload_n hX dX10_pairOf_6 0 rfl 7 rfl ?_
  refine rn_iload_n hX dX10_pairOf_7 0 rfl 8 rfl ?_
  refine rn_iconst hX dX10_pairOf_8 9 rfl ic_1 ?_
  refine rn_isub hX dX10_pairOf_9 10 rfl ?_
  refine rn_imul hX dX10_pairOf_10 11 rfl ?_
  refine rn_iconst hX dX10_pairOf_11 12 rfl ic_2 ?_
  refine rn_idiv hX dX10_pairOf_12 13 rfl (by decide) ?_
  refine rn_iload_n hX dX10_pairOf_13 1 rfl 14 rfl ?_
  refine rn_iload_n hX dX10_pairOf_14 2 rfl 15 rfl ?_
  refine rn_mmin hX ml257 mathminS mathminI mathminC (Nat.le_of_ble_eq_true rfl) (Nat.le_of_ble_eq_true rfl) ⟨Nat.zero_le _, Nat.zero_le _⟩ dX10_pairOf_15 18 rfl ?_
  refine rn_iadd hX dX10_pairOf_18 19 rfl ?_
  exact rn_iret hX hr (by rw [henc]) dX10_pairOf_19
abbrev rmX8_leaning : Room := { frames := 1, cells := 0, slots := 0, locals := 22 }
theorem hdV_X8_leaning : yX8_leaning.cls = RX8 ∧ yX8_leaning.cls ≠ "java/lang/invoke/MethodHandle" ∧ yX8_leaning.cls ≠ "java/lang/invoke/VarHandle" ∧ (parseMethodDescriptor yX8_leaning.desc).map (fun d => d.parameters.length) = some 3 := by decide +kernel
set_option maxHeartbeats 4000000 in
set_option maxRecDepth 100000 in
theorem c_X8_leaning (l : Launch) (G : GT) (a_this a_squares : Nat) (g_places : Int32) (g_squares : (Nat → Int32)) (x1 : Int32) (x2 : Int32) (x3 : Int32) {u : Int64} (hu : X8_leaning x1 x2 x3 g_squares = some u) : Ctr l G yX8_leaning wsX8_leaning rmX8_leaning [.ref a_this, .int x1, .int x2, .int x3] [(a_this, .inr (8, [.int g_places, .ref a_squares])), (a_squares, .inl (G.2.1 1, 49, .inl g_squares))] (some (.long u)) [(a_this, .inr (8, [.int g_places, .ref a_squares])), (a_squares, .inl (G.2.1 1, 49, .inl g_squares))] := by
  obtain ⟨enc, henc⟩ : ∃ enc : (Int64) → Option Value × va_W, enc = fun u => (((some (.long u)) : Option Value), ([(a_this, .inr (8, [.int g_places, .ref a_squares])), (a_squares, .inl (G.2.1 1, 49, .inl g_squares))] : va_W)) := ⟨_, rfl⟩
  refine ctr_of (cc := cX8_leaning) (own := RX8) (E := Option.map enc) (o := X8_leaning x1 x2 x3 g_squares) (by decide) rfl rfl (L := [(0, .ref a_this), (1, .int x1), (2, .int x2), (3, .int x3)]) rfl (Nat.le_of_ble_eq_true rfl) (by rw [hu, henc]; rfl) ?_
  intro Z hX hl hG hr
  subst hl; subst hG
  unfold X8_leaning
  refine rn_aload_n hX dX8_leaning_0 0 rfl 1 rfl ?_
  refine rn_iload_n hX dX8_leaning_1 1 rfl 2 rfl ?_
  refine rn_iload_n hX dX8_leaning_2 2 rfl 3 rfl ?_
  refine rn_bind (fun u1 hu1 => ?_)
  refine rn_callV0 hX (gV mcC wd_549 wd_512 wd_513 wd_73 wd_514) rfl hdV_X8_square rfl rfl ⟨Nat.le_of_ble_eq_true rfl, Nat.le_of_ble_eq_true rfl⟩ (c_X8_square (zl Z) (zG Z) a_this a_squares g_places g_squares x1 x2 hu1) rfl [0, 1] rfl rfl (ci := 8) rfl rfl rfl (Nat.le_of_ble_eq_true rfl) dX8_leaning_3 6 rfl (S' := [.int u1]) rfl ⟨Nat.zero_le _, Nat.zero_le _⟩ ?_
  refine rn_i2l hX dX8_leaning_6 7 rfl ?_
  refine rn_aload_n hX dX8_leaning_7 0 rfl 8 rfl ?_
  refine rn_iload_n hX dX8_leaning_8 1 rfl 9 rfl ?_
  refine rn_iload_n hX dX8_leaning_9 3 rfl 10 rfl ?_
  refine rn_bind (fun u2 hu2 => ?_)
  refine rn_callV0 hX (gV mcC wd_549 wd_512 wd_513 wd_73 wd_514) rfl hdV_X8_square rfl rfl ⟨Nat.le_of_ble_eq_true rfl, Nat.le_of_ble_eq_true rfl⟩ (c_X8_square (zl Z) (zG Z) a_this a_squares g_places g_squares x1 x3 hu2) rfl [0, 1] rfl rfl (ci := 8) rfl rfl rfl (Nat.le_of_ble_eq_true rfl) dX8_leaning_10 13 rfl (S' := [.int u2, .long u1.toInt64]) rfl ⟨Nat.zero_le _, Nat.zero_le _⟩ ?_
  refine rn_i2l hX dX8_leaning_13 14 rfl ?_
  refine rn_ladd hX dX8_leaning_14 15 rfl ?_
  refine rn_aload_n hX dX8_leaning_15 0 rfl 16 rfl ?_
  refine rn_iload_n hX dX8_leaning_16 2 rfl 17 rfl ?_
  refine rn_iload_n hX dX8_leaning_17 3 rfl 18 rfl ?_
  refine rn_bind (fun u3 hu3 => ?_)
  refine rn_callV0 hX (gV mcC wd_549 wd_512 wd_513 wd_73 wd_514) rfl hdV_X8_square rfl rfl ⟨Nat.le_of_ble_eq_true rfl, Nat.le_of_ble_eq_true rfl⟩ (c_X8_square (zl Z) (zG Z) a_this a_squares g_places g_squares x2 x3 hu3) rfl [0, 1] rfl rfl (ci := 8) rfl rfl rfl (Nat.le_of_ble_eq_true rfl) dX8_leaning_18 21 rfl (S' := [.int u3, .long (u1.toInt64 + u2.toInt64)]) rfl ⟨Nat.zero_le _, Nat.zero_le _⟩ ?_
  refine rn_i2l hX dX8_leaning_21 22 rfl ?_
  refine rn_lsub hX dX8_leaning_22 23 rfl ?_
  exact rn_lret hX hr (by rw [henc]; rfl) dX8_leaning_23
abbrev rmX7_take : Room := { frames := 2, cells := 0, slots := 0, locals := 50 }
theorem hdV_X7_take : yX7_take.cls = RX7 ∧ yX7_take.cls ≠ "java/lang/invoke/MethodHandle" ∧ yX7_take.cls ≠ "java/lang/invoke/VarHandle" ∧ (parseMethodDescriptor yX7_take.desc).map (fun d => d.parameters.length) = some 5 := by decide +kernel
set_option maxHeartbeats 4000000 in
set_option maxRecDepth 100000 in
theorem c_X7_take (l : Launch) (G : GT) (a_this a_p0 a_p0_squares : Nat) (g_middle : Int64) (g_spread : Int64) (g_divisor : Int64) (g_p0_places : Int32) (g_p0_squares : (Nat → Int32)) (x2 : Int32) (x3 : Int32) (x4 : Int32) (x5 : Int32) {u : Int64 × Int64 × Int64} (hu : X7_take x2 x3 x4 x5 g_divisor g_middle g_spread g_p0_squares = some u) : Ctr l G yX7_take wsX7_take rmX7_take [.ref a_this, .ref a_p0, .int x2, .int x3, .int x4, .int x5] [(a_this, .inr (7, [.long g_middle, .long g_spread, .long g_divisor])), (a_p0, .inr (8, [.int g_p0_places, .ref a_p0_squares])), (a_p0_squares, .inl (G.2.1 1, 49, .inl g_p0_squares))] none [(a_this, .inr (7, [.long u.2.1, .long u.2.2, .long u.1])), (a_p0, .inr (8, [.int g_p0_places, .ref a_p0_squares])), (a_p0_squares, .inl (G.2.1 1, 49, .inl g_p0_squares))] := by
  obtain ⟨enc, henc⟩ : ∃ enc : (Int64 × Int64 × Int64) → Option Value × va_W, enc = fun u => ((none : Option Value), ([(a_this, .inr (7, [.long u.2.1, .long u.2.2, .long u.1])), (a_p0, .inr (8, [.int g_p0_places, .ref a_p0_squares])), (a_p0_squares, .inl (G.2.1 1, 49, .inl g_p0_squares))] : va_W)) := ⟨_, rfl⟩
  refine ctr_of (cc := cX7_take) (own := RX7) (E := Option.map enc) (o := X7_take x2 x3 x4 x5 g_divisor g_middle g_spread g_p0_squares) (by decide) rfl rfl (L := [(0, .ref a_this), (1, .ref a_p0), (2, .int x2), (3, .int x3), (4, .int x4), (5, .int x5)]) rfl (Nat.le_of_ble_eq_true rfl) (by rw [hu, henc]; rfl) ?_
  intro Z hX hl hG hr
  subst hl; subst hG
  have fl17 : (Cond.fieldLink RX7 17 "OnlyFar$Sixth" "divisor" "J").before (za Z) (zs Z) = true := hX.wd (mcC _ wd_282)
  have fl27 : (Cond.fieldLink RX7 27 "OnlyFar$Sixth" "middle" "J").before (za Z) (zs Z) = true := hX.wd (mcC _ wd_276)
  have fl33 : (Cond.fieldLink RX7 33 "OnlyFar$Sixth" "spread" "J").before (za Z) (zs Z) = true := hX.wd (mcC _ wd_279)
  have kl9 : (Cond.constantLong RX7 9 (2)).before (za Z) (zs Z) = true := hX.wd (mcC _ wd_755)
  have inX7 : ∀ w ∈ u_ws RX7 TX7 3, w ∈ wsX7_take := fun w h => mcC w (inC_X7 w h)
  unfold X7_take
  refine rn_aload_n hX dX7_take_0 0 rfl 1 rfl ?_
  refine rn_ldc2 hX kl9 dX7_take_1 4 rfl ?_
  refine rn_aload_n hX dX7_take_4 1 rfl 5 rfl ?_
  refine rn_iload hX dX7_take_5 4 rfl 7 rfl ?_
  refine rn_iload hX dX7_take_7 5 rfl 9 rfl ?_
  refine rn_bind (fun u1 hu1 => ?_)
  refine rn_callV0 hX (gV mcC wd_756 wd_512 wd_513 wd_73 wd_514) rfl hdV_X8_square rfl rfl ⟨Nat.le_of_ble_eq_true rfl, Nat.le_of_ble_eq_true rfl⟩ (c_X8_square (zl Z) (zG Z) a_p0 a_p0_squares g_p0_places g_p0_squares x4 x5 hu1) rfl [1, 2] rfl rfl (ci := 8) rfl rfl rfl (Nat.le_of_ble_eq_true rfl) dX7_take_9 12 rfl (S' := [.int u1, .long (2 : Int64), .ref a_this]) rfl ⟨Nat.zero_le _, Nat.zero_le _⟩ ?_
  refine rn_i2l hX dX7_take_12 13 rfl ?_
  refine rn_lmul hX dX7_take_13 14 rfl ?_
  refine rn_latl (fun v2 => ?_)
  refine rn_put hX inX7 tyX7_ok nmX7 0 rfl rfl 2 (by decide) fl17 rfl rfl rfl rfl (Nat.le_of_ble_eq_true rfl) dX7_take_14 17 rfl (w1 := [(a_this, .inr (7, [.long g_middle, .long g_spread, .long v2])), (a_p0, .inr (8, [.int g_p0_places, .ref a_p0_squares])), (a_p0_squares, .inl ((zG Z).2.1 1, 49, .inl g_p0_squares))]) rfl ?_
  refine rn_aload_n hX dX7_take_17 0 rfl 18 rfl ?_
  refine rn_aload_n hX dX7_take_18 0 rfl 19 rfl ?_
  refine rn_get hX inX7 0 rfl rfl 2 (by decide) fl17 rfl rfl dX7_take_19 22 rfl ?_
  refine rn_aload_n hX dX7_take_22 1 rfl 23 rfl ?_
  refine rn_iload hX dX7_take_23 4 rfl 25 rfl ?_
  refine rn_iload_n hX dX7_take_25 2 rfl 26 rfl ?_
  refine rn_bind (fun u3 hu3 => ?_)
  refine rn_callV0 hX (gV mcC wd_756 wd_512 wd_513 wd_73 wd_514) rfl hdV_X8_square rfl rfl ⟨Nat.le_of_ble_eq_true rfl, Nat.le_of_ble_eq_true rfl⟩ (c_X8_square (zl Z) (zG Z) a_p0 a_p0_squares g_p0_places g_p0_squares x4 x2 hu3) rfl [1, 2] rfl rfl (ci := 8) rfl rfl rfl (Nat.le_of_ble_eq_true rfl) dX7_take_26 29 rfl (S' := [.int u3, .long v2, .ref a_this]) rfl ⟨Nat.zero_le _, Nat.zero_le _⟩ ?_
  refine rn_aload_n hX dX7_take_29 1 rfl 30 rfl ?_
  refine rn_iload hX dX7_take_30 4 rfl 32 rfl ?_
  refine rn_iload_n hX dX7_take_32 3 rfl 33 rfl ?_
  refine rn_bind (fun u4 hu4 => ?_)
  refine rn_callV0 hX (gV mcC wd_756 wd_512 wd_513 wd_73 wd_514) rfl hdV_X8_square rfl rfl ⟨Nat.le_of_ble_eq_true rfl, Nat.le_of_ble_eq_true rfl⟩ (c_X8_square (zl Z) (zG Z) a_p0 a_p0_squares g_p0_places g_p0_squares x4 x3 hu4) rfl [1, 2] rfl rfl (ci := 8) rfl rfl rfl (Nat.le_of_ble_eq_true rfl) dX7_take_33 36 rfl (S' := [.int u4, .int u3, .long v2, .ref a_this]) rfl ⟨Nat.zero_le _, Nat.zero_le _⟩ ?_
  refine rn_iadd hX dX7_take_36 37 rfl ?_
  refine rn_i2l hX dX7_take_37 38 rfl ?_
  refine rn_lmul hX dX7_take_38 39 rfl ?_
  refine rn_aload_n hX dX7_take_39 1 rfl 40 rfl ?_
  refine rn_iload hX dX7_take_40 4 rfl 42 rfl ?_
  refine rn_iload hX dX7_take_42 5 rfl 44 rfl ?_
  refine rn_iload_n hX dX7_take_44 2 rfl 45 rfl ?_
  refine rn_bind (fun u5 hu5 => ?_)
  refine rn_callV0 hX (gV mcC wd_757 wd_629 wd_630 wd_73 wd_631) rfl hdV_X8_leaning rfl rfl ⟨Nat.le_of_ble_eq_true rfl, Nat.le_of_ble_eq_true rfl⟩ (c_X8_leaning (zl Z) (zG Z) a_p0 a_p0_squares g_p0_places g_p0_squares x4 x5 x2 hu5) rfl [1, 2] rfl rfl (ci := 8) rfl rfl rfl (Nat.le_of_ble_eq_true rfl) dX7_take_45 48 rfl (S' := [.long u5, .long (v2 * (u3 + u4).toInt64), .ref a_this]) rfl ⟨Nat.zero_le _, Nat.zero_le _⟩ ?_
  refine rn_aload_n hX dX7_take_48 1 rfl 49 rfl ?_
  refine rn_iload hX dX7_take_49 4 rfl 51 rfl ?_
  refine rn_iload hX dX7_take_51 5 rfl 53 rfl ?_
  refine rn_iload_n hX dX7_take_53 3 rfl 54 rfl ?_
  refine rn_bind (fun u6 hu6 => ?_)
  refine rn_callV0 hX (gV mcC wd_757 wd_629 wd_630 wd_73 wd_631) rfl hdV_X8_leaning rfl rfl ⟨Nat.le_of_ble_eq_true rfl, Nat.le_of_ble_eq_true rfl⟩ (c_X8_leaning (zl Z) (zG Z) a_p0 a_p0_squares g_p0_places g_p0_squares x4 x5 x3 hu6) rfl [1, 2] rfl rfl (ci := 8) rfl rfl rfl (Nat.le_of_ble_eq_true rfl) dX7_take_54 57 rfl (S' := [.long u6, .long u5, .long (v2 * (u3 + u4).toInt64), .ref a_this]) rfl ⟨Nat.zero_le _, Nat.zero_le _⟩ ?_
  refine rn_lmul hX dX7_take_57 58 rfl ?_
  refine rn_lsub hX dX7_take_58 59 rfl ?_
  refine rn_latl (fun v7 => ?_)
  refine rn_put hX inX7 tyX7_ok nmX7 0 rfl rfl 0 (by decide) fl27 rfl rfl rfl rfl (Nat.le_of_ble_eq_true rfl) dX7_take_59 62 rfl (w1 := [(a_this, .inr (7, [.long v7, .long g_spread, .long v2])), (a_p0, .inr (8, [.int g_p0_places, .ref a_p0_squares])), (a_p0_squares, .inl ((zG Z).2.1 1, 49, .inl g_p0_squares))]) rfl ?_
  refine rn_aload_n hX dX7_take_62 0 rfl 63 rfl ?_
  refine rn_aload_n hX dX7_take_63 1 rfl 64 rfl ?_
  refine rn_iload_n hX dX7_take_64 2 rfl 65 rfl ?_
  refine rn_iload hX dX7_take_65 4 rfl 67 rfl ?_
  refine rn_iload hX dX7_take_67 5 rfl 69 rfl ?_
  refine rn_bind (fun u8 hu8 => ?_)
  refine rn_callV0 hX (gV mcC wd_758 wd_584 wd_585 wd_73 wd_586) rfl hdV_X8_wideOf rfl rfl ⟨Nat.le_of_ble_eq_true rfl, Nat.le_of_ble_eq_true rfl⟩ (c_X8_wideOf (zl Z) (zG Z) a_p0 a_p0_squares g_p0_places g_p0_squares x2 x4 x5 hu8) rfl [1, 2] rfl rfl (ci := 8) rfl rfl rfl (Nat.le_of_ble_eq_true rfl) dX7_take_69 72 rfl (S' := [.long u8, .ref a_this]) rfl ⟨Nat.zero_le _, Nat.zero_le _⟩ ?_
  refine rn_aload_n hX dX7_take_72 1 rfl 73 rfl ?_
  refine rn_iload_n hX dX7_take_73 3 rfl 74 rfl ?_
  refine rn_iload hX dX7_take_74 4 rfl 76 rfl ?_
  refine rn_iload hX dX7_take_76 5 rfl 78 rfl ?_
  refine rn_bind (fun u9 hu9 => ?_)
  refine rn_callV0 hX (gV mcC wd_758 wd_584 wd_585 wd_73 wd_586) rfl hdV_X8_wideOf rfl rfl ⟨Nat.le_of_ble_eq_true rfl, Nat.le_of_ble_eq_true rfl⟩ (c_X8_wideOf (zl Z) (zG Z) a_p0 a_p0_squares g_p0_places g_p0_squares x3 x4 x5 hu9) rfl [1, 2] rfl rfl (ci := 8) rfl rfl rfl (Nat.le_of_ble_eq_true rfl) dX7_take_78 81 rfl (S' := [.long u9, .long u8, .ref a_this]) rfl ⟨Nat.zero_le _, Nat.zero_le _⟩ ?_
  refine rn_lmul hX dX7_take_81 82 rfl ?_
  refine rn_latl (fun v10 => ?_)
  refine rn_put hX inX7 tyX7_ok nmX7 0 rfl rfl 1 (by decide) fl33 rfl rfl rfl rfl (Nat.le_of_ble_eq_true rfl) dX7_take_82 85 rfl (w1 := [(a_this, .inr (7, [.long v7, .long v10, .long v2])), (a_p0, .inr (8, [.int g_p0_places, .ref a_p0_squares])), (a_p0_squares, .inl ((zG Z).2.1 1, 49, .inl g_p0_squares))]) rfl ?_
  exact rn_vret hX hr (by rw [henc]; rfl) dX7_take_85
abbrev rmX0_bondOf : Room := { frames := 3, cells := 0, slots := 0, locals := 75 }
theorem hdV_X0_bondOf : yX0_bondOf.cls = RX0 ∧ yX0_bondOf.cls ≠ "java/lang/invoke/MethodHandle" ∧ yX0_bondOf.cls ≠ "java/lang/invoke/VarHandle" ∧ (parseMethodDescriptor yX0_bondOf.desc).map (fun d => d.parameters.length) = some 4 := by decide +kernel
set_option maxHeartbeats 4000000 in
set_option maxRecDepth 100000 in
theorem c_X0_bondOf (l : Launch) (G : GT) (a_this a_sixthOf a_table a_table_squares a_sides a_bonds : Nat) (g_laid : Int32) (g_groups : Int32) (g_stands : Int32) (g_offLine : Int32) (g_sixthOf_middle : Int64) (g_sixthOf_spread : Int64) (g_sixthOf_divisor : Int64) (g_table_places : Int32) (g_table_squares : (Nat → Int32)) (x1 : Int32) (x2 : Int32) (x3 : Int32) (x4 : Int32) {u : Int32 × Int64 × Int64 × Int64} (hu : X0_bondOf x1 x2 x3 x4 g_sixthOf_divisor g_sixthOf_middle g_sixthOf_spread g_table_squares = some u) : Ctr l G yX0_bondOf wsX0_bondOf rmX0_bondOf [.ref a_this, .int x1, .int x2, .int x3, .int x4] [(a_this, .inr (0, [.int g_laid, .int g_groups, .int g_stands, .ref a_table, .ref a_sixthOf, .ref a_sides, .ref a_bonds, .int g_offLine])), (a_sixthOf, .inr (7, [.long g_sixthOf_middle, .long g_sixthOf_spread, .long g_sixthOf_divisor])), (a_table, .inr (8, [.int g_table_places, .ref a_table_squares])), (a_table_squares, .inl (G.2.1 1, 49, .inl g_table_squares))] (some (.int u.1)) [(a_this, .inr (0, [.int g_laid, .int g_groups, .int g_stands, .ref a_table, .ref a_sixthOf, .ref a_sides, .ref a_bonds, .int g_offLine])), (a_sixthOf, .inr (7, [.long u.2.2.1, .long u.2.2.2, .long u.2.1])), (a_table, .inr (8, [.int g_table_places, .ref a_table_squares])), (a_table_squares, .inl (G.2.1 1, 49, .inl g_table_squares))] := by
  obtain ⟨enc, henc⟩ : ∃ enc : (Int32 × Int64 × Int64 × Int64) → Option Value × va_W, enc = fun u => (((some (.int u.1)) : Option Value), ([(a_this, .inr (0, [.int g_laid, .int g_groups, .int g_stands, .ref a_table, .ref a_sixthOf, .ref a_sides, .ref a_bonds, .int g_offLine])), (a_sixthOf, .inr (7, [.long u.2.2.1, .long u.2.2.2, .long u.2.1])), (a_table, .inr (8, [.int g_table_places, .ref a_table_squares])), (a_table_squares, .inl (G.2.1 1, 49, .inl g_table_squares))] : va_W)) := ⟨_, rfl⟩
  refine ctr_of (cc := cX0_bondOf) (own := RX0) (E := Option.map enc) (o := X0_bondOf x1 x2 x3 x4 g_sixthOf_divisor g_sixthOf_middle g_sixthOf_spread g_table_squares) (by decide) rfl rfl (L := [(0, .ref a_this), (1, .int x1), (2, .int x2), (3, .int x3), (4, .int x4)]) rfl (Nat.le_of_ble_eq_true rfl) (by rw [hu, henc]; rfl) ?_
  intro Z hX hl hG hr
  subst hl; subst hG
  have fl18 : (Cond.fieldLink RX0 18 "OnlyFar$Drawing" "sixthOf" "LOnlyFar$Sixth;").before (za Z) (zs Z) = true := hX.wd (mcC _ wd_307)
  have fl89 : (Cond.fieldLink RX0 89 "OnlyFar$Sixth" "middle" "J").before (za Z) (zs Z) = true := hX.wd (mcC _ wd_277)
  have fl9 : (Cond.fieldLink RX0 9 "OnlyFar$Drawing" "table" "LOnlyFar$Table;").before (za Z) (zs Z) = true := hX.wd (mcC _ wd_306)
  have fl93 : (Cond.fieldLink RX0 93 "OnlyFar$Sixth" "divisor" "J").before (za Z) (zs Z) = true := hX.wd (mcC _ wd_283)
  have fl96 : (Cond.fieldLink RX0 96 "OnlyFar$Sixth" "spread" "J").before (za Z) (zs Z) = true := hX.wd (mcC _ wd_280)
  have inX0 : ∀ w ∈ u_ws RX0 TX0 8, w ∈ wsX0_bondOf := fun w h => mcC w (inC_X0 w h)
  have inX7 : ∀ w ∈ u_ws RX7 TX7 3, w ∈ wsX0_bondOf := fun w h => mcC w (inC_X7 w h)
  unfold X0_bondOf
  refine rn_aload_n hX dX0_bondOf_0 0 rfl 1 rfl ?_
  refine rn_get hX inX0 0 rfl rfl 4 (by decide) fl18 rfl rfl dX0_bondOf_1 4 rfl ?_
  refine rn_aload_n hX dX0_bondOf_4 0 rfl 5 rfl ?_
  refine rn_get hX inX0 0 rfl rfl 3 (by decide) fl9 rfl rfl dX0_bondOf_5 8 rfl ?_
  refine rn_iload_n hX dX0_bondOf_8 1 rfl 9 rfl ?_
  refine rn_iload_n hX dX0_bondOf_9 2 rfl 10 rfl ?_
  refine rn_iload_n hX dX0_bondOf_10 3 rfl 11 rfl ?_
  refine rn_iload hX dX0_bondOf_11 4 rfl 13 rfl ?_
  refine rn_bind (fun u1 hu1 => ?_)
  refine rn_callV hX (gV mcC wd_799 wd_752 wd_753 wd_78 wd_754) rfl hdV_X7_take rfl rfl ⟨Nat.le_of_ble_eq_true rfl, Nat.le_of_ble_eq_true rfl⟩ (c_X7_take (zl Z) (zG Z) a_sixthOf a_table a_table_squares g_sixthOf_middle g_sixthOf_spread g_sixthOf_divisor g_table_places g_table_squares x1 x2 x3 x4 hu1) rfl [1, 2, 3] rfl rfl rfl (ci := 7) rfl rfl rfl (Nat.le_of_ble_eq_true rfl) dX0_bondOf_13 16 rfl (wn := [(a_this, .inr (0, [.int g_laid, .int g_groups, .int g_stands, .ref a_table, .ref a_sixthOf, .ref a_sides, .ref a_bonds, .int g_offLine])), (a_sixthOf, .inr (7, [.long u1.2.1, .long u1.2.2, .long u1.1])), (a_table, .inr (8, [.int g_table_places, .ref a_table_squares])), (a_table_squares, .inl ((zG Z).2.1 1, 49, .inl g_table_squares))]) rfl (S' := []) rfl ⟨Nat.zero_le _, Nat.zero_le _⟩ ?_
  refine rn_aload_n hX dX0_bondOf_16 0 rfl 17 rfl ?_
  refine rn_get hX inX0 0 rfl rfl 4 (by decide) fl18 rfl rfl dX0_bondOf_17 20 rfl ?_
  refine rn_get hX inX7 1 rfl rfl 0 (by decide) fl89 rfl rfl dX0_bondOf_20 23 rfl ?_
  refine rn_aload_n hX dX0_bondOf_23 0 rfl 24 rfl ?_
  refine rn_get hX inX0 0 rfl rfl 4 (by decide) fl18 rfl rfl dX0_bondOf_24 27 rfl ?_
  refine rn_get hX inX7 1 rfl rfl 2 (by decide) fl93 rfl rfl dX0_bondOf_27 30 rfl ?_
  refine rn_aload_n hX dX0_bondOf_30 0 rfl 31 rfl ?_
  refine rn_get hX inX0 0 rfl rfl 3 (by decide) fl9 rfl rfl dX0_bondOf_31 34 rfl ?_
  refine rn_iload_n hX dX0_bondOf_34 1 rfl 35 rfl ?_
  refine rn_iload_n hX dX0_bondOf_35 2 rfl 36 rfl ?_
  refine rn_bind (fun u2 hu2 => ?_)
  refine rn_callV0 hX (gV mcC wd_788 wd_512 wd_513 wd_73 wd_514) rfl hdV_X8_square rfl rfl ⟨Nat.le_of_ble_eq_true rfl, Nat.le_of_ble_eq_true rfl⟩ (c_X8_square (zl Z) (zG Z) a_table a_table_squares g_table_places g_table_squares x1 x2 hu2) rfl [2, 3] rfl rfl (ci := 8) rfl rfl rfl (Nat.le_of_ble_eq_true rfl) dX0_bondOf_36 39 rfl (S' := [.int u2, .long u1.1, .long u1.2.1]) rfl ⟨Nat.zero_le _, Nat.zero_le _⟩ ?_
  refine rn_i2l hX dX0_bondOf_39 40 rfl ?_
  refine rn_lmul hX dX0_bondOf_40 41 rfl ?_
  refine rn_lsub hX dX0_bondOf_41 42 rfl ?_
  refine rn_latl (fun v3 => ?_)
  refine rn_lstore hX dX0_bondOf_42 (by decide) (L' := [(5, .long v3), (0, .ref a_this), (1, .int x1), (2, .int x2), (3, .int x3), (4, .int x4)]) rfl 44 rfl ?_
  refine rn_lload hX dX0_bondOf_44 0 rfl 46 rfl ?_
  refine rn_lload hX dX0_bondOf_46 0 rfl 48 rfl ?_
  refine rn_lmul hX dX0_bondOf_48 49 rfl ?_
  refine rn_aload_n hX dX0_bondOf_49 1 rfl 50 rfl ?_
  refine rn_get hX inX0 0 rfl rfl 4 (by decide) fl18 rfl rfl dX0_bondOf_50 53 rfl ?_
  refine rn_get hX inX7 1 rfl rfl 1 (by decide) fl96 rfl rfl dX0_bondOf_53 56 rfl ?_
  refine rn_lcmp_eq hX dX0_bondOf_56 57 rfl dX0_bondOf_57 62 (by decide) 60 rfl ?_ ?_
  · refine rn_lload hX dX0_bondOf_62 0 rfl 64 rfl ?_
    refine rn_lconst hX dX0_bondOf_64 65 rfl lc_0 ?_
    refine rn_lcmp_ne hX dX0_bondOf_65 66 rfl dX0_bondOf_66 71 (by decide) 69 rfl ?_ ?_
    · refine rn_lload hX dX0_bondOf_71 0 rfl 73 rfl ?_
      refine rn_lconst hX dX0_bondOf_73 74 rfl lc_0 ?_
      refine rn_lcmp_le hX dX0_bondOf_74 75 rfl dX0_bondOf_75 82 (by decide) 78 rfl ?_ ?_
      · refine rn_iconst hX dX0_bondOf_82 83 rfl ic_3 ?_
        exact rn_iret hX hr (by rw [henc]; rfl) dX0_bondOf_83
      refine rn_iconst hX dX0_bondOf_78 79 rfl ic_2 ?_
      refine rn_goto hX dX0_bondOf_79 83 (by decide) ?_
      exact rn_iret hX hr (by rw [henc]; rfl) dX0_bondOf_83
    refine rn_iconst hX dX0_bondOf_69 70 rfl ic_4 ?_
    exact rn_iret hX hr (by rw [henc]; rfl) dX0_bondOf_70
  refine rn_iconst hX dX0_bondOf_60 61 rfl ic_1 ?_
  exact rn_iret hX hr (by rw [henc]; rfl) dX0_bondOf_61
abbrev rmJ7_fill_53178_7 : Room := { frames := 0, cells := 0, slots := 0, locals := 0 }
theorem hdS_J7_fill_53178_7 : yJ7_fill_53178.cls ≠ "java/lang/invoke/MethodHandle" ∧ yJ7_fill_53178.cls ≠ "java/lang/invoke/VarHandle" ∧ (parseMethodDescriptor yJ7_fill_53178.desc).map (fun d => d.parameters.length) = some 2 := by decide +kernel
set_option maxHeartbeats 4000000 in
set_option maxRecDepth 100000 in
theorem c_J7_fill_53178_7 (l : Launch) (G : GT) (a_p0 : Nat) (g_p0 : (Nat → Int32)) (x1 : Int32) {u : (Nat → Int32)} (hu : J7_fill_53178_7 x1 g_p0 = some u) : Ctr l G yJ7_fill_53178 wsJ7_fill_53178 rmJ7_fill_53178_7 [.ref a_p0, .int x1] [(a_p0, .inl (G.2.1 1, 7, .inl g_p0))] none [(a_p0, .inl (G.2.1 1, 7, .inl u))] := by
  obtain ⟨enc, henc⟩ : ∃ enc : ((Nat → Int32)) → Option Value × va_W, enc = fun u => ((none : Option Value), ([(a_p0, .inl (G.2.1 1, 7, .inl u))] : va_W)) := ⟨_, rfl⟩
  refine ctr_of (cc := cJ7_fill_53178) (own := RJ7) (E := Option.map enc) (o := J7_fill_53178_7 x1 g_p0) (by decide) rfl rfl (L := [(0, .ref a_p0), (1, .int x1)]) rfl (Nat.le_of_ble_eq_true rfl) (by rw [hu, henc]; rfl) ?_
  intro Z hX hl hG hr
  subst hl; subst hG
  have hB5 : ∀ (again : Int32 → Int32 → Int32 → (Nat → Int32) → Option ((Nat → Int32))) (hagain : ∀ (x1 : Int32) (x2 : Int32) (x3 : Int32) (g_p0 : (Nat → Int32)), Rn Z 4 (Option.map enc) 0 0 5 [(0, .ref a_p0), (1, .int x1), (2, .int x2), (3, .int x3)] [] [(a_p0, .inl ((zG Z).2.1 1, 7, .inl g_p0))] (again x1 x2 x3 g_p0)) (x1 : Int32) (x2 : Int32) (x3 : Int32) (g_p0 : (Nat → Int32)), Rn Z 4 (Option.map enc) 0 0 5 [(0, .ref a_p0), (1, .int x1), (2, .int x2), (3, .int x3)] [] [(a_p0, .inl ((zG Z).2.1 1, 7, .inl g_p0))] (J7_fill_53178_7_B5 again x1 x2 x3 g_p0) := by
    intro again hagain x1 x2 x3 g_p0
    unfold J7_fill_53178_7_B5
    refine rn_iload_n hX dJ7_fill_53178_5 2 rfl 6 rfl ?_
    refine rn_iload_n hX dJ7_fill_53178_6 3 rfl 7 rfl ?_
    refine rn_icmp_ge hX dJ7_fill_53178_7 20 (by decide) 10 rfl ?_ ?_
    · exact rn_vret hX hr (by rw [henc]; rfl) dJ7_fill_53178_20
    refine rn_aload_n hX dJ7_fill_53178_10 0 rfl 11 rfl ?_
    refine rn_iload_n hX dJ7_fill_53178_11 2 rfl 12 rfl ?_
    refine rn_iload_n hX dJ7_fill_53178_12 1 rfl 13 rfl ?_
    refine rn_gd (fun hi1 => ?_)
    refine rn_iast hX 0 rfl hi1 dJ7_fill_53178_13 14 rfl (w1 := fun m2 => [(a_p0, .inl ((zG Z).2.1 1, 7, .inl m2))]) (fun _ => rfl) (fun m2 => ?_)
    refine rn_iinc hX dJ7_fill_53178_14 2 rfl ic_1 (by decide) (L' := fun v3 => [(2, .int v3), (0, .ref a_p0), (1, .int x1), (3, .int x3)]) (fun _ => rfl) 17 rfl (fun v3 => ?_)
    refine rn_goto hX dJ7_fill_53178_17 5 (by decide) ?_
    refine rn_sub [1, 2, 0, 3] rfl ?_
    exact hagain x1 v3 x3 m2
  have hL5 : ∀ (n : Nat) (x1 : Int32) (x2 : Int32) (x3 : Int32) (g_p0 : (Nat → Int32)), Rn Z 4 (Option.map enc) 0 0 5 [(0, .ref a_p0), (1, .int x1), (2, .int x2), (3, .int x3)] [] [(a_p0, .inl ((zG Z).2.1 1, 7, .inl g_p0))] (J7_fill_53178_7_L5 n x1 x2 x3 g_p0) := by
    intro n
    induction n with
    | zero => intros; exact rn_none
    | succ n ih => exact hB5 _ ih
  unfold J7_fill_53178_7
  refine rn_iconst hX dJ7_fill_53178_0 1 rfl ic_0 ?_
  refine rn_istore_n hX dJ7_fill_53178_1 2 rfl (by decide) (L' := [(2, .int (0 : Int32)), (0, .ref a_p0), (1, .int x1)]) rfl 2 rfl ?_
  refine rn_aload_n hX dJ7_fill_53178_2 1 rfl 3 rfl ?_
  refine rn_alen hX (t0 := 1) 0 rfl rfl (v := (7 : Int32)) rfl dJ7_fill_53178_3 4 rfl ?_
  refine rn_istore_n hX dJ7_fill_53178_4 3 rfl (by decide) (L' := [(3, .int (7 : Int32)), (2, .int (0 : Int32)), (0, .ref a_p0), (1, .int x1)]) rfl 5 rfl ?_
  refine rn_sub [2, 3, 1, 0] rfl ?_
  exact (hL5  1000) x1 (0 : Int32) (7 : Int32) g_p0
abbrev rmJ7_fill_53178_40 : Room := { frames := 0, cells := 0, slots := 0, locals := 0 }
theorem hdS_J7_fill_53178_40 : yJ7_fill_53178.cls ≠ "java/lang/invoke/MethodHandle" ∧ yJ7_fill_53178.cls ≠ "java/lang/invoke/VarHandle" ∧ (parseMethodDescriptor yJ7_fill_53178.desc).map (fun d => d.parameters.length) = some 2 := by decide +kernel
set_option maxHeartbeats 4000000 in
set_option maxRecDepth 100000 in
theorem c_J7_fill_53178_40 (l : Launch) (G : GT) (a_p0 : Nat) (g_p0 : (Nat → Int32)) (x1 : Int32) {u : (Nat → Int32)} (hu : J7_fill_53178_40 x1 g_p0 = some u) : Ctr l G yJ7_fill_53178 wsJ7_fill_53178 rmJ7_fill_53178_40 [.ref a_p0, .int x1] [(a_p0, .inl (G.2.1 1, 40, .inl g_p0))] none [(a_p0, .inl (G.2.1 1, 40, .inl u))] := by
  obtain ⟨enc, henc⟩ : ∃ enc : ((Nat → Int32)) → Option Value × va_W, enc = fun u => ((none : Option Value), ([(a_p0, .inl (G.2.1 1, 40, .inl u))] : va_W)) := ⟨_, rfl⟩
  refine ctr_of (cc := cJ7_fill_53178) (own := RJ7) (E := Option.map enc) (o := J7_fill_53178_40 x1 g_p0) (by decide) rfl rfl (L := [(0, .ref a_p0), (1, .int x1)]) rfl (Nat.le_of_ble_eq_true rfl) (by rw [hu, henc]; rfl) ?_
  intro Z hX hl hG hr
  subst hl; subst hG
  have hB5 : ∀ (again : Int32 → Int32 → Int32 → (Nat → Int32) → Option ((Nat → Int32))) (hagain : ∀ (x1 : Int32) (x2 : Int32) (x3 : Int32) (g_p0 : (Nat → Int32)), Rn Z 4 (Option.map enc) 0 0 5 [(0, .ref a_p0), (1, .int x1), (2, .int x2), (3, .int x3)] [] [(a_p0, .inl ((zG Z).2.1 1, 40, .inl g_p0))] (again x1 x2 x3 g_p0)) (x1 : Int32) (x2 : Int32) (x3 : Int32) (g_p0 : (Nat → Int32)), Rn Z 4 (Option.map enc) 0 0 5 [(0, .ref a_p0), (1, .int x1), (2, .int x2), (3, .int x3)] [] [(a_p0, .inl ((zG Z).2.1 1, 40, .inl g_p0))] (J7_fill_53178_40_B5 again x1 x2 x3 g_p0) := by
    intro again hagain x1 x2 x3 g_p0
    unfold J7_fill_53178_40_B5
    refine rn_iload_n hX dJ7_fill_53178_5 2 rfl 6 rfl ?_
    refine rn_iload_n hX dJ7_fill_53178_6 3 rfl 7 rfl ?_
    refine rn_icmp_ge hX dJ7_fill_53178_7 20 (by decide) 10 rfl ?_ ?_
    · exact rn_vret hX hr (by rw [henc]; rfl) dJ7_fill_53178_20
    refine rn_aload_n hX dJ7_fill_53178_10 0 rfl 11 rfl ?_
    refine rn_iload_n hX dJ7_fill_53178_11 2 rfl 12 rfl ?_
    refine rn_iload_n hX dJ7_fill_53178_12 1 rfl 13 rfl ?_
    refine rn_gd (fun hi1 => ?_)
    refine rn_iast hX 0 rfl hi1 dJ7_fill_53178_13 14 rfl (w1 := fun m2 => [(a_p0, .inl ((zG Z).2.1 1, 40, .inl m2))]) (fun _ => rfl) (fun m2 => ?_)
    refine rn_iinc hX dJ7_fill_53178_14 2 rfl ic_1 (by decide) (L' := fun v3 => [(2, .int v3), (0, .ref a_p0), (1, .int x1), (3, .int x3)]) (fun _ => rfl) 17 rfl (fun v3 => ?_)
    refine rn_goto hX dJ7_fill_53178_17 5 (by decide) ?_
    refine rn_sub [1, 2, 0, 3] rfl ?_
    exact hagain x1 v3 x3 m2
  have hL5 : ∀ (n : Nat) (x1 : Int32) (x2 : Int32) (x3 : Int32) (g_p0 : (Nat → Int32)), Rn Z 4 (Option.map enc) 0 0 5 [(0, .ref a_p0), (1, .int x1), (2, .int x2), (3, .int x3)] [] [(a_p0, .inl ((zG Z).2.1 1, 40, .inl g_p0))] (J7_fill_53178_40_L5 n x1 x2 x3 g_p0) := by
    intro n
    induction n with
    | zero => intros; exact rn_none
    | succ n ih => exact hB5 _ ih
  unfold J7_fill_53178_40
  refine rn_iconst hX dJ7_fill_53178_0 1 rfl ic_0 ?_
  refine rn_istore_n hX dJ7_fill_53178_1 2 rfl (by decide) (L' := [(2, .int (0 : Int32)), (0, .ref a_p0), (1, .int x1)]) rfl 2 rfl ?_
  refine rn_aload_n hX dJ7_fill_53178_2 1 rfl 3 rfl ?_
  refine rn_alen hX (t0 := 1) 0 rfl rfl (v := (40 : Int32)) rfl dJ7_fill_53178_3 4 rfl ?_
  refine rn_istore_n hX dJ7_fill_53178_4 3 rfl (by decide) (L' := [(3, .int (40 : Int32)), (2, .int (0 : Int32)), (0, .ref a_p0), (1, .int x1)]) rfl 5 rfl ?_
  refine rn_sub [2, 3, 1, 0] rfl ?_
  exact (hL5  1000) x1 (0 : Int32) (40 : Int32) g_p0
abbrev rmJ7_fill_53178_49 : Room := { frames := 0, cells := 0, slots := 0, locals := 0 }
theorem hdS_J7_fill_53178_49 : yJ7_fill_53178.cls ≠ "java/lang/invoke/MethodHandle" ∧ yJ7_fill_53178.cls ≠ "java/lang/invoke/VarHandle" ∧ (parseMethodDescriptor yJ7_fill_53178.desc).map (fun d => d.parameters.length) = some 2 := by decide +kernel
set_option maxHeartbeats 4000000 in
set_option maxRecDepth 100000 in
theorem c_J7_fill_53178_49 (l : Launch) (G : GT) (a_p0 : Nat) (g_p0 : (Nat → Int32)) (x1 : Int32) {u : (Nat → Int32)} (hu : J7_fill_53178_49 x1 g_p0 = some u) : Ctr l G yJ7_fill_53178 wsJ7_fill_53178 rmJ7_fill_53178_49 [.ref a_p0, .int x1] [(a_p0, .inl (G.2.1 1, 49, .inl g_p0))] none [(a_p0, .inl (G.2.1 1, 49, .inl u))] := by
  obtain ⟨enc, henc⟩ : ∃ enc : ((Nat → Int32)) → Option Value × va_W, enc = fun u => ((none : Option Value), ([(a_p0, .inl (G.2.1 1, 49, .inl u))] : va_W)) := ⟨_, rfl⟩
  refine ctr_of (cc := cJ7_fill_53178) (own := RJ7) (E := Option.map enc) (o := J7_fill_53178_49 x1 g_p0) (by decide) rfl rfl (L := [(0, .ref a_p0), (1, .int x1)]) rfl (Nat.le_of_ble_eq_true rfl) (by rw [hu, henc]; rfl) ?_
  intro Z hX hl hG hr
  subst hl; subst hG
  have hB5 : ∀ (again : Int32 → Int32 → Int32 → (Nat → Int32) → Option ((Nat → Int32))) (hagain : ∀ (x1 : Int32) (x2 : Int32) (x3 : Int32) (g_p0 : (Nat → Int32)), Rn Z 4 (Option.map enc) 0 0 5 [(0, .ref a_p0), (1, .int x1), (2, .int x2), (3, .int x3)] [] [(a_p0, .inl ((zG Z).2.1 1, 49, .inl g_p0))] (again x1 x2 x3 g_p0)) (x1 : Int32) (x2 : Int32) (x3 : Int32) (g_p0 : (Nat → Int32)), Rn Z 4 (Option.map enc) 0 0 5 [(0, .ref a_p0), (1, .int x1), (2, .int x2), (3, .int x3)] [] [(a_p0, .inl ((zG Z).2.1 1, 49, .inl g_p0))] (J7_fill_53178_49_B5 again x1 x2 x3 g_p0) := by
    intro again hagain x1 x2 x3 g_p0
    unfold J7_fill_53178_49_B5
    refine rn_iload_n hX dJ7_fill_53178_5 2 rfl 6 rfl ?_
    refine rn_iload_n hX dJ7_fill_53178_6 3 rfl 7 rfl ?_
    refine rn_icmp_ge hX dJ7_fill_53178_7 20 (by decide) 10 rfl ?_ ?_
    · exact rn_vret hX hr (by rw [henc]; rfl) dJ7_fill_53178_20
    refine rn_aload_n hX dJ7_fill_53178_10 0 rfl 11 rfl ?_
    refine rn_iload_n hX dJ7_fill_53178_11 2 rfl 12 rfl ?_
    refine rn_iload_n hX dJ7_fill_53178_12 1 rfl 13 rfl ?_
    refine rn_gd (fun hi1 => ?_)
    refine rn_iast hX 0 rfl hi1 dJ7_fill_53178_13 14 rfl (w1 := fun m2 => [(a_p0, .inl ((zG Z).2.1 1, 49, .inl m2))]) (fun _ => rfl) (fun m2 => ?_)
    refine rn_iinc hX dJ7_fill_53178_14 2 rfl ic_1 (by decide) (L' := fun v3 => [(2, .int v3), (0, .ref a_p0), (1, .int x1), (3, .int x3)]) (fun _ => rfl) 17 rfl (fun v3 => ?_)
    refine rn_goto hX dJ7_fill_53178_17 5 (by decide) ?_
    refine rn_sub [1, 2, 0, 3] rfl ?_
    exact hagain x1 v3 x3 m2
  have hL5 : ∀ (n : Nat) (x1 : Int32) (x2 : Int32) (x3 : Int32) (g_p0 : (Nat → Int32)), Rn Z 4 (Option.map enc) 0 0 5 [(0, .ref a_p0), (1, .int x1), (2, .int x2), (3, .int x3)] [] [(a_p0, .inl ((zG Z).2.1 1, 49, .inl g_p0))] (J7_fill_53178_49_L5 n x1 x2 x3 g_p0) := by
    intro n
    induction n with
    | zero => intros; exact rn_none
    | succ n ih => exact hB5 _ ih
  unfold J7_fill_53178_49
  refine rn_iconst hX dJ7_fill_53178_0 1 rfl ic_0 ?_
  refine rn_istore_n hX dJ7_fill_53178_1 2 rfl (by decide) (L' := [(2, .int (0 : Int32)), (0, .ref a_p0), (1, .int x1)]) rfl 2 rfl ?_
  refine rn_aload_n hX dJ7_fill_53178_2 1 rfl 3 rfl ?_
  refine rn_alen hX (t0 := 1) 0 rfl rfl (v := (49 : Int32)) rfl dJ7_fill_53178_3 4 rfl ?_
  refine rn_istore_n hX dJ7_fill_53178_4 3 rfl (by decide) (L' := [(3, .int (49 : Int32)), (2, .int (0 : Int32)), (0, .ref a_p0), (1, .int x1)]) rfl 5 rfl ?_
  refine rn_sub [2, 3, 1, 0] rfl ?_
  exact (hL5  1000) x1 (0 : Int32) (49 : Int32) g_p0
abbrev rmX0_spreadSides : Room := { frames := 1, cells := 0, slots := 0, locals := 21 }
theorem hdV_X0_spreadSides : yX0_spreadSides.cls = RX0 ∧ yX0_spreadSides.cls ≠ "java/lang/invoke/MethodHandle" ∧ yX0_spreadSides.cls ≠ "java/lang/invoke/VarHandle" ∧ (parseMethodDescriptor yX0_spreadSides.desc).map (fun d => d.parameters.length) = some 0 := by decide +kernel
set_option maxHeartbeats 4000000 in
set_option maxRecDepth 100000 in
theorem c_X0_spreadSides (l : Launch) (G : GT) (a_this a_bonds a_sides a_table a_sixthOf : Nat) (g_laid : Int32) (g_groups : Int32) (g_stands : Int32) (g_offLine : Int32) (g_bonds : (Nat → Int32)) (g_sides : (Nat → Int32)) {u : (Nat → Int32)} (hu : X0_spreadSides g_offLine g_bonds g_sides = some u) : Ctr l G yX0_spreadSides wsX0_spreadSides rmX0_spreadSides [.ref a_this] [(a_this, .inr (0, [.int g_laid, .int g_groups, .int g_stands, .ref a_table, .ref a_sixthOf, .ref a_sides, .ref a_bonds, .int g_offLine])), (a_bonds, .inl (G.2.1 1, 49, .inl g_bonds)), (a_sides, .inl (G.2.1 1, 7, .inl g_sides))] none [(a_this, .inr (0, [.int g_laid, .int g_groups, .int g_stands, .ref a_table, .ref a_sixthOf, .ref a_sides, .ref a_bonds, .int g_offLine])), (a_bonds, .inl (G.2.1 1, 49, .inl g_bonds)), (a_sides, .inl (G.2.1 1, 7, .inl u))] := by
  obtain ⟨enc, henc⟩ : ∃ enc : ((Nat → Int32)) → Option Value × va_W, enc = fun u => ((none : Option Value), ([(a_this, .inr (0, [.int g_laid, .int g_groups, .int g_stands, .ref a_table, .ref a_sixthOf, .ref a_sides, .ref a_bonds, .int g_offLine])), (a_bonds, .inl (G.2.1 1, 49, .inl g_bonds)), (a_sides, .inl (G.2.1 1, 7, .inl u))] : va_W)) := ⟨_, rfl⟩
  refine ctr_of (cc := cX0_spreadSides) (own := RX0) (E := Option.map enc) (o := X0_spreadSides g_offLine g_bonds g_sides) (by decide) rfl rfl (L := [(0, .ref a_this)]) rfl (Nat.le_of_ble_eq_true rfl) (by rw [hu, henc]; rfl) ?_
  intro Z hX hl hG hr
  subst hl; subst hG
  have fl22 : (Cond.fieldLink RX0 22 "OnlyFar$Drawing" "sides" "[I").before (za Z) (zs Z) = true := hX.wd (mcC _ wd_308)
  have fl26 : (Cond.fieldLink RX0 26 "OnlyFar$Drawing" "bonds" "[I").before (za Z) (zs Z) = true := hX.wd (mcC _ wd_309)
  have fl71 : (Cond.fieldLink RX0 71 "OnlyFar$Drawing" "offLine" "I").before (za Z) (zs Z) = true := hX.wd (mcC _ wd_310)
  have inX0 : ∀ w ∈ u_ws RX0 TX0 8, w ∈ wsX0_spreadSides := fun w h => mcC w (inC_X0 w h)
  have hJ112 : ∀ (again : Int32 → (Nat → Int32) → Option ((Nat → Int32))) (hagain : ∀ (x1 : Int32) (g_sides : (Nat → Int32)), Rn Z 5 (Option.map enc) 0 0 2 [(0, .ref a_this), (1, .int x1)] [] [(a_this, .inr (0, [.int g_laid, .int g_groups, .int g_stands, .ref a_table, .ref a_sixthOf, .ref a_sides, .ref a_bonds, .int g_offLine])), (a_bonds, .inl ((zG Z).2.1 1, 49, .inl g_bonds)), (a_sides, .inl ((zG Z).2.1 1, 7, .inl g_sides))] (again x1 g_sides)) (x1 : Int32) (g_sides : (Nat → Int32)), Rn Z 5 (Option.map enc) 0 0 112 [(0, .ref a_this), (1, .int x1)] [] [(a_this, .inr (0, [.int g_laid, .int g_groups, .int g_stands, .ref a_table, .ref a_sixthOf, .ref a_sides, .ref a_bonds, .int g_offLine])), (a_bonds, .inl ((zG Z).2.1 1, 49, .inl g_bonds)), (a_sides, .inl ((zG Z).2.1 1, 7, .inl g_sides))] (X0_spreadSides_J112 again x1 g_sides) := by
    intro again hagain x1 g_sides
    unfold X0_spreadSides_J112
    refine rn_iinc hX dX0_spreadSides_112 1 rfl ic_1 (by decide) (L' := fun v1 => [(1, .int v1), (0, .ref a_this)]) (fun _ => rfl) 115 rfl (fun v1 => ?_)
    refine rn_goto hX dX0_spreadSides_115 2 (by decide) ?_
    refine rn_sub [1, 0] rfl ?_
    exact hagain v1 g_sides
  have hJ106 : ∀ (again : Int32 → Int32 → (Nat → Int32) → Option ((Nat → Int32))) (k112 : Int32 → (Nat → Int32) → Option ((Nat → Int32))) (hagain : ∀ (x1 : Int32) (x2 : Int32) (g_sides : (Nat → Int32)), Rn Z 5 (Option.map enc) 0 0 10 [(0, .ref a_this), (1, .int x1), (2, .int x2)] [] [(a_this, .inr (0, [.int g_laid, .int g_groups, .int g_stands, .ref a_table, .ref a_sixthOf, .ref a_sides, .ref a_bonds, .int g_offLine])), (a_bonds, .inl ((zG Z).2.1 1, 49, .inl g_bonds)), (a_sides, .inl ((zG Z).2.1 1, 7, .inl g_sides))] (again x1 x2 g_sides)) (hk112 : ∀ (x1 : Int32) (g_sides : (Nat → Int32)), Rn Z 5 (Option.map enc) 0 0 112 [(0, .ref a_this), (1, .int x1)] [] [(a_this, .inr (0, [.int g_laid, .int g_groups, .int g_stands, .ref a_table, .ref a_sixthOf, .ref a_sides, .ref a_bonds, .int g_offLine])), (a_bonds, .inl ((zG Z).2.1 1, 49, .inl g_bonds)), (a_sides, .inl ((zG Z).2.1 1, 7, .inl g_sides))] (k112 x1 g_sides)) (x1 : Int32) (x2 : Int32) (g_sides : (Nat → Int32)), Rn Z 5 (Option.map enc) 0 0 106 [(0, .ref a_this), (1, .int x1), (2, .int x2)] [] [(a_this, .inr (0, [.int g_laid, .int g_groups, .int g_stands, .ref a_table, .ref a_sixthOf, .ref a_sides, .ref a_bonds, .int g_offLine])), (a_bonds, .inl ((zG Z).2.1 1, 49, .inl g_bonds)), (a_sides, .inl ((zG Z).2.1 1, 7, .inl g_sides))] (X0_spreadSides_J106 again k112 x1 x2 g_sides) := by
    intro again k112 hagain hk112 x1 x2 g_sides
    unfold X0_spreadSides_J106
    refine rn_iinc hX dX0_spreadSides_106 2 rfl ic_1 (by decide) (L' := fun v2 => [(2, .int v2), (0, .ref a_this), (1, .int x1)]) (fun _ => rfl) 109 rfl (fun v2 => ?_)
    refine rn_goto hX dX0_spreadSides_109 10 (by decide) ?_
    refine rn_sub [1, 2, 0] rfl ?_
    exact hagain x1 v2 g_sides
  have hJ100 : ∀ (again : Int32 → Int32 → Int32 → (Nat → Int32) → Option ((Nat → Int32))) (k106 : Int32 → Int32 → (Nat → Int32) → Option ((Nat → Int32))) (hagain : ∀ (x1 : Int32) (x2 : Int32) (x3 : Int32) (g_sides : (Nat → Int32)), Rn Z 5 (Option.map enc) 0 0 18 [(0, .ref a_this), (1, .int x1), (2, .int x2), (3, .int x3)] [] [(a_this, .inr (0, [.int g_laid, .int g_groups, .int g_stands, .ref a_table, .ref a_sixthOf, .ref a_sides, .ref a_bonds, .int g_offLine])), (a_bonds, .inl ((zG Z).2.1 1, 49, .inl g_bonds)), (a_sides, .inl ((zG Z).2.1 1, 7, .inl g_sides))] (again x1 x2 x3 g_sides)) (hk106 : ∀ (x1 : Int32) (x2 : Int32) (g_sides : (Nat → Int32)), Rn Z 5 (Option.map enc) 0 0 106 [(0, .ref a_this), (1, .int x1), (2, .int x2)] [] [(a_this, .inr (0, [.int g_laid, .int g_groups, .int g_stands, .ref a_table, .ref a_sixthOf, .ref a_sides, .ref a_bonds, .int g_offLine])), (a_bonds, .inl ((zG Z).2.1 1, 49, .inl g_bonds)), (a_sides, .inl ((zG Z).2.1 1, 7, .inl g_sides))] (k106 x1 x2 g_sides)) (x1 : Int32) (x2 : Int32) (x3 : Int32) (g_sides : (Nat → Int32)), Rn Z 5 (Option.map enc) 0 0 100 [(0, .ref a_this), (1, .int x1), (2, .int x2), (3, .int x3)] [] [(a_this, .inr (0, [.int g_laid, .int g_groups, .int g_stands, .ref a_table, .ref a_sixthOf, .ref a_sides, .ref a_bonds, .int g_offLine])), (a_bonds, .inl ((zG Z).2.1 1, 49, .inl g_bonds)), (a_sides, .inl ((zG Z).2.1 1, 7, .inl g_sides))] (X0_spreadSides_J100 again k106 x1 x2 x3 g_sides) := by
    intro again k106 hagain hk106 x1 x2 x3 g_sides
    unfold X0_spreadSides_J100
    refine rn_iinc hX dX0_spreadSides_100 3 rfl ic_1 (by decide) (L' := fun v3 => [(3, .int v3), (0, .ref a_this), (1, .int x1), (2, .int x2)]) (fun _ => rfl) 103 rfl (fun v3 => ?_)
    refine rn_goto hX dX0_spreadSides_103 18 (by decide) ?_
    refine rn_sub [1, 2, 3, 0] rfl ?_
    exact hagain x1 x2 v3 g_sides
  have hJ99 : ∀ (again : Int32 → Int32 → Int32 → (Nat → Int32) → Option ((Nat → Int32))) (k106 : Int32 → Int32 → (Nat → Int32) → Option ((Nat → Int32))) (hagain : ∀ (x1 : Int32) (x2 : Int32) (x3 : Int32) (g_sides : (Nat → Int32)), Rn Z 5 (Option.map enc) 0 0 18 [(0, .ref a_this), (1, .int x1), (2, .int x2), (3, .int x3)] [] [(a_this, .inr (0, [.int g_laid, .int g_groups, .int g_stands, .ref a_table, .ref a_sixthOf, .ref a_sides, .ref a_bonds, .int g_offLine])), (a_bonds, .inl ((zG Z).2.1 1, 49, .inl g_bonds)), (a_sides, .inl ((zG Z).2.1 1, 7, .inl g_sides))] (again x1 x2 x3 g_sides)) (hk106 : ∀ (x1 : Int32) (x2 : Int32) (g_sides : (Nat → Int32)), Rn Z 5 (Option.map enc) 0 0 106 [(0, .ref a_this), (1, .int x1), (2, .int x2)] [] [(a_this, .inr (0, [.int g_laid, .int g_groups, .int g_stands, .ref a_table, .ref a_sixthOf, .ref a_sides, .ref a_bonds, .int g_offLine])), (a_bonds, .inl ((zG Z).2.1 1, 49, .inl g_bonds)), (a_sides, .inl ((zG Z).2.1 1, 7, .inl g_sides))] (k106 x1 x2 g_sides)) (x1 : Int32) (x2 : Int32) (x3 : Int32) (s1 : Int32) (s2 : Int32) (g_sides : (Nat → Int32)), Rn Z 5 (Option.map enc) 0 0 99 [(0, .ref a_this), (1, .int x1), (2, .int x2), (3, .int x3)] [.int s2, .int s1, .ref a_sides] [(a_this, .inr (0, [.int g_laid, .int g_groups, .int g_stands, .ref a_table, .ref a_sixthOf, .ref a_sides, .ref a_bonds, .int g_offLine])), (a_bonds, .inl ((zG Z).2.1 1, 49, .inl g_bonds)), (a_sides, .inl ((zG Z).2.1 1, 7, .inl g_sides))] (X0_spreadSides_J99 again k106 x1 x2 x3 s1 s2 g_sides) := by
    intro again k106 hagain hk106 x1 x2 x3 s1 s2 g_sides
    unfold X0_spreadSides_J99
    refine rn_gd (fun hi4 => ?_)
    refine rn_iast hX 2 rfl hi4 dX0_spreadSides_99 100 rfl (w1 := fun m5 => [(a_this, .inr (0, [.int g_laid, .int g_groups, .int g_stands, .ref a_table, .ref a_sixthOf, .ref a_sides, .ref a_bonds, .int g_offLine])), (a_bonds, .inl ((zG Z).2.1 1, 49, .inl g_bonds)), (a_sides, .inl ((zG Z).2.1 1, 7, .inl m5))]) (fun _ => rfl) (fun m5 => ?_)
    exact (hJ100 _ _ hagain hk106) x1 x2 x3 m5
  have hB18 : ∀ (again : Int32 → Int32 → Int32 → (Nat → Int32) → Option ((Nat → Int32))) (k106 : Int32 → Int32 → (Nat → Int32) → Option ((Nat → Int32))) (hagain : ∀ (x1 : Int32) (x2 : Int32) (x3 : Int32) (g_sides : (Nat → Int32)), Rn Z 5 (Option.map enc) 0 0 18 [(0, .ref a_this), (1, .int x1), (2, .int x2), (3, .int x3)] [] [(a_this, .inr (0, [.int g_laid, .int g_groups, .int g_stands, .ref a_table, .ref a_sixthOf, .ref a_sides, .ref a_bonds, .int g_offLine])), (a_bonds, .inl ((zG Z).2.1 1, 49, .inl g_bonds)), (a_sides, .inl ((zG Z).2.1 1, 7, .inl g_sides))] (again x1 x2 x3 g_sides)) (hk106 : ∀ (x1 : Int32) (x2 : Int32) (g_sides : (Nat → Int32)), Rn Z 5 (Option.map enc) 0 0 106 [(0, .ref a_this), (1, .int x1), (2, .int x2)] [] [(a_this, .inr (0, [.int g_laid, .int g_groups, .int g_stands, .ref a_table, .ref a_sixthOf, .ref a_sides, .ref a_bonds, .int g_offLine])), (a_bonds, .inl ((zG Z).2.1 1, 49, .inl g_bonds)), (a_sides, .inl ((zG Z).2.1 1, 7, .inl g_sides))] (k106 x1 x2 g_sides)) (x1 : Int32) (x2 : Int32) (x3 : Int32) (g_sides : (Nat → Int32)), Rn Z 5 (Option.map enc) 0 0 18 [(0, .ref a_this), (1, .int x1), (2, .int x2), (3, .int x3)] [] [(a_this, .inr (0, [.int g_laid, .int g_groups, .int g_stands, .ref a_table, .ref a_sixthOf, .ref a_sides, .ref a_bonds, .int g_offLine])), (a_bonds, .inl ((zG Z).2.1 1, 49, .inl g_bonds)), (a_sides, .inl ((zG Z).2.1 1, 7, .inl g_sides))] (X0_spreadSides_B18 g_offLine g_bonds again k106 x1 x2 x3 g_sides) := by
    intro again k106 hagain hk106 x1 x2 x3 g_sides
    unfold X0_spreadSides_B18
    refine rn_iload_n hX dX0_spreadSides_18 3 rfl 19 rfl ?_
    refine rn_bipush hX dX0_spreadSides_19 21 rfl bp_7 ?_
    refine rn_icmp_ge hX dX0_spreadSides_21 106 (by decide) 24 rfl ?_ ?_
    · refine rn_sub [0, 1, 2] rfl ?_
      exact hk106 x1 x2 g_sides
    refine rn_aload_n hX dX0_spreadSides_24 0 rfl 25 rfl ?_
    refine rn_get hX inX0 0 rfl rfl 6 (by decide) fl26 rfl rfl dX0_spreadSides_25 28 rfl ?_
    refine rn_iload_n hX dX0_spreadSides_28 2 rfl 29 rfl ?_
    refine rn_bipush hX dX0_spreadSides_29 31 rfl bp_7 ?_
    refine rn_imul hX dX0_spreadSides_31 32 rfl ?_
    refine rn_iload_n hX dX0_spreadSides_32 3 rfl 33 rfl ?_
    refine rn_iadd hX dX0_spreadSides_33 34 rfl ?_
    refine rn_gd (fun hi6 => ?_)
    refine rn_iald hX 1 rfl hi6 dX0_spreadSides_34 35 rfl ?_
    refine rn_lati (fun v7 => ?_)
    refine rn_istore hX dX0_spreadSides_35 (by decide) (L' := [(4, .int v7), (0, .ref a_this), (1, .int x1), (2, .int x2), (3, .int x3)]) rfl 37 rfl ?_
    refine rn_iload hX dX0_spreadSides_37 0 rfl 39 rfl ?_
    refine rn_if_eq hX dX0_spreadSides_39 100 (by decide) 42 rfl ?_ ?_
    · refine rn_sub [1, 2, 3, 4] rfl ?_
      exact (hJ100 _ _ hagain hk106) x1 x2 x3 g_sides
    refine rn_aload_n hX dX0_spreadSides_42 1 rfl 43 rfl ?_
    refine rn_get hX inX0 0 rfl rfl 5 (by decide) fl22 rfl rfl dX0_spreadSides_43 46 rfl ?_
    refine rn_iload_n hX dX0_spreadSides_46 3 rfl 47 rfl ?_
    refine rn_gd (fun hi8 => ?_)
    refine rn_iald hX 2 rfl hi8 dX0_spreadSides_47 48 rfl ?_
    refine rn_if_eq hX dX0_spreadSides_48 100 (by decide) 51 rfl ?_ ?_
    · refine rn_sub [1, 2, 3, 4] rfl ?_
      exact (hJ100 _ _ hagain hk106) x1 x2 x3 g_sides
    refine rn_aload_n hX dX0_spreadSides_51 1 rfl 52 rfl ?_
    refine rn_get hX inX0 0 rfl rfl 5 (by decide) fl22 rfl rfl dX0_spreadSides_52 55 rfl ?_
    refine rn_iload_n hX dX0_spreadSides_55 4 rfl 56 rfl ?_
    refine rn_gd (fun hi9 => ?_)
    refine rn_iald hX 2 rfl hi9 dX0_spreadSides_56 57 rfl ?_
    refine rn_if_ne hX dX0_spreadSides_57 100 (by decide) 60 rfl ?_ ?_
    · refine rn_sub [1, 2, 3, 4] rfl ?_
      exact (hJ100 _ _ hagain hk106) x1 x2 x3 g_sides
    refine rn_aload_n hX dX0_spreadSides_60 1 rfl 61 rfl ?_
    refine rn_get hX inX0 0 rfl rfl 7 (by decide) fl71 rfl rfl dX0_spreadSides_61 64 rfl ?_
    refine rn_iload_n hX dX0_spreadSides_64 4 rfl 65 rfl ?_
    refine rn_callSN0 hX (goodK mcC wd_684) rfl (host := "OnlyFar") hn_X0_68 (hX.wd (mcC _ wd_70)) (hX.wd (mcC _ wd_683)) hdS_X10_hasBit rfl rfl ⟨Nat.le_of_ble_eq_true rfl, Nat.le_of_ble_eq_true rfl⟩ (c_X10_hasBit (zl Z) (zG Z) g_offLine x3 rfl) rfl [] rfl rfl rfl (Nat.le_of_ble_eq_true rfl) dX0_spreadSides_65 68 rfl (S' := [.int (X10_hasBit g_offLine x3)]) rfl ⟨Nat.zero_le _, Nat.zero_le _⟩ ?_
    refine rn_if_eq hX dX0_spreadSides_68 100 (by decide) 71 rfl ?_ ?_
    · refine rn_sub [1, 2, 3, 4] rfl ?_
      exact (hJ100 _ _ hagain hk106) x1 x2 x3 g_sides
    refine rn_aload_n hX dX0_spreadSides_71 1 rfl 72 rfl ?_
    refine rn_get hX inX0 0 rfl rfl 5 (by decide) fl22 rfl rfl dX0_spreadSides_72 75 rfl ?_
    refine rn_iload_n hX dX0_spreadSides_75 4 rfl 76 rfl ?_
    refine rn_iload hX dX0_spreadSides_76 0 rfl 78 rfl ?_
    refine rn_iconst hX dX0_spreadSides_78 79 rfl ic_3 ?_
    refine rn_icmp_ne hX dX0_spreadSides_79 93 (by decide) 82 rfl ?_ ?_
    · refine rn_aload_n hX dX0_spreadSides_93 1 rfl 94 rfl ?_
      refine rn_get hX inX0 0 rfl rfl 5 (by decide) fl22 rfl rfl dX0_spreadSides_94 97 rfl ?_
      refine rn_iload_n hX dX0_spreadSides_97 3 rfl 98 rfl ?_
      refine rn_iald hX 2 rfl hi8 dX0_spreadSides_98 99 rfl ?_
      refine rn_sub [1, 2, 3, 4] rfl ?_
      exact (hJ99 _ _ hagain hk106) x1 x2 x3 x3 (g_sides x2.toNatClampNeg) g_sides
    refine rn_iconst hX dX0_spreadSides_82 83 rfl ic_3 ?_
    refine rn_aload_n hX dX0_spreadSides_83 1 rfl 84 rfl ?_
    refine rn_get hX inX0 0 rfl rfl 5 (by decide) fl22 rfl rfl dX0_spreadSides_84 87 rfl ?_
    refine rn_iload_n hX dX0_spreadSides_87 3 rfl 88 rfl ?_
    refine rn_iald hX 2 rfl hi8 dX0_spreadSides_88 89 rfl ?_
    refine rn_isub hX dX0_spreadSides_89 90 rfl ?_
    refine rn_goto hX dX0_spreadSides_90 99 (by decide) ?_
    refine rn_sub [1, 2, 3, 4] rfl ?_
    exact (hJ99 _ _ hagain hk106) x1 x2 x3 x3 ((3 : Int32) - (g_sides x2.toNatClampNeg)) g_sides
  have hL18 : ∀ (k106 : Int32 → Int32 → (Nat → Int32) → Option ((Nat → Int32))) (hk106 : ∀ (x1 : Int32) (x2 : Int32) (g_sides : (Nat → Int32)), Rn Z 5 (Option.map enc) 0 0 106 [(0, .ref a_this), (1, .int x1), (2, .int x2)] [] [(a_this, .inr (0, [.int g_laid, .int g_groups, .int g_stands, .ref a_table, .ref a_sixthOf, .ref a_sides, .ref a_bonds, .int g_offLine])), (a_bonds, .inl ((zG Z).2.1 1, 49, .inl g_bonds)), (a_sides, .inl ((zG Z).2.1 1, 7, .inl g_sides))] (k106 x1 x2 g_sides)) (n : Nat) (x1 : Int32) (x2 : Int32) (x3 : Int32) (g_sides : (Nat → Int32)), Rn Z 5 (Option.map enc) 0 0 18 [(0, .ref a_this), (1, .int x1), (2, .int x2), (3, .int x3)] [] [(a_this, .inr (0, [.int g_laid, .int g_groups, .int g_stands, .ref a_table, .ref a_sixthOf, .ref a_sides, .ref a_bonds, .int g_offLine])), (a_bonds, .inl ((zG Z).2.1 1, 49, .inl g_bonds)), (a_sides, .inl ((zG Z).2.1 1, 7, .inl g_sides))] (X0_spreadSides_L18 g_offLine g_bonds k106 n x1 x2 x3 g_sides) := by
    intro k106 hk106 n
    induction n with
    | zero => intros; exact rn_none
    | succ n ih => exact hB18 _ _ ih hk106
  have hB10 : ∀ (again : Int32 → Int32 → (Nat → Int32) → Option ((Nat → Int32))) (k112 : Int32 → (Nat → Int32) → Option ((Nat → Int32))) (hagain : ∀ (x1 : Int32) (x2 : Int32) (g_sides : (Nat → Int32)), Rn Z 5 (Option.map enc) 0 0 10 [(0, .ref a_this), (1, .int x1), (2, .int x2)] [] [(a_this, .inr (0, [.int g_laid, .int g_groups, .int g_stands, .ref a_table, .ref a_sixthOf, .ref a_sides, .ref a_bonds, .int g_offLine])), (a_bonds, .inl ((zG Z).2.1 1, 49, .inl g_bonds)), (a_sides, .inl ((zG Z).2.1 1, 7, .inl g_sides))] (again x1 x2 g_sides)) (hk112 : ∀ (x1 : Int32) (g_sides : (Nat → Int32)), Rn Z 5 (Option.map enc) 0 0 112 [(0, .ref a_this), (1, .int x1)] [] [(a_this, .inr (0, [.int g_laid, .int g_groups, .int g_stands, .ref a_table, .ref a_sixthOf, .ref a_sides, .ref a_bonds, .int g_offLine])), (a_bonds, .inl ((zG Z).2.1 1, 49, .inl g_bonds)), (a_sides, .inl ((zG Z).2.1 1, 7, .inl g_sides))] (k112 x1 g_sides)) (x1 : Int32) (x2 : Int32) (g_sides : (Nat → Int32)), Rn Z 5 (Option.map enc) 0 0 10 [(0, .ref a_this), (1, .int x1), (2, .int x2)] [] [(a_this, .inr (0, [.int g_laid, .int g_groups, .int g_stands, .ref a_table, .ref a_sixthOf, .ref a_sides, .ref a_bonds, .int g_offLine])), (a_bonds, .inl ((zG Z).2.1 1, 49, .inl g_bonds)), (a_sides, .inl ((zG Z).2.1 1, 7, .inl g_sides))] (X0_spreadSides_B10 g_offLine g_bonds again k112 x1 x2 g_sides) := by
    intro again k112 hagain hk112 x1 x2 g_sides
    unfold X0_spreadSides_B10
    refine rn_iload_n hX dX0_spreadSides_10 2 rfl 11 rfl ?_
    refine rn_bipush hX dX0_spreadSides_11 13 rfl bp_7 ?_
    refine rn_icmp_ge hX dX0_spreadSides_13 112 (by decide) 16 rfl ?_ ?_
    · refine rn_sub [0, 1] rfl ?_
      exact hk112 x1 g_sides
    refine rn_iconst hX dX0_spreadSides_16 17 rfl ic_0 ?_
    refine rn_istore_n hX dX0_spreadSides_17 3 rfl (by decide) (L' := [(3, .int (0 : Int32)), (0, .ref a_this), (1, .int x1), (2, .int x2)]) rfl 18 rfl ?_
    refine rn_sub [1, 2, 3, 0] rfl ?_
    exact (hL18 _ (hJ106 _ _ hagain hk112) 1000) x1 x2 (0 : Int32) g_sides
  have hL10 : ∀ (k112 : Int32 → (Nat → Int32) → Option ((Nat → Int32))) (hk112 : ∀ (x1 : Int32) (g_sides : (Nat → Int32)), Rn Z 5 (Option.map enc) 0 0 112 [(0, .ref a_this), (1, .int x1)] [] [(a_this, .inr (0, [.int g_laid, .int g_groups, .int g_stands, .ref a_table, .ref a_sixthOf, .ref a_sides, .ref a_bonds, .int g_offLine])), (a_bonds, .inl ((zG Z).2.1 1, 49, .inl g_bonds)), (a_sides, .inl ((zG Z).2.1 1, 7, .inl g_sides))] (k112 x1 g_sides)) (n : Nat) (x1 : Int32) (x2 : Int32) (g_sides : (Nat → Int32)), Rn Z 5 (Option.map enc) 0 0 10 [(0, .ref a_this), (1, .int x1), (2, .int x2)] [] [(a_this, .inr (0, [.int g_laid, .int g_groups, .int g_stands, .ref a_table, .ref a_sixthOf, .ref a_sides, .ref a_bonds, .int g_offLine])), (a_bonds, .inl ((zG Z).2.1 1, 49, .inl g_bonds)), (a_sides, .inl ((zG Z).2.1 1, 7, .inl g_sides))] (X0_spreadSides_L10 g_offLine g_bonds k112 n x1 x2 g_sides) := by
    intro k112 hk112 n
    induction n with
    | zero => intros; exact rn_none
    | succ n ih => exact hB10 _ _ ih hk112
  have hB2 : ∀ (again : Int32 → (Nat → Int32) → Option ((Nat → Int32))) (hagain : ∀ (x1 : Int32) (g_sides : (Nat → Int32)), Rn Z 5 (Option.map enc) 0 0 2 [(0, .ref a_this), (1, .int x1)] [] [(a_this, .inr (0, [.int g_laid, .int g_groups, .int g_stands, .ref a_table, .ref a_sixthOf, .ref a_sides, .ref a_bonds, .int g_offLine])), (a_bonds, .inl ((zG Z).2.1 1, 49, .inl g_bonds)), (a_sides, .inl ((zG Z).2.1 1, 7, .inl g_sides))] (again x1 g_sides)) (x1 : Int32) (g_sides : (Nat → Int32)), Rn Z 5 (Option.map enc) 0 0 2 [(0, .ref a_this), (1, .int x1)] [] [(a_this, .inr (0, [.int g_laid, .int g_groups, .int g_stands, .ref a_table, .ref a_sixthOf, .ref a_sides, .ref a_bonds, .int g_offLine])), (a_bonds, .inl ((zG Z).2.1 1, 49, .inl g_bonds)), (a_sides, .inl ((zG Z).2.1 1, 7, .inl g_sides))] (X0_spreadSides_B2 g_offLine g_bonds again x1 g_sides) := by
    intro again hagain x1 g_sides
    unfold X0_spreadSides_B2
    refine rn_iload_n hX dX0_spreadSides_2 1 rfl 3 rfl ?_
    refine rn_bipush hX dX0_spreadSides_3 5 rfl bp_7 ?_
    refine rn_icmp_ge hX dX0_spreadSides_5 118 (by decide) 8 rfl ?_ ?_
    · exact rn_vret hX hr (by rw [henc]; rfl) dX0_spreadSides_118
    refine rn_iconst hX dX0_spreadSides_8 9 rfl ic_0 ?_
    refine rn_istore_n hX dX0_spreadSides_9 2 rfl (by decide) (L' := [(2, .int (0 : Int32)), (0, .ref a_this), (1, .int x1)]) rfl 10 rfl ?_
    refine rn_sub [1, 2, 0] rfl ?_
    exact (hL10 _ (hJ112 _ hagain) 1000) x1 (0 : Int32) g_sides
  have hL2 : ∀ (n : Nat) (x1 : Int32) (g_sides : (Nat → Int32)), Rn Z 5 (Option.map enc) 0 0 2 [(0, .ref a_this), (1, .int x1)] [] [(a_this, .inr (0, [.int g_laid, .int g_groups, .int g_stands, .ref a_table, .ref a_sixthOf, .ref a_sides, .ref a_bonds, .int g_offLine])), (a_bonds, .inl ((zG Z).2.1 1, 49, .inl g_bonds)), (a_sides, .inl ((zG Z).2.1 1, 7, .inl g_sides))] (X0_spreadSides_L2 g_offLine g_bonds n x1 g_sides) := by
    intro n
    induction n with
    | zero => intros; exact rn_none
    | succ n ih => exact hB2 _ ih
  unfold X0_spreadSides
  refine rn_iconst hX dX0_spreadSides_0 1 rfl ic_0 ?_
  refine rn_istore_n hX dX0_spreadSides_1 1 rfl (by decide) (L' := [(1, .int (0 : Int32)), (0, .ref a_this)]) rfl 2 rfl ?_
  refine rn_sub [1, 0] rfl ?_
  exact (hL2  1000) (0 : Int32) g_sides
abbrev rmX0_findGroups : Room := { frames := 2, cells := 0, slots := 0, locals := 45 }
theorem hdV_X0_findGroups : yX0_findGroups.cls = RX0 ∧ yX0_findGroups.cls ≠ "java/lang/invoke/MethodHandle" ∧ yX0_findGroups.cls ≠ "java/lang/invoke/VarHandle" ∧ (parseMethodDescriptor yX0_findGroups.desc).map (fun d => d.parameters.length) = some 0 := by decide +kernel
set_option maxHeartbeats 4000000 in
set_option maxRecDepth 100000 in
theorem c_X0_findGroups (l : Launch) (G : GT) (a_this a_bonds a_sides a_table a_sixthOf : Nat) (g_laid : Int32) (g_groups : Int32) (g_stands : Int32) (g_offLine : Int32) (g_bonds : (Nat → Int32)) (g_sides : (Nat → Int32)) {u : Int32 × (Nat → Int32)} (hu : X0_findGroups g_groups g_offLine g_bonds g_sides = some u) : Ctr l G yX0_findGroups wsX0_findGroups rmX0_findGroups [.ref a_this] [(a_this, .inr (0, [.int g_laid, .int g_groups, .int g_stands, .ref a_table, .ref a_sixthOf, .ref a_sides, .ref a_bonds, .int g_offLine])), (a_bonds, .inl (G.2.1 1, 49, .inl g_bonds)), (a_sides, .inl (G.2.1 1, 7, .inl g_sides))] none [(a_this, .inr (0, [.int g_laid, .int u.1, .int g_stands, .ref a_table, .ref a_sixthOf, .ref a_sides, .ref a_bonds, .int g_offLine])), (a_bonds, .inl (G.2.1 1, 49, .inl g_bonds)), (a_sides, .inl (G.2.1 1, 7, .inl u.2))] := by
  obtain ⟨enc, henc⟩ : ∃ enc : (Int32 × (Nat → Int32)) → Option Value × va_W, enc = fun u => ((none : Option Value), ([(a_this, .inr (0, [.int g_laid, .int u.1, .int g_stands, .ref a_table, .ref a_sixthOf, .ref a_sides, .ref a_bonds, .int g_offLine])), (a_bonds, .inl (G.2.1 1, 49, .inl g_bonds)), (a_sides, .inl (G.2.1 1, 7, .inl u.2))] : va_W)) := ⟨_, rfl⟩
  refine ctr_of (cc := cX0_findGroups) (own := RX0) (E := Option.map enc) (o := X0_findGroups g_groups g_offLine g_bonds g_sides) (by decide) rfl rfl (L := [(0, .ref a_this)]) rfl (Nat.le_of_ble_eq_true rfl) (by rw [hu, henc]; rfl) ?_
  intro Z hX hl hG hr
  subst hl; subst hG
  have fl22 : (Cond.fieldLink RX0 22 "OnlyFar$Drawing" "sides" "[I").before (za Z) (zs Z) = true := hX.wd (mcC _ wd_308)
  have fl61 : (Cond.fieldLink RX0 61 "OnlyFar$Drawing" "groups" "I").before (za Z) (zs Z) = true := hX.wd (mcC _ wd_302)
  have fl71 : (Cond.fieldLink RX0 71 "OnlyFar$Drawing" "offLine" "I").before (za Z) (zs Z) = true := hX.wd (mcC _ wd_310)
  have inX0 : ∀ w ∈ u_ws RX0 TX0 8, w ∈ wsX0_findGroups := fun w h => mcC w (inC_X0 w h)
  have hJ62 : ∀ (again : Int32 → Int32 → (Nat → Int32) → Option (Int32 × (Nat → Int32))) (hagain : ∀ (x1 : Int32) (g_groups : Int32) (g_sides : (Nat → Int32)), Rn Z 2 (Option.map enc) 0 0 15 [(0, .ref a_this), (1, .int x1)] [] [(a_this, .inr (0, [.int g_laid, .int g_groups, .int g_stands, .ref a_table, .ref a_sixthOf, .ref a_sides, .ref a_bonds, .int g_offLine])), (a_bonds, .inl ((zG Z).2.1 1, 49, .inl g_bonds)), (a_sides, .inl ((zG Z).2.1 1, 7, .inl g_sides))] (again x1 g_groups g_sides)) (x1 : Int32) (g_groups : Int32) (g_sides : (Nat → Int32)), Rn Z 2 (Option.map enc) 0 0 62 [(0, .ref a_this), (1, .int x1)] [] [(a_this, .inr (0, [.int g_laid, .int g_groups, .int g_stands, .ref a_table, .ref a_sixthOf, .ref a_sides, .ref a_bonds, .int g_offLine])), (a_bonds, .inl ((zG Z).2.1 1, 49, .inl g_bonds)), (a_sides, .inl ((zG Z).2.1 1, 7, .inl g_sides))] (X0_findGroups_J62 again x1 g_groups g_sides) := by
    intro again hagain x1 g_groups g_sides
    unfold X0_findGroups_J62
    refine rn_iinc hX dX0_findGroups_62 1 rfl ic_1 (by decide) (L' := fun v1 => [(1, .int v1), (0, .ref a_this)]) (fun _ => rfl) 65 rfl (fun v1 => ?_)
    refine rn_goto hX dX0_findGroups_65 15 (by decide) ?_
    refine rn_sub [1, 0] rfl ?_
    exact hagain v1 g_groups g_sides
  have hB15 : ∀ (again : Int32 → Int32 → (Nat → Int32) → Option (Int32 × (Nat → Int32))) (hagain : ∀ (x1 : Int32) (g_groups : Int32) (g_sides : (Nat → Int32)), Rn Z 2 (Option.map enc) 0 0 15 [(0, .ref a_this), (1, .int x1)] [] [(a_this, .inr (0, [.int g_laid, .int g_groups, .int g_stands, .ref a_table, .ref a_sixthOf, .ref a_sides, .ref a_bonds, .int g_offLine])), (a_bonds, .inl ((zG Z).2.1 1, 49, .inl g_bonds)), (a_sides, .inl ((zG Z).2.1 1, 7, .inl g_sides))] (again x1 g_groups g_sides)) (x1 : Int32) (g_groups : Int32) (g_sides : (Nat → Int32)), Rn Z 2 (Option.map enc) 0 0 15 [(0, .ref a_this), (1, .int x1)] [] [(a_this, .inr (0, [.int g_laid, .int g_groups, .int g_stands, .ref a_table, .ref a_sixthOf, .ref a_sides, .ref a_bonds, .int g_offLine])), (a_bonds, .inl ((zG Z).2.1 1, 49, .inl g_bonds)), (a_sides, .inl ((zG Z).2.1 1, 7, .inl g_sides))] (X0_findGroups_B15 g_offLine g_bonds again x1 g_groups g_sides) := by
    intro again hagain x1 g_groups g_sides
    unfold X0_findGroups_B15
    refine rn_iload_n hX dX0_findGroups_15 1 rfl 16 rfl ?_
    refine rn_bipush hX dX0_findGroups_16 18 rfl bp_7 ?_
    refine rn_icmp_ge hX dX0_findGroups_18 68 (by decide) 21 rfl ?_ ?_
    · exact rn_vret hX hr (by rw [henc]; rfl) dX0_findGroups_68
    refine rn_aload_n hX dX0_findGroups_21 0 rfl 22 rfl ?_
    refine rn_get hX inX0 0 rfl rfl 7 (by decide) fl71 rfl rfl dX0_findGroups_22 25 rfl ?_
    refine rn_iload_n hX dX0_findGroups_25 1 rfl 26 rfl ?_
    refine rn_callSN0 hX (goodK mcC wd_684) rfl (host := "OnlyFar") hn_X0_68 (hX.wd (mcC _ wd_70)) (hX.wd (mcC _ wd_683)) hdS_X10_hasBit rfl rfl ⟨Nat.le_of_ble_eq_true rfl, Nat.le_of_ble_eq_true rfl⟩ (c_X10_hasBit (zl Z) (zG Z) g_offLine x1 rfl) rfl [] rfl rfl rfl (Nat.le_of_ble_eq_true rfl) dX0_findGroups_26 29 rfl (S' := [.int (X10_hasBit g_offLine x1)]) rfl ⟨Nat.zero_le _, Nat.zero_le _⟩ ?_
    refine rn_if_eq hX dX0_findGroups_29 62 (by decide) 32 rfl ?_ ?_
    · exact (hJ62 _ hagain) x1 g_groups g_sides
    refine rn_aload_n hX dX0_findGroups_32 0 rfl 33 rfl ?_
    refine rn_get hX inX0 0 rfl rfl 5 (by decide) fl22 rfl rfl dX0_findGroups_33 36 rfl ?_
    refine rn_iload_n hX dX0_findGroups_36 1 rfl 37 rfl ?_
    refine rn_gd (fun hi2 => ?_)
    refine rn_iald hX 2 rfl hi2 dX0_findGroups_37 38 rfl ?_
    refine rn_if_ne hX dX0_findGroups_38 62 (by decide) 41 rfl ?_ ?_
    · exact (hJ62 _ hagain) x1 g_groups g_sides
    refine rn_aload_n hX dX0_findGroups_41 0 rfl 42 rfl ?_
    refine rn_dup hX dX0_findGroups_42 43 rfl rfl ?_
    refine rn_get hX inX0 0 rfl rfl 1 (by decide) fl61 rfl rfl dX0_findGroups_43 46 rfl ?_
    refine rn_iconst hX dX0_findGroups_46 47 rfl ic_1 ?_
    refine rn_iadd hX dX0_findGroups_47 48 rfl ?_
    refine rn_lati (fun v3 => ?_)
    refine rn_put hX inX0 tyX0_ok nmX0 0 rfl rfl 1 (by decide) fl61 rfl rfl rfl rfl (Nat.le_of_ble_eq_true rfl) dX0_findGroups_48 51 rfl (w1 := [(a_this, .inr (0, [.int g_laid, .int v3, .int g_stands, .ref a_table, .ref a_sixthOf, .ref a_sides, .ref a_bonds, .int g_offLine])), (a_bonds, .inl ((zG Z).2.1 1, 49, .inl g_bonds)), (a_sides, .inl ((zG Z).2.1 1, 7, .inl g_sides))]) rfl ?_
    refine rn_aload_n hX dX0_findGroups_51 0 rfl 52 rfl ?_
    refine rn_get hX inX0 0 rfl rfl 5 (by decide) fl22 rfl rfl dX0_findGroups_52 55 rfl ?_
    refine rn_iload_n hX dX0_findGroups_55 1 rfl 56 rfl ?_
    refine rn_iconst hX dX0_findGroups_56 57 rfl ic_1 ?_
    refine rn_iast hX 2 rfl hi2 dX0_findGroups_57 58 rfl (w1 := fun m4 => [(a_this, .inr (0, [.int g_laid, .int v3, .int g_stands, .ref a_table, .ref a_sixthOf, .ref a_sides, .ref a_bonds, .int g_offLine])), (a_bonds, .inl ((zG Z).2.1 1, 49, .inl g_bonds)), (a_sides, .inl ((zG Z).2.1 1, 7, .inl m4))]) (fun _ => rfl) (fun m4 => ?_)
    refine rn_aload_n hX dX0_findGroups_58 0 rfl 59 rfl ?_
    refine rn_bind (fun u5 hu5 => ?_)
    refine rn_callV hX (gV mcC wd_805 wd_807 wd_19 wd_79 wd_808) rfl hdV_X0_spreadSides rfl rfl ⟨Nat.le_of_ble_eq_true rfl, Nat.le_of_ble_eq_true rfl⟩ (c_X0_spreadSides (zl Z) (zG Z) a_this a_bonds a_sides a_table a_sixthOf g_laid v3 g_stands g_offLine g_bonds m4 hu5) rfl [0, 1, 2] rfl rfl rfl (ci := 0) rfl rfl rfl (Nat.le_of_ble_eq_true rfl) dX0_findGroups_59 62 rfl (wn := [(a_this, .inr (0, [.int g_laid, .int v3, .int g_stands, .ref a_table, .ref a_sixthOf, .ref a_sides, .ref a_bonds, .int g_offLine])), (a_bonds, .inl ((zG Z).2.1 1, 49, .inl g_bonds)), (a_sides, .inl ((zG Z).2.1 1, 7, .inl u5))]) rfl (S' := []) rfl ⟨Nat.zero_le _, Nat.zero_le _⟩ ?_
    exact (hJ62 _ hagain) x1 v3 u5
  have hL15 : ∀ (n : Nat) (x1 : Int32) (g_groups : Int32) (g_sides : (Nat → Int32)), Rn Z 2 (Option.map enc) 0 0 15 [(0, .ref a_this), (1, .int x1)] [] [(a_this, .inr (0, [.int g_laid, .int g_groups, .int g_stands, .ref a_table, .ref a_sixthOf, .ref a_sides, .ref a_bonds, .int g_offLine])), (a_bonds, .inl ((zG Z).2.1 1, 49, .inl g_bonds)), (a_sides, .inl ((zG Z).2.1 1, 7, .inl g_sides))] (X0_findGroups_L15 g_offLine g_bonds n x1 g_groups g_sides) := by
    intro n
    induction n with
    | zero => intros; exact rn_none
    | succ n ih => exact hB15 _ ih
  unfold X0_findGroups
  refine rn_aload_n hX dX0_findGroups_0 0 rfl 1 rfl ?_
  refine rn_get hX inX0 0 rfl rfl 5 (by decide) fl22 rfl rfl dX0_findGroups_1 4 rfl ?_
  refine rn_iconst hX dX0_findGroups_4 5 rfl ic_0 ?_
  refine rn_bind (fun u6 hu6 => ?_)
  refine rn_callS hX (gS mcC wd_804 wd_419 wd_82 wd_420) rfl hdS_J7_fill_53178_7 rfl rfl ⟨Nat.le_of_ble_eq_true rfl, Nat.le_of_ble_eq_true rfl⟩ (c_J7_fill_53178_7 (zl Z) (zG Z) a_sides g_sides (0 : Int32) hu6) rfl [2] rfl rfl rfl rfl (Nat.le_of_ble_eq_true rfl) dX0_findGroups_5 8 rfl (wn := [(a_this, .inr (0, [.int g_laid, .int g_groups, .int g_stands, .ref a_table, .ref a_sixthOf, .ref a_sides, .ref a_bonds, .int g_offLine])), (a_bonds, .inl ((zG Z).2.1 1, 49, .inl g_bonds)), (a_sides, .inl ((zG Z).2.1 1, 7, .inl u6))]) rfl (S' := []) rfl ⟨Nat.zero_le _, Nat.zero_le _⟩ ?_
  refine rn_aload_n hX dX0_findGroups_8 0 rfl 9 rfl ?_
  refine rn_iconst hX dX0_findGroups_9 10 rfl ic_0 ?_
  refine rn_put hX inX0 tyX0_ok nmX0 0 rfl rfl 1 (by decide) fl61 rfl rfl rfl rfl (Nat.le_of_ble_eq_true rfl) dX0_findGroups_10 13 rfl (w1 := [(a_this, .inr (0, [.int g_laid, .int (0 : Int32), .int g_stands, .ref a_table, .ref a_sixthOf, .ref a_sides, .ref a_bonds, .int g_offLine])), (a_bonds, .inl ((zG Z).2.1 1, 49, .inl g_bonds)), (a_sides, .inl ((zG Z).2.1 1, 7, .inl u6))]) rfl ?_
  refine rn_iconst hX dX0_findGroups_13 14 rfl ic_0 ?_
  refine rn_istore_n hX dX0_findGroups_14 1 rfl (by decide) (L' := [(1, .int (0 : Int32)), (0, .ref a_this)]) rfl 15 rfl ?_
  refine rn_sub [1, 0] rfl ?_
  exact (hL15  1000) (0 : Int32) (0 : Int32) u6
abbrev rmX0_holds : Room := { frames := 0, cells := 0, slots := 0, locals := 0 }
theorem hdV_X0_holds : yX0_holds.cls = RX0 ∧ yX0_holds.cls ≠ "java/lang/invoke/MethodHandle" ∧ yX0_holds.cls ≠ "java/lang/invoke/VarHandle" ∧ (parseMethodDescriptor yX0_holds.desc).map (fun d => d.parameters.length) = some 2 := by decide +kernel
set_option maxHeartbeats 4000000 in
set_option maxRecDepth 100000 in
theorem c_X0_holds (l : Launch) (G : GT) (a_this a_bonds a_sides a_table a_sixthOf : Nat) (g_laid : Int32) (g_groups : Int32) (g_stands : Int32) (g_offLine : Int32) (g_bonds : (Nat → Int32)) (g_sides : (Nat → Int32)) (x1 : Int32) (x2 : Int32) {u : Int32} (hu : X0_holds x1 x2 g_bonds g_sides = some u) : Ctr l G yX0_holds wsX0_holds rmX0_holds [.ref a_this, .int x1, .int x2] [(a_this, .inr (0, [.int g_laid, .int g_groups, .int g_stands, .ref a_table, .ref a_sixthOf, .ref a_sides, .ref a_bonds, .int g_offLine])), (a_bonds, .inl (G.2.1 1, 49, .inl g_bonds)), (a_sides, .inl (G.2.1 1, 7, .inl g_sides))] (some (.int u)) [(a_this, .inr (0, [.int g_laid, .int g_groups, .int g_stands, .ref a_table, .ref a_sixthOf, .ref a_sides, .ref a_bonds, .int g_offLine])), (a_bonds, .inl (G.2.1 1, 49, .inl g_bonds)), (a_sides, .inl (G.2.1 1, 7, .inl g_sides))] := by
  obtain ⟨enc, henc⟩ : ∃ enc : (Int32) → Option Value × va_W, enc = fun u => (((some (.int u)) : Option Value), ([(a_this, .inr (0, [.int g_laid, .int g_groups, .int g_stands, .ref a_table, .ref a_sixthOf, .ref a_sides, .ref a_bonds, .int g_offLine])), (a_bonds, .inl (G.2.1 1, 49, .inl g_bonds)), (a_sides, .inl (G.2.1 1, 7, .inl g_sides))] : va_W)) := ⟨_, rfl⟩
  refine ctr_of (cc := cX0_holds) (own := RX0) (E := Option.map enc) (o := X0_holds x1 x2 g_bonds g_sides) (by decide) rfl rfl (L := [(0, .ref a_this), (1, .int x1), (2, .int x2)]) rfl (Nat.le_of_ble_eq_true rfl) (by rw [hu, henc]; rfl) ?_
  intro Z hX hl hG hr
  subst hl; subst hG
  have fl22 : (Cond.fieldLink RX0 22 "OnlyFar$Drawing" "sides" "[I").before (za Z) (zs Z) = true := hX.wd (mcC _ wd_308)
  have fl26 : (Cond.fieldLink RX0 26 "OnlyFar$Drawing" "bonds" "[I").before (za Z) (zs Z) = true := hX.wd (mcC _ wd_309)
  have inX0 : ∀ w ∈ u_ws RX0 TX0 8, w ∈ wsX0_holds := fun w h => mcC w (inC_X0 w h)
  unfold X0_holds
  refine rn_aload_n hX dX0_holds_0 0 rfl 1 rfl ?_
  refine rn_get hX inX0 0 rfl rfl 6 (by decide) fl26 rfl rfl dX0_holds_1 4 rfl ?_
  refine rn_iload_n hX dX0_holds_4 1 rfl 5 rfl ?_
  refine rn_bipush hX dX0_holds_5 7 rfl bp_7 ?_
  refine rn_imul hX dX0_holds_7 8 rfl ?_
  refine rn_iload_n hX dX0_holds_8 2 rfl 9 rfl ?_
  refine rn_iadd hX dX0_holds_9 10 rfl ?_
  refine rn_gd (fun hi1 => ?_)
  refine rn_iald hX 1 rfl hi1 dX0_holds_10 11 rfl ?_
  by_cases hs2 : (g_bonds ((x1 * (7 : Int32)) + x2).toNatClampNeg) = (1 : Int32)
  · rw [if_pos hs2]
    refine rn_tableIn hX dX0_holds_11 hs2 (by decide) (by decide) rfl 36 (by decide) ?_
    refine rn_iconst hX dX0_holds_36 37 rfl ic_0 ?_
    exact rn_zret hX rfl hr (by rw [henc]; rfl) dX0_holds_37
  rw [if_neg hs2]
  by_cases hs5 : (g_bonds ((x1 * (7 : Int32)) + x2).toNatClampNeg) = (2 : Int32)
  · rw [if_pos hs5]
    refine rn_tableIn hX dX0_holds_11 hs5 (by decide) (by decide) rfl 38 (by decide) ?_
    refine rn_aload_n hX dX0_holds_38 0 rfl 39 rfl ?_
    refine rn_get hX inX0 0 rfl rfl 5 (by decide) fl22 rfl rfl dX0_holds_39 42 rfl ?_
    refine rn_iload_n hX dX0_holds_42 1 rfl 43 rfl ?_
    refine rn_gd (fun hi3 => ?_)
    refine rn_iald hX 2 rfl hi3 dX0_holds_43 44 rfl ?_
    refine rn_aload_n hX dX0_holds_44 0 rfl 45 rfl ?_
    refine rn_get hX inX0 0 rfl rfl 5 (by decide) fl22 rfl rfl dX0_holds_45 48 rfl ?_
    refine rn_iload_n hX dX0_holds_48 2 rfl 49 rfl ?_
    refine rn_gd (fun hi4 => ?_)
    refine rn_iald hX 2 rfl hi4 dX0_holds_49 50 rfl ?_
    refine rn_icmp_ne hX dX0_holds_50 57 (by decide) 53 rfl ?_ ?_
    · refine rn_iconst hX dX0_holds_57 58 rfl ic_0 ?_
      exact rn_zret hX rfl hr (by rw [henc]; rfl) dX0_holds_58
    refine rn_iconst hX dX0_holds_53 54 rfl ic_1 ?_
    refine rn_goto hX dX0_holds_54 58 (by decide) ?_
    exact rn_zret hX rfl hr (by rw [henc]; rfl) dX0_holds_58
  rw [if_neg hs5]
  by_cases hs8 : (g_bonds ((x1 * (7 : Int32)) + x2).toNatClampNeg) = (3 : Int32)
  · rw [if_pos hs8]
    refine rn_tableIn hX dX0_holds_11 hs8 (by decide) (by decide) rfl 59 (by decide) ?_
    refine rn_aload_n hX dX0_holds_59 0 rfl 60 rfl ?_
    refine rn_get hX inX0 0 rfl rfl 5 (by decide) fl22 rfl rfl dX0_holds_60 63 rfl ?_
    refine rn_iload_n hX dX0_holds_63 1 rfl 64 rfl ?_
    refine rn_gd (fun hi6 => ?_)
    refine rn_iald hX 2 rfl hi6 dX0_holds_64 65 rfl ?_
    refine rn_aload_n hX dX0_holds_65 0 rfl 66 rfl ?_
    refine rn_get hX inX0 0 rfl rfl 5 (by decide) fl22 rfl rfl dX0_holds_66 69 rfl ?_
    refine rn_iload_n hX dX0_holds_69 2 rfl 70 rfl ?_
    refine rn_gd (fun hi7 => ?_)
    refine rn_iald hX 2 rfl hi7 dX0_holds_70 71 rfl ?_
    refine rn_icmp_eq hX dX0_holds_71 78 (by decide) 74 rfl ?_ ?_
    · refine rn_iconst hX dX0_holds_78 79 rfl ic_0 ?_
      exact rn_zret hX rfl hr (by rw [henc]; rfl) dX0_holds_79
    refine rn_iconst hX dX0_holds_74 75 rfl ic_1 ?_
    refine rn_goto hX dX0_holds_75 79 (by decide) ?_
    exact rn_zret hX rfl hr (by rw [henc]; rfl) dX0_holds_79
  rw [if_neg hs8]
  refine rn_tableOut hX dX0_holds_11 (by have qhs2 := ne_int hs2; rw [show (1 : Int32).toInt = 1 from by decide] at qhs2; have qhs5 := ne_int hs5; rw [show (2 : Int32).toInt = 2 from by decide] at qhs5; have qhs8 := ne_int hs8; rw [show (3 : Int32).toInt = 3 from by decide] at qhs8; have := qhs2; omega) 80 (by decide) ?_
  refine rn_iconst hX dX0_holds_80 81 rfl ic_1 ?_
  exact rn_zret hX rfl hr (by rw [henc]; rfl) dX0_holds_81
