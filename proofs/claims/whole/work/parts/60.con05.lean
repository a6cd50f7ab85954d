abbrev rmX9_add : Room := { frames := 0, cells := 0, slots := 0, locals := 0 }
theorem hdV_X9_add : yX9_add.cls = RX9 ∧ yX9_add.cls ≠ "java/lang/invoke/MethodHandle" ∧ yX9_add.cls ≠ "java/lang/invoke/VarHandle" ∧ (parseMethodDescriptor yX9_add.desc).map (fun d => d.parameters.length) = some 1 := by decide +kernel
set_option maxHeartbeats 4000000 in
set_option maxRecDepth 100000 in
theorem c_X9_add (l : Launch) (G : GT) (a_this a_bytes : Nat) (g_length : Int32) (g_bytes : (Nat → Int32)) (x1 : Int64) {u : Int32 × Int32 × (Nat → Int32)} (hu : X9_add x1 g_length g_bytes = some u) : Ctr l G yX9_add wsX9_add rmX9_add [.ref a_this, .long x1] [(a_this, .inr (9, [.int g_length, .ref a_bytes])), (a_bytes, .inl (G.2.1 0, 320, .inl g_bytes))] (some (.int u.1)) [(a_this, .inr (9, [.int u.2.1, .ref a_bytes])), (a_bytes, .inl (G.2.1 0, 320, .inl u.2.2))] := by
  obtain ⟨enc, henc⟩ : ∃ enc : (Int32 × Int32 × (Nat → Int32)) → Option Value × va_W, enc = fun u => (((some (.int u.1)) : Option Value), ([(a_this, .inr (9, [.int u.2.1, .ref a_bytes])), (a_bytes, .inl (G.2.1 0, 320, .inl u.2.2))] : va_W)) := ⟨_, rfl⟩
  refine ctr_of (cc := cX9_add) (own := RX9) (E := Option.map enc) (o := X9_add x1 g_length g_bytes) (by decide) rfl rfl (L := [(0, .ref a_this), (1, .long x1)]) rfl (Nat.le_of_ble_eq_true rfl) (by rw [hu, henc]; rfl) ?_
  intro Z hX hl hG hr
  subst hl; subst hG
  have fl15 : (Cond.fieldLink RX9 15 "OnlyFar$Tape" "bytes" "[B").before (za Z) (zs Z) = true := hX.wd (List.mem_of_getElem? (i := 2) rfl)
  have fl9 : (Cond.fieldLink RX9 9 "OnlyFar$Tape" "length" "I").before (za Z) (zs Z) = true := hX.wd (List.mem_of_getElem? (i := 1) rfl)
  have inX9 : ∀ w ∈ u_ws RX9 TX9 2, w ∈ wsX9_add := fun _ h => List.mem_cons_of_mem _ ((List.mem_append_right _ h))
  have hJ55 : ∀ (g_length : Int32) (g_bytes : (Nat → Int32)), Rn Z 4 (Option.map enc) 0 0 55 [(0, .ref a_this)] [] [(a_this, .inr (9, [.int g_length, .ref a_bytes])), (a_bytes, .inl ((zG Z).2.1 0, 320, .inl g_bytes))] (X9_add_J55 g_length g_bytes) := by
    intro g_length g_bytes
    unfold X9_add_J55
    refine rn_aload_n hX dX9_add_55 0 rfl 56 rfl ?_
    refine rn_dup hX dX9_add_56 57 rfl rfl ?_
    refine rn_get hX inX9 0 rfl rfl 0 (by decide) fl9 rfl rfl dX9_add_57 60 rfl ?_
    refine rn_bipush hX dX9_add_60 62 rfl bp_8 ?_
    refine rn_iadd hX dX9_add_62 63 rfl ?_
    refine rn_lati (fun v1 => ?_)
    refine rn_put hX inX9 tyX9_ok nmX9 0 rfl rfl 0 (by decide) fl9 rfl rfl rfl rfl (Nat.le_of_ble_eq_true rfl) dX9_add_63 66 rfl (w1 := [(a_this, .inr (9, [.int v1, .ref a_bytes])), (a_bytes, .inl ((zG Z).2.1 0, 320, .inl g_bytes))]) rfl ?_
    refine rn_iconst hX dX9_add_66 67 rfl ic_1 ?_
    exact rn_zret hX rfl hr (by rw [henc]; rfl) dX9_add_67
  have hB21 : ∀ (again : Int64 → Int32 → Int32 → (Nat → Int32) → Option (Int32 × Int32 × (Nat → Int32))) (k55 : Int32 → (Nat → Int32) → Option (Int32 × Int32 × (Nat → Int32))) (hagain : ∀ (x1 : Int64) (x3 : Int32) (g_length : Int32) (g_bytes : (Nat → Int32)), Rn Z 4 (Option.map enc) 0 0 21 [(0, .ref a_this), (1, .long x1), (3, .int x3)] [] [(a_this, .inr (9, [.int g_length, .ref a_bytes])), (a_bytes, .inl ((zG Z).2.1 0, 320, .inl g_bytes))] (again x1 x3 g_length g_bytes)) (hk55 : ∀ (g_length : Int32) (g_bytes : (Nat → Int32)), Rn Z 4 (Option.map enc) 0 0 55 [(0, .ref a_this)] [] [(a_this, .inr (9, [.int g_length, .ref a_bytes])), (a_bytes, .inl ((zG Z).2.1 0, 320, .inl g_bytes))] (k55 g_length g_bytes)) (x1 : Int64) (x3 : Int32) (g_length : Int32) (g_bytes : (Nat → Int32)), Rn Z 4 (Option.map enc) 0 0 21 [(0, .ref a_this), (1, .long x1), (3, .int x3)] [] [(a_this, .inr (9, [.int g_length, .ref a_bytes])), (a_bytes, .inl ((zG Z).2.1 0, 320, .inl g_bytes))] (X9_add_B21 again k55 x1 x3 g_length g_bytes) := by
    intro again k55 hagain hk55 x1 x3 g_length g_bytes
    unfold X9_add_B21
    refine rn_iload_n hX dX9_add_21 2 rfl 22 rfl ?_
    refine rn_bipush hX dX9_add_22 24 rfl bp_8 ?_
    refine rn_icmp_ge hX dX9_add_24 55 (by decide) 27 rfl ?_ ?_
    · refine rn_sub [0] rfl ?_
      exact hk55 g_length g_bytes
    refine rn_aload_n hX dX9_add_27 0 rfl 28 rfl ?_
    refine rn_get hX inX9 0 rfl rfl 1 (by decide) fl15 rfl rfl dX9_add_28 31 rfl ?_
    refine rn_aload_n hX dX9_add_31 0 rfl 32 rfl ?_
    refine rn_get hX inX9 0 rfl rfl 0 (by decide) fl9 rfl rfl dX9_add_32 35 rfl ?_
    refine rn_iload_n hX dX9_add_35 2 rfl 36 rfl ?_
    refine rn_iadd hX dX9_add_36 37 rfl ?_
    refine rn_lload_n hX dX9_add_37 1 rfl 38 rfl ?_
    refine rn_bipush hX dX9_add_38 40 rfl bp_56 ?_
    refine rn_bipush hX dX9_add_40 42 rfl bp_8 ?_
    refine rn_iload_n hX dX9_add_42 2 rfl 43 rfl ?_
    refine rn_imul hX dX9_add_43 44 rfl ?_
    refine rn_isub hX dX9_add_44 45 rfl ?_
    refine rn_lushr hX dX9_add_45 46 rfl ?_
    refine rn_l2i hX dX9_add_46 47 rfl ?_
    refine rn_i2b hX dX9_add_47 48 rfl ?_
    refine rn_gd (fun hi2 => ?_)
    refine rn_bast hX 1 rfl hi2 dX9_add_48 49 rfl (w1 := fun m3 => [(a_this, .inr (9, [.int g_length, .ref a_bytes])), (a_bytes, .inl ((zG Z).2.1 0, 320, .inl m3))]) (fun _ => rfl) (fun m3 => ?_)
    refine rn_iinc hX dX9_add_49 2 rfl ic_1 (by decide) (L' := fun v4 => [(3, .int v4), (0, .ref a_this), (1, .long x1)]) (fun _ => rfl) 52 rfl (fun v4 => ?_)
    refine rn_goto hX dX9_add_52 21 (by decide) ?_
    refine rn_sub [1, 2, 0] rfl ?_
    exact hagain x1 v4 g_length m3
  have hL21 : ∀ (k55 : Int32 → (Nat → Int32) → Option (Int32 × Int32 × (Nat → Int32))) (hk55 : ∀ (g_length : Int32) (g_bytes : (Nat → Int32)), Rn Z 4 (Option.map enc) 0 0 55 [(0, .ref a_this)] [] [(a_this, .inr (9, [.int g_length, .ref a_bytes])), (a_bytes, .inl ((zG Z).2.1 0, 320, .inl g_bytes))] (k55 g_length g_bytes)) (n : Nat) (x1 : Int64) (x3 : Int32) (g_length : Int32) (g_bytes : (Nat → Int32)), Rn Z 4 (Option.map enc) 0 0 21 [(0, .ref a_this), (1, .long x1), (3, .int x3)] [] [(a_this, .inr (9, [.int g_length, .ref a_bytes])), (a_bytes, .inl ((zG Z).2.1 0, 320, .inl g_bytes))] (X9_add_L21 k55 n x1 x3 g_length g_bytes) := by
    intro k55 hk55 n
    induction n with
    | zero => intros; exact rn_none
    | succ n ih => exact hB21 _ _ ih hk55
  unfold X9_add
  refine rn_aload_n hX dX9_add_0 0 rfl 1 rfl ?_
  refine rn_get hX inX9 0 rfl rfl 0 (by decide) fl9 rfl rfl dX9_add_1 4 rfl ?_
  refine rn_if_lt hX dX9_add_4 17 (by decide) 7 rfl ?_ ?_
  · refine rn_iconst hX dX9_add_17 18 rfl ic_0 ?_
    exact rn_zret hX rfl hr (by rw [henc]; rfl) dX9_add_18
  refine rn_aload_n hX dX9_add_7 0 rfl 8 rfl ?_
  refine rn_get hX inX9 0 rfl rfl 0 (by decide) fl9 rfl rfl dX9_add_8 11 rfl ?_
  refine rn_sipush hX dX9_add_11 14 rfl sp_312 ?_
  refine rn_icmp_le hX dX9_add_14 19 (by decide) 17 rfl ?_ ?_
  · refine rn_iconst hX dX9_add_19 20 rfl ic_0 ?_
    refine rn_istore_n hX dX9_add_20 3 rfl (by decide) (L' := [(3, .int (0 : Int32)), (0, .ref a_this), (1, .long x1)]) rfl 21 rfl ?_
    refine rn_sub [1, 2, 0] rfl ?_
    exact (hL21 _ hJ55 1000) x1 (0 : Int32) g_length g_bytes
  refine rn_iconst hX dX9_add_17 18 rfl ic_0 ?_
  exact rn_zret hX rfl hr (by rw [henc]; rfl) dX9_add_18
abbrev rmX10_feed : Room := { frames := 1, cells := 0, slots := 0, locals := 23 }
theorem hdV_X10_feed : yX10_feed.cls = RX10 ∧ yX10_feed.cls ≠ "java/lang/invoke/MethodHandle" ∧ yX10_feed.cls ≠ "java/lang/invoke/VarHandle" ∧ (parseMethodDescriptor yX10_feed.desc).map (fun d => d.parameters.length) = some 1 := by decide +kernel
set_option maxHeartbeats 4000000 in
set_option maxRecDepth 100000 in
theorem c_X10_feed (l : Launch) (G : GT) (a_this a_tape a_tape_bytes a_reader a_table a_way a_images a_sheets a_flaws a_sixthOf a_drawing a_naming : Nat) (g_lastFault : Int32) (g_lastTear : Int32) (g_tape_length : Int32) (g_tape_bytes : (Nat → Int32)) (x1 : Int64) {u : Int32 × Int32 × (Nat → Int32)} (hu : X10_feed x1 g_tape_length g_tape_bytes = some u) : Ctr l G yX10_feed wsX10_feed rmX10_feed [.ref a_this, .long x1] [(a_this, .inr (10, [.ref a_tape, .ref a_reader, .ref a_table, .ref a_way, .ref a_images, .ref a_sheets, .ref a_flaws, .ref a_sixthOf, .ref a_drawing, .ref a_naming, .int g_lastFault, .int g_lastTear])), (a_tape, .inr (9, [.int g_tape_length, .ref a_tape_bytes])), (a_tape_bytes, .inl (G.2.1 0, 320, .inl g_tape_bytes))] (some (.int u.1)) [(a_this, .inr (10, [.ref a_tape, .ref a_reader, .ref a_table, .ref a_way, .ref a_images, .ref a_sheets, .ref a_flaws, .ref a_sixthOf, .ref a_drawing, .ref a_naming, .int g_lastFault, .int g_lastTear])), (a_tape, .inr (9, [.int u.2.1, .ref a_tape_bytes])), (a_tape_bytes, .inl (G.2.1 0, 320, .inl u.2.2))] := by
  obtain ⟨enc, henc⟩ : ∃ enc : (Int32 × Int32 × (Nat → Int32)) → Option Value × va_W, enc = fun u => (((some (.int u.1)) : Option Value), ([(a_this, .inr (10, [.ref a_tape, .ref a_reader, .ref a_table, .ref a_way, .ref a_images, .ref a_sheets, .ref a_flaws, .ref a_sixthOf, .ref a_drawing, .ref a_naming, .int g_lastFault, .int g_lastTear])), (a_tape, .inr (9, [.int u.2.1, .ref a_tape_bytes])), (a_tape_bytes, .inl (G.2.1 0, 320, .inl u.2.2))] : va_W)) := ⟨_, rfl⟩
  refine ctr_of (cc := cX10_feed) (own := RX10) (E := Option.map enc) (o := X10_feed x1 g_tape_length g_tape_bytes) (by decide) rfl rfl (L := [(0, .ref a_this), (1, .long x1)]) rfl (Nat.le_of_ble_eq_true rfl) (by rw [hu, henc]; rfl) ?_
  intro Z hX hl hG hr
  subst hl; subst hG
  have fl10 : (Cond.fieldLink RX10 10 "OnlyFar" "tape" "LOnlyFar$Tape;").before (za Z) (zs Z) = true := hX.wd (List.mem_of_getElem? (i := 1) rfl)
  have fl94 : (Cond.fieldLink RX10 94 "OnlyFar$Tape" "length" "I").before (za Z) (zs Z) = true := hX.wd (List.mem_of_getElem? (i := 2) rfl)
  have inX10 : ∀ w ∈ u_ws RX10 TX10 12, w ∈ wsX10_feed := fun _ h => List.mem_cons_of_mem _ (List.mem_append_left _ ((List.mem_append_right _ h)))
  have inX9 : ∀ w ∈ u_ws RX9 TX9 2, w ∈ wsX10_feed := fun _ h => List.mem_cons_of_mem _ ((List.mem_append_right _ h))
  unfold X10_feed
  refine rn_aload_n hX dX10_feed_0 0 rfl 1 rfl ?_
  refine rn_get hX inX10 0 rfl rfl 0 (by decide) fl10 rfl rfl dX10_feed_1 4 rfl ?_
  refine rn_lload_n hX dX10_feed_4 1 rfl 5 rfl ?_
  refine rn_bind (fun u1 hu1 => ?_)
  refine rn_callV hX gX10_feed_X9_add rfl hdV_X9_add rfl rfl ⟨Nat.le_of_ble_eq_true rfl, Nat.le_of_ble_eq_true rfl⟩ (c_X9_add (zl Z) (zG Z) a_tape a_tape_bytes g_tape_length g_tape_bytes x1 hu1) rfl [1, 2] rfl rfl rfl (ci := 9) rfl rfl rfl (Nat.le_of_ble_eq_true rfl) dX10_feed_5 8 rfl (wn := [(a_this, .inr (10, [.ref a_tape, .ref a_reader, .ref a_table, .ref a_way, .ref a_images, .ref a_sheets, .ref a_flaws, .ref a_sixthOf, .ref a_drawing, .ref a_naming, .int g_lastFault, .int g_lastTear])), (a_tape, .inr (9, [.int u1.2.1, .ref a_tape_bytes])), (a_tape_bytes, .inl ((zG Z).2.1 0, 320, .inl u1.2.2))]) rfl (S' := [.int u1.1]) rfl ⟨Nat.zero_le _, Nat.zero_le _⟩ ?_
  refine rn_if_eq hX dX10_feed_8 21 (by decide) 11 rfl ?_ ?_
  · refine rn_bipush hX dX10_feed_21 23 rfl bp_m3 ?_
    exact rn_iret hX hr (by rw [henc]; rfl) dX10_feed_23
  refine rn_aload_n hX dX10_feed_11 0 rfl 12 rfl ?_
  refine rn_get hX inX10 0 rfl rfl 0 (by decide) fl10 rfl rfl dX10_feed_12 15 rfl ?_
  refine rn_get hX inX9 1 rfl rfl 0 (by decide) fl94 rfl rfl dX10_feed_15 18 rfl ?_
  refine rn_goto hX dX10_feed_18 23 (by decide) ?_
  exact rn_iret hX hr (by rw [henc]; rfl) dX10_feed_23
abbrev rmX10_end : Room := { frames := 0, cells := 0, slots := 0, locals := 0 }
theorem hdV_X10_end : yX10_end.cls = RX10 ∧ yX10_end.cls ≠ "java/lang/invoke/MethodHandle" ∧ yX10_end.cls ≠ "java/lang/invoke/VarHandle" ∧ (parseMethodDescriptor yX10_end.desc).map (fun d => d.parameters.length) = some 1 := by decide +kernel
set_option maxHeartbeats 4000000 in
set_option maxRecDepth 100000 in
theorem c_X10_end (l : Launch) (G : GT) (a_this a_tape a_reader a_table a_way a_images a_sheets a_flaws a_sixthOf a_drawing a_naming a_tape_bytes : Nat) (g_lastFault : Int32) (g_lastTear : Int32) (g_tape_length : Int32) (x1 : Int32) {u : Int32 × Int32} (hu : X10_end x1 g_tape_length = u) : Ctr l G yX10_end wsX10_end rmX10_end [.ref a_this, .int x1] [(a_this, .inr (10, [.ref a_tape, .ref a_reader, .ref a_table, .ref a_way, .ref a_images, .ref a_sheets, .ref a_flaws, .ref a_sixthOf, .ref a_drawing, .ref a_naming, .int g_lastFault, .int g_lastTear])), (a_tape, .inr (9, [.int g_tape_length, .ref a_tape_bytes]))] (some (.int u.1)) [(a_this, .inr (10, [.ref a_tape, .ref a_reader, .ref a_table, .ref a_way, .ref a_images, .ref a_sheets, .ref a_flaws, .ref a_sixthOf, .ref a_drawing, .ref a_naming, .int g_lastFault, .int g_lastTear])), (a_tape, .inr (9, [.int u.2, .ref a_tape_bytes]))] := by
  obtain ⟨enc, henc⟩ : ∃ enc : (Int32 × Int32) → Option Value × va_W, enc = fun u => (((some (.int u.1)) : Option Value), ([(a_this, .inr (10, [.ref a_tape, .ref a_reader, .ref a_table, .ref a_way, .ref a_images, .ref a_sheets, .ref a_flaws, .ref a_sixthOf, .ref a_drawing, .ref a_naming, .int g_lastFault, .int g_lastTear])), (a_tape, .inr (9, [.int u.2, .ref a_tape_bytes]))] : va_W)) := ⟨_, rfl⟩
  refine ctr_of (cc := cX10_end) (own := RX10) (E := fun o => some (enc o)) (o := X10_end x1 g_tape_length) (by decide) rfl rfl (L := [(0, .ref a_this), (1, .int x1)]) rfl (Nat.le_of_ble_eq_true rfl) (by rw [hu, henc]) ?_
  intro Z hX hl hG hr
  subst hl; subst hG
  have fl10 : (Cond.fieldLink RX10 10 "OnlyFar" "tape" "LOnlyFar$Tape;").before (za Z) (zs Z) = true := hX.wd (List.mem_of_getElem? (i := 1) rfl)
  have fl94 : (Cond.fieldLink RX10 94 "OnlyFar$Tape" "length" "I").before (za Z) (zs Z) = true := hX.wd (List.mem_of_getElem? (i := 2) rfl)
  have inX10 : ∀ w ∈ u_ws RX10 TX10 12, w ∈ wsX10_end := fun _ h => List.mem_cons_of_mem _ (List.mem_append_left _ ((List.mem_append_right _ h)))
  have inX9 : ∀ w ∈ u_ws RX9 TX9 2, w ∈ wsX10_end := fun _ h => List.mem_cons_of_mem _ ((List.mem_append_right _ h))
  unfold X10_end
  refine rn_iload_n hX dX10_end_0 1 rfl 1 rfl ?_
  refine rn_if_lt hX dX10_end_1 15 (by decide) 4 rfl ?_ ?_
  · refine rn_iconst hX dX10_end_15 16 rfl ic_m1 ?_
    exact rn_iret hX hr (by rw [henc]) dX10_end_16
  refine rn_iload_n hX dX10_end_4 1 rfl 5 rfl ?_
  refine rn_aload_n hX dX10_end_5 0 rfl 6 rfl ?_
  refine rn_get hX inX10 0 rfl rfl 0 (by decide) fl10 rfl rfl dX10_end_6 9 rfl ?_
  refine rn_get hX inX9 1 rfl rfl 0 (by decide) fl94 rfl rfl dX10_end_9 12 rfl ?_
  refine rn_icmp_le hX dX10_end_12 17 (by decide) 15 rfl ?_ ?_
  · refine rn_aload_n hX dX10_end_17 0 rfl 18 rfl ?_
    refine rn_get hX inX10 0 rfl rfl 0 (by decide) fl10 rfl rfl dX10_end_18 21 rfl ?_
    refine rn_get hX inX9 1 rfl rfl 0 (by decide) fl94 rfl rfl dX10_end_21 24 rfl ?_
    refine rn_istore_n hX dX10_end_24 2 rfl (by decide) (L' := [(2, .int g_tape_length), (0, .ref a_this), (1, .int x1)]) rfl 25 rfl ?_
    refine rn_aload_n hX dX10_end_25 1 rfl 26 rfl ?_
    refine rn_get hX inX10 0 rfl rfl 0 (by decide) fl10 rfl rfl dX10_end_26 29 rfl ?_
    refine rn_iload_n hX dX10_end_29 2 rfl 30 rfl ?_
    refine rn_put hX inX9 tyX9_ok nmX9 1 rfl rfl 0 (by decide) fl94 rfl rfl rfl rfl (Nat.le_of_ble_eq_true rfl) dX10_end_30 33 rfl (w1 := [(a_this, .inr (10, [.ref a_tape, .ref a_reader, .ref a_table, .ref a_way, .ref a_images, .ref a_sheets, .ref a_flaws, .ref a_sixthOf, .ref a_drawing, .ref a_naming, .int g_lastFault, .int g_lastTear])), (a_tape, .inr (9, [.int x1, .ref a_tape_bytes]))]) rfl ?_
    refine rn_iload_n hX dX10_end_33 0 rfl 34 rfl ?_
    exact rn_iret hX hr (by rw [henc]) dX10_end_34
  refine rn_iconst hX dX10_end_15 16 rfl ic_m1 ?_
  exact rn_iret hX hr (by rw [henc]) dX10_end_16
abbrev rmX10_fault : Room := { frames := 0, cells := 0, slots := 0, locals := 0 }
theorem hdV_X10_fault : yX10_fault.cls = RX10 ∧ yX10_fault.cls ≠ "java/lang/invoke/MethodHandle" ∧ yX10_fault.cls ≠ "java/lang/invoke/VarHandle" ∧ (parseMethodDescriptor yX10_fault.desc).map (fun d => d.parameters.length) = some 0 := by decide +kernel
set_option maxHeartbeats 4000000 in
set_option maxRecDepth 100000 in
theorem c_X10_fault (l : Launch) (G : GT) (a_this a_tape a_reader a_table a_way a_images a_sheets a_flaws a_sixthOf a_drawing a_naming : Nat) (g_lastFault : Int32) (g_lastTear : Int32) {u : Int32} (hu : X10_fault g_lastFault = u) : Ctr l G yX10_fault wsX10_fault rmX10_fault [.ref a_this] [(a_this, .inr (10, [.ref a_tape, .ref a_reader, .ref a_table, .ref a_way, .ref a_images, .ref a_sheets, .ref a_flaws, .ref a_sixthOf, .ref a_drawing, .ref a_naming, .int g_lastFault, .int g_lastTear]))] (some (.int u)) [(a_this, .inr (10, [.ref a_tape, .ref a_reader, .ref a_table, .ref a_way, .ref a_images, .ref a_sheets, .ref a_flaws, .ref a_sixthOf, .ref a_drawing, .ref a_naming, .int g_lastFault, .int g_lastTear]))] := by
  obtain ⟨enc, henc⟩ : ∃ enc : (Int32) → Option Value × va_W, enc = fun u => (((some (.int u)) : Option Value), ([(a_this, .inr (10, [.ref a_tape, .ref a_reader, .ref a_table, .ref a_way, .ref a_images, .ref a_sheets, .ref a_flaws, .ref a_sixthOf, .ref a_drawing, .ref a_naming, .int g_lastFault, .int g_lastTear]))] : va_W)) := ⟨_, rfl⟩
  refine ctr_of (cc := cX10_fault) (own := RX10) (E := fun o => some (enc o)) (o := X10_fault g_lastFault) (by decide) rfl rfl (L := [(0, .ref a_this)]) rfl (Nat.le_of_ble_eq_true rfl) (by rw [hu, henc]) ?_
  intro Z hX hl hG hr
  subst hl; subst hG
  have fl83 : (Cond.fieldLink RX10 83 "OnlyFar" "lastFault" "I").before (za Z) (zs Z) = true := hX.wd (List.mem_of_getElem? (i := 1) rfl)
  have inX10 : ∀ w ∈ u_ws RX10 TX10 12, w ∈ wsX10_fault := fun _ h => List.mem_cons_of_mem _ ((List.mem_append_right _ h))
  unfold X10_fault
  refine rn_aload_n hX dX10_fault_0 0 rfl 1 rfl ?_
  refine rn_get hX inX10 0 rfl rfl 10 (by decide) fl83 rfl rfl dX10_fault_1 4 rfl ?_
  exact rn_iret hX hr (by rw [henc]) dX10_fault_4
abbrev rmX10_far : Room := { frames := 2, cells := 0, slots := 0, locals := 45 }
theorem hdV_X10_far : yX10_far.cls = RX10 ∧ yX10_far.cls ≠ "java/lang/invoke/MethodHandle" ∧ yX10_far.cls ≠ "java/lang/invoke/VarHandle" ∧ (parseMethodDescriptor yX10_far.desc).map (fun d => d.parameters.length) = some 2 := by decide +kernel
set_option maxHeartbeats 4000000 in
set_option maxRecDepth 100000 in
theorem c_X10_far (l : Launch) (G : GT) (a_this a_table a_table_squares a_tape a_reader a_way a_images a_sheets a_flaws a_sixthOf a_drawing a_naming : Nat) (g_lastFault : Int32) (g_lastTear : Int32) (g_table_places : Int32) (g_table_squares : (Nat → Int32)) (x1 : Int32) (x2 : Int32) {u : Int32} (hu : X10_far x1 x2 g_table_places g_table_squares = some u) : Ctr l G yX10_far wsX10_far rmX10_far [.ref a_this, .int x1, .int x2] [(a_this, .inr (10, [.ref a_tape, .ref a_reader, .ref a_table, .ref a_way, .ref a_images, .ref a_sheets, .ref a_flaws, .ref a_sixthOf, .ref a_drawing, .ref a_naming, .int g_lastFault, .int g_lastTear])), (a_table, .inr (8, [.int g_table_places, .ref a_table_squares])), (a_table_squares, .inl (G.2.1 1, 49, .inl g_table_squares))] (some (.int u)) [(a_this, .inr (10, [.ref a_tape, .ref a_reader, .ref a_table, .ref a_way, .ref a_images, .ref a_sheets, .ref a_flaws, .ref a_sixthOf, .ref a_drawing, .ref a_naming, .int g_lastFault, .int g_lastTear])), (a_table, .inr (8, [.int g_table_places, .ref a_table_squares])), (a_table_squares, .inl (G.2.1 1, 49, .inl g_table_squares))] := by
  obtain ⟨enc, henc⟩ : ∃ enc : (Int32) → Option Value × va_W, enc = fun u => (((some (.int u)) : Option Value), ([(a_this, .inr (10, [.ref a_tape, .ref a_reader, .ref a_table, .ref a_way, .ref a_images, .ref a_sheets, .ref a_flaws, .ref a_sixthOf, .ref a_drawing, .ref a_naming, .int g_lastFault, .int g_lastTear])), (a_table, .inr (8, [.int g_table_places, .ref a_table_squares])), (a_table_squares, .inl (G.2.1 1, 49, .inl g_table_squares))] : va_W)) := ⟨_, rfl⟩
  refine ctr_of (cc := cX10_far) (own := RX10) (E := Option.map enc) (o := X10_far x1 x2 g_table_places g_table_squares) (by decide) rfl rfl (L := [(0, .ref a_this), (1, .int x1), (2, .int x2)]) rfl (Nat.le_of_ble_eq_true rfl) (by rw [hu, henc]; rfl) ?_
  intro Z hX hl hG hr
  subst hl; subst hG
  have fl28 : (Cond.fieldLink RX10 28 "OnlyFar" "table" "LOnlyFar$Table;").before (za Z) (zs Z) = true := hX.wd (List.mem_of_getElem? (i := 1) rfl)
  have inX10 : ∀ w ∈ u_ws RX10 TX10 12, w ∈ wsX10_far := fun _ h => List.mem_cons_of_mem _ (List.mem_append_left _ ((List.mem_append_right _ h)))
  unfold X10_far
  refine rn_aload_n hX dX10_far_0 0 rfl 1 rfl ?_
  refine rn_get hX inX10 0 rfl rfl 2 (by decide) fl28 rfl rfl dX10_far_1 4 rfl ?_
  refine rn_iload_n hX dX10_far_4 1 rfl 5 rfl ?_
  refine rn_iload_n hX dX10_far_5 2 rfl 6 rfl ?_
  refine rn_callV0 hX gX10_far_X8_areTwo rfl hdV_X8_areTwo rfl rfl ⟨Nat.le_of_ble_eq_true rfl, Nat.le_of_ble_eq_true rfl⟩ (c_X8_areTwo (zl Z) (zG Z) a_table a_table_squares g_table_places x1 x2 rfl) rfl [1] rfl rfl (ci := 8) rfl rfl rfl (Nat.le_of_ble_eq_true rfl) dX10_far_6 9 rfl (S' := [.int (X8_areTwo x1 x2 g_table_places)]) rfl ⟨Nat.zero_le _, Nat.zero_le _⟩ ?_
  refine rn_if_eq hX dX10_far_9 24 (by decide) 12 rfl ?_ ?_
  · refine rn_iconst hX dX10_far_24 25 rfl ic_m1 ?_
    exact rn_iret hX hr (by rw [henc]; rfl) dX10_far_25
  refine rn_aload_n hX dX10_far_12 0 rfl 13 rfl ?_
  refine rn_get hX inX10 0 rfl rfl 2 (by decide) fl28 rfl rfl dX10_far_13 16 rfl ?_
  refine rn_iload_n hX dX10_far_16 1 rfl 17 rfl ?_
  refine rn_iload_n hX dX10_far_17 2 rfl 18 rfl ?_
  refine rn_bind (fun u1 hu1 => ?_)
  refine rn_callV0 hX gX10_far_X8_toldOrNone rfl hdV_X8_toldOrNone rfl rfl ⟨Nat.le_of_ble_eq_true rfl, Nat.le_of_ble_eq_true rfl⟩ (c_X8_toldOrNone (zl Z) (zG Z) a_table a_table_squares g_table_places g_table_squares x1 x2 hu1) rfl [1, 2] rfl rfl (ci := 8) rfl rfl rfl (Nat.le_of_ble_eq_true rfl) dX10_far_18 21 rfl (S' := [.int u1]) rfl ⟨Nat.zero_le _, Nat.zero_le _⟩ ?_
  refine rn_goto hX dX10_far_21 25 (by decide) ?_
  exact rn_iret hX hr (by rw [henc]; rfl) dX10_far_25
abbrev rmX10_isSquare : Room := { frames := 0, cells := 0, slots := 0, locals := 0 }
theorem hdS_X10_isSquare : yX10_isSquare.cls ≠ "java/lang/invoke/MethodHandle" ∧ yX10_isSquare.cls ≠ "java/lang/invoke/VarHandle" ∧ (parseMethodDescriptor yX10_isSquare.desc).map (fun d => d.parameters.length) = some 1 := by decide +kernel
set_option maxHeartbeats 4000000 in
set_option maxRecDepth 100000 in
theorem c_X10_isSquare (l : Launch) (G : GT) (x0 : Int32) {u : Int32} (hu : X10_isSquare x0 = u) : Ctr l G yX10_isSquare wsX10_isSquare rmX10_isSquare [.int x0] [] (some (.int u)) [] := by
  obtain ⟨enc, henc⟩ : ∃ enc : (Int32) → Option Value × va_W, enc = fun u => (((some (.int u)) : Option Value), ([] : va_W)) := ⟨_, rfl⟩
  refine ctr_of (cc := cX10_isSquare) (own := RX10) (E := fun o => some (enc o)) (o := X10_isSquare x0) (by decide) rfl rfl (L := [(0, .int x0)]) rfl (Nat.le_of_ble_eq_true rfl) (by rw [hu, henc]) ?_
  intro Z hX hl hG hr
  subst hl; subst hG
  unfold X10_isSquare
  refine rn_iload_n hX dX10_isSquare_0 0 rfl 1 rfl ?_
  refine rn_iconst hX dX10_isSquare_1 2 rfl ic_1 ?_
  refine rn_icmp_lt hX dX10_isSquare_2 16 (by decide) 5 rfl ?_ ?_
  · refine rn_iconst hX dX10_isSquare_16 17 rfl ic_0 ?_
    exact rn_zret hX rfl hr (by rw [henc]) dX10_isSquare_17
  refine rn_iload_n hX dX10_isSquare_5 0 rfl 6 rfl ?_
  refine rn_sipush hX dX10_isSquare_6 9 rfl sp_9999 ?_
  refine rn_icmp_gt hX dX10_isSquare_9 16 (by decide) 12 rfl ?_ ?_
  · refine rn_iconst hX dX10_isSquare_16 17 rfl ic_0 ?_
    exact rn_zret hX rfl hr (by rw [henc]) dX10_isSquare_17
  refine rn_iconst hX dX10_isSquare_12 13 rfl ic_1 ?_
  refine rn_goto hX dX10_isSquare_13 17 (by decide) ?_
  exact rn_zret hX rfl hr (by rw [henc]) dX10_isSquare_17
abbrev rmX10_tell : Room := { frames := 2, cells := 0, slots := 0, locals := 45 }
theorem hdV_X10_tell : yX10_tell.cls = RX10 ∧ yX10_tell.cls ≠ "java/lang/invoke/MethodHandle" ∧ yX10_tell.cls ≠ "java/lang/invoke/VarHandle" ∧ (parseMethodDescriptor yX10_tell.desc).map (fun d => d.parameters.length) = some 3 := by decide +kernel
set_option maxHeartbeats 4000000 in
set_option maxRecDepth 100000 in
theorem c_X10_tell (l : Launch) (G : GT) (a_this a_table a_table_squares a_tape a_reader a_way a_images a_sheets a_flaws a_sixthOf a_drawing a_naming : Nat) (g_lastFault : Int32) (g_lastTear : Int32) (g_table_places : Int32) (g_table_squares : (Nat → Int32)) (x1 : Int32) (x2 : Int32) (x3 : Int32) {u : Int32 × (Nat → Int32)} (hu : X10_tell x1 x2 x3 g_table_places g_table_squares = some u) : Ctr l G yX10_tell wsX10_tell rmX10_tell [.ref a_this, .int x1, .int x2, .int x3] [(a_this, .inr (10, [.ref a_tape, .ref a_reader, .ref a_table, .ref a_way, .ref a_images, .ref a_sheets, .ref a_flaws, .ref a_sixthOf, .ref a_drawing, .ref a_naming, .int g_lastFault, .int g_lastTear])), (a_table, .inr (8, [.int g_table_places, .ref a_table_squares])), (a_table_squares, .inl (G.2.1 1, 49, .inl g_table_squares))] (some (.int u.1)) [(a_this, .inr (10, [.ref a_tape, .ref a_reader, .ref a_table, .ref a_way, .ref a_images, .ref a_sheets, .ref a_flaws, .ref a_sixthOf, .ref a_drawing, .ref a_naming, .int g_lastFault, .int g_lastTear])), (a_table, .inr (8, [.int g_table_places, .ref a_table_squares])), (a_table_squares, .inl (G.2.1 1, 49, .inl u.2))] := by
  obtain ⟨enc, henc⟩ : ∃ enc : (Int32 × (Nat → Int32)) → Option Value × va_W, enc = fun u => (((some (.int u.1)) : Option Value), ([(a_this, .inr (10, [.ref a_tape, .ref a_reader, .ref a_table, .ref a_way, .ref a_images, .ref a_sheets, .ref a_flaws, .ref a_sixthOf, .ref a_drawing, .ref a_naming, .int g_lastFault, .int g_lastTear])), (a_table, .inr (8, [.int g_table_places, .ref a_table_squares])), (a_table_squares, .inl (G.2.1 1, 49, .inl u.2))] : va_W)) := ⟨_, rfl⟩
  refine ctr_of (cc := cX10_tell) (own := RX10) (E := Option.map enc) (o := X10_tell x1 x2 x3 g_table_places g_table_squares) (by decide) rfl rfl (L := [(0, .ref a_this), (1, .int x1), (2, .int x2), (3, .int x3)]) rfl (Nat.le_of_ble_eq_true rfl) (by rw [hu, henc]; rfl) ?_
  intro Z hX hl hG hr
  subst hl; subst hG
  have fl28 : (Cond.fieldLink RX10 28 "OnlyFar" "table" "LOnlyFar$Table;").before (za Z) (zs Z) = true := hX.wd (List.mem_of_getElem? (i := 1) rfl)
  have inX10 : ∀ w ∈ u_ws RX10 TX10 12, w ∈ wsX10_tell := fun _ h => List.mem_cons_of_mem _ (List.mem_append_left _ ((List.mem_append_right _ h)))
  have hJ55 : ∀ (x4 : Int32) (s1 : Int32) (s2 : Int32) (s3 : Int32) (g_table_squares : (Nat → Int32)), Rn Z 5 (Option.map enc) 0 0 55 [(4, .int x4)] [.int s3, .int s2, .int s1, .ref a_table] [(a_this, .inr (10, [.ref a_tape, .ref a_reader, .ref a_table, .ref a_way, .ref a_images, .ref a_sheets, .ref a_flaws, .ref a_sixthOf, .ref a_drawing, .ref a_naming, .int g_lastFault, .int g_lastTear])), (a_table, .inr (8, [.int g_table_places, .ref a_table_squares])), (a_table_squares, .inl ((zG Z).2.1 1, 49, .inl g_table_squares))] (X10_tell_J55 x4 s1 s2 s3 g_table_squares) := by
    intro x4 s1 s2 s3 g_table_squares
    unfold X10_tell_J55
    refine rn_bind (fun u1 hu1 => ?_)
    refine rn_callV hX gX10_tell_X8_put rfl hdV_X8_put rfl rfl ⟨Nat.le_of_ble_eq_true rfl, Nat.le_of_ble_eq_true rfl⟩ (c_X8_put (zl Z) (zG Z) a_table a_table_squares g_table_places g_table_squares s1 s2 s3 hu1) rfl [1, 2] rfl rfl rfl (ci := 8) rfl rfl rfl (Nat.le_of_ble_eq_true rfl) dX10_tell_55 58 rfl (wn := [(a_this, .inr (10, [.ref a_tape, .ref a_reader, .ref a_table, .ref a_way, .ref a_images, .ref a_sheets, .ref a_flaws, .ref a_sixthOf, .ref a_drawing, .ref a_naming, .int g_lastFault, .int g_lastTear])), (a_table, .inr (8, [.int g_table_places, .ref a_table_squares])), (a_table_squares, .inl ((zG Z).2.1 1, 49, .inl u1))]) rfl (S' := []) rfl ⟨Nat.zero_le _, Nat.zero_le _⟩ ?_
    refine rn_iload hX dX10_tell_58 0 rfl 60 rfl ?_
    exact rn_iret hX hr (by rw [henc]; rfl) dX10_tell_60
  have hJ27 : ∀ (x1 : Int32) (x2 : Int32) (x3 : Int32) (g_table_squares : (Nat → Int32)), Rn Z 5 (Option.map enc) 0 0 27 [(0, .ref a_this), (1, .int x1), (2, .int x2), (3, .int x3)] [] [(a_this, .inr (10, [.ref a_tape, .ref a_reader, .ref a_table, .ref a_way, .ref a_images, .ref a_sheets, .ref a_flaws, .ref a_sixthOf, .ref a_drawing, .ref a_naming, .int g_lastFault, .int g_lastTear])), (a_table, .inr (8, [.int g_table_places, .ref a_table_squares])), (a_table_squares, .inl ((zG Z).2.1 1, 49, .inl g_table_squares))] (X10_tell_J27 x1 x2 x3 g_table_squares) := by
    intro x1 x2 x3 g_table_squares
    unfold X10_tell_J27
    refine rn_aload_n hX dX10_tell_27 0 rfl 28 rfl ?_
    refine rn_get hX inX10 0 rfl rfl 2 (by decide) fl28 rfl rfl dX10_tell_28 31 rfl ?_
    refine rn_iload_n hX dX10_tell_31 1 rfl 32 rfl ?_
    refine rn_iload_n hX dX10_tell_32 2 rfl 33 rfl ?_
    refine rn_bind (fun u2 hu2 => ?_)
    refine rn_callV0 hX gX10_tell_X8_toldOrNone rfl hdV_X8_toldOrNone rfl rfl ⟨Nat.le_of_ble_eq_true rfl, Nat.le_of_ble_eq_true rfl⟩ (c_X8_toldOrNone (zl Z) (zG Z) a_table a_table_squares g_table_places g_table_squares x1 x2 hu2) rfl [1, 2] rfl rfl (ci := 8) rfl rfl rfl (Nat.le_of_ble_eq_true rfl) dX10_tell_33 36 rfl (S' := [.int u2]) rfl ⟨Nat.zero_le _, Nat.zero_le _⟩ ?_
    refine rn_istore hX dX10_tell_36 (by decide) (L' := [(4, .int u2), (0, .ref a_this), (1, .int x1), (2, .int x2), (3, .int x3)]) rfl 38 rfl ?_
    refine rn_aload_n hX dX10_tell_38 1 rfl 39 rfl ?_
    refine rn_get hX inX10 0 rfl rfl 2 (by decide) fl28 rfl rfl dX10_tell_39 42 rfl ?_
    refine rn_iload_n hX dX10_tell_42 2 rfl 43 rfl ?_
    refine rn_iload_n hX dX10_tell_43 3 rfl 44 rfl ?_
    refine rn_iload_n hX dX10_tell_44 4 rfl 45 rfl ?_
    refine rn_bipush hX dX10_tell_45 47 rfl bp_m4 ?_
    refine rn_icmp_ne hX dX10_tell_47 54 (by decide) 50 rfl ?_ ?_
    · refine rn_iload_n hX dX10_tell_54 4 rfl 55 rfl ?_
      refine rn_sub [0] rfl ?_
      exact hJ55 u2 x1 x2 x3 g_table_squares
    refine rn_iconst hX dX10_tell_50 51 rfl ic_0 ?_
    refine rn_goto hX dX10_tell_51 55 (by decide) ?_
    refine rn_sub [0] rfl ?_
    exact hJ55 u2 x1 x2 (0 : Int32) g_table_squares
  unfold X10_tell
  refine rn_aload_n hX dX10_tell_0 0 rfl 1 rfl ?_
  refine rn_get hX inX10 0 rfl rfl 2 (by decide) fl28 rfl rfl dX10_tell_1 4 rfl ?_
  refine rn_iload_n hX dX10_tell_4 1 rfl 5 rfl ?_
  refine rn_iload_n hX dX10_tell_5 2 rfl 6 rfl ?_
  refine rn_callV0 hX gX10_tell_X8_areTwo rfl hdV_X8_areTwo rfl rfl ⟨Nat.le_of_ble_eq_true rfl, Nat.le_of_ble_eq_true rfl⟩ (c_X8_areTwo (zl Z) (zG Z) a_table a_table_squares g_table_places x1 x2 rfl) rfl [1] rfl rfl (ci := 8) rfl rfl rfl (Nat.le_of_ble_eq_true rfl) dX10_tell_6 9 rfl (S' := [.int (X8_areTwo x1 x2 g_table_places)]) rfl ⟨Nat.zero_le _, Nat.zero_le _⟩ ?_
  refine rn_if_eq hX dX10_tell_9 25 (by decide) 12 rfl ?_ ?_
  · refine rn_iconst hX dX10_tell_25 26 rfl ic_m1 ?_
    exact rn_iret hX hr (by rw [henc]; rfl) dX10_tell_26
  refine rn_iload_n hX dX10_tell_12 3 rfl 13 rfl ?_
  refine rn_bipush hX dX10_tell_13 15 rfl bp_m4 ?_
  refine rn_icmp_eq hX dX10_tell_15 27 (by decide) 18 rfl ?_ ?_
  · exact hJ27 x1 x2 x3 g_table_squares
  refine rn_iload_n hX dX10_tell_18 3 rfl 19 rfl ?_
  refine rn_callS0 hX gX10_tell_X10_isSquare rfl hdS_X10_isSquare rfl rfl ⟨Nat.le_of_ble_eq_true rfl, Nat.le_of_ble_eq_true rfl⟩ (c_X10_isSquare (zl Z) (zG Z) x3 rfl) rfl [] rfl rfl rfl (Nat.le_of_ble_eq_true rfl) dX10_tell_19 22 rfl (S' := [.int (X10_isSquare x3)]) rfl ⟨Nat.zero_le _, Nat.zero_le _⟩ ?_
  refine rn_if_ne hX dX10_tell_22 27 (by decide) 25 rfl ?_ ?_
  · exact hJ27 x1 x2 x3 g_table_squares
  refine rn_iconst hX dX10_tell_25 26 rfl ic_m1 ?_
  exact rn_iret hX hr (by rw [henc]; rfl) dX10_tell_26
abbrev rmX10_pair : Room := { frames := 2, cells := 0, slots := 0, locals := 43 }
theorem hdV_X10_pair : yX10_pair.cls = RX10 ∧ yX10_pair.cls ≠ "java/lang/invoke/MethodHandle" ∧ yX10_pair.cls ≠ "java/lang/invoke/VarHandle" ∧ (parseMethodDescriptor yX10_pair.desc).map (fun d => d.parameters.length) = some 2 := by decide +kernel
set_option maxHeartbeats 4000000 in
set_option maxRecDepth 100000 in
theorem c_X10_pair (l : Launch) (G : GT) (a_this a_table a_tape a_reader a_way a_images a_sheets a_flaws a_sixthOf a_drawing a_naming a_table_squares : Nat) (g_lastFault : Int32) (g_lastTear : Int32) (g_table_places : Int32) (x1 : Int32) (x2 : Int32) {u : Int32} (hu : X10_pair x1 x2 g_table_places = u) : Ctr l G yX10_pair wsX10_pair rmX10_pair [.ref a_this, .int x1, .int x2] [(a_this, .inr (10, [.ref a_tape, .ref a_reader, .ref a_table, .ref a_way, .ref a_images, .ref a_sheets, .ref a_flaws, .ref a_sixthOf, .ref a_drawing, .ref a_naming, .int g_lastFault, .int g_lastTear])), (a_table, .inr (8, [.int g_table_places, .ref a_table_squares]))] (some (.int u)) [(a_this, .inr (10, [.ref a_tape, .ref a_reader, .ref a_table, .ref a_way, .ref a_images, .ref a_sheets, .ref a_flaws, .ref a_sixthOf, .ref a_drawing, .ref a_naming, .int g_lastFault, .int g_lastTear])), (a_table, .inr (8, [.int g_table_places, .ref a_table_squares]))] := by
  obtain ⟨enc, henc⟩ : ∃ enc : (Int32) → Option Value × va_W, enc = fun u => (((some (.int u)) : Option Value), ([(a_this, .inr (10, [.ref a_tape, .ref a_reader, .ref a_table, .ref a_way, .ref a_images, .ref a_sheets, .ref a_flaws, .ref a_sixthOf, .ref a_drawing, .ref a_naming, .int g_lastFault, .int g_lastTear])), (a_table, .inr (8, [.int g_table_places, .ref a_table_squares]))] : va_W)) := ⟨_, rfl⟩
  refine ctr_of (cc := cX10_pair) (own := RX10) (E := fun o => some (enc o)) (o := X10_pair x1 x2 g_table_places) (by decide) rfl rfl (L := [(0, .ref a_this), (1, .int x1), (2, .int x2)]) rfl (Nat.le_of_ble_eq_true rfl) (by rw [hu, henc]) ?_
  intro Z hX hl hG hr
  subst hl; subst hG
  have fl28 : (Cond.fieldLink RX10 28 "OnlyFar" "table" "LOnlyFar$Table;").before (za Z) (zs Z) = true := hX.wd (List.mem_of_getElem? (i := 1) rfl)
  have inX10 : ∀ w ∈ u_ws RX10 TX10 12, w ∈ wsX10_pair := fun _ h => List.mem_cons_of_mem _ (List.mem_append_left _ ((List.mem_append_right _ h)))
  unfold X10_pair
  refine rn_aload_n hX dX10_pair_0 0 rfl 1 rfl ?_
  refine rn_get hX inX10 0 rfl rfl 2 (by decide) fl28 rfl rfl dX10_pair_1 4 rfl ?_
  refine rn_iload_n hX dX10_pair_4 1 rfl 5 rfl ?_
  refine rn_iload_n hX dX10_pair_5 2 rfl 6 rfl ?_
  refine rn_callV0 hX gX10_pair_X8_areTwo rfl hdV_X8_areTwo rfl rfl ⟨Nat.le_of_ble_eq_true rfl, Nat.le_of_ble_eq_true rfl⟩ (c_X8_areTwo (zl Z) (zG Z) a_table a_table_squares g_table_places x1 x2 rfl) rfl [1] rfl rfl (ci := 8) rfl rfl rfl (Nat.le_of_ble_eq_true rfl) dX10_pair_6 9 rfl (S' := [.int (X8_areTwo x1 x2 g_table_places)]) rfl ⟨Nat.zero_le _, Nat.zero_le _⟩ ?_
  refine rn_if_eq hX dX10_pair_9 20 (by decide) 12 rfl ?_ ?_
  · refine rn_iconst hX dX10_pair_20 21 rfl ic_m1 ?_
    exact rn_iret hX hr (by rw [henc]) dX10_pair_21
  refine rn_iload_n hX dX10_pair_12 1 rfl 13 rfl ?_
  refine rn_iload_n hX dX10_pair_13 2 rfl 14 rfl ?_
  refine rn_callS0 hX gX10_pair_X10_pairOf rfl hdS_X10_pairOf rfl rfl ⟨Nat.le_of_ble_eq_true rfl, Nat.le_of_ble_eq_true rfl⟩ (c_X10_pairOf (zl Z) (zG Z) x1 x2 rfl) rfl [] rfl rfl rfl (Nat.le_of_ble_eq_true rfl) dX10_pair_14 17 rfl (S' := [.int (X10_pairOf x1 x2)]) rfl ⟨Nat.zero_le _, Nat.zero_le _⟩ ?_
  refine rn_goto hX dX10_pair_17 21 (by decide) ?_
  exact rn_iret hX hr (by rw [henc]) dX10_pair_21
abbrev rmX10_wide : Room := { frames := 3, cells := 0, slots := 0, locals := 66 }
theorem hdV_X10_wide : yX10_wide.cls = RX10 ∧ yX10_wide.cls ≠ "java/lang/invoke/MethodHandle" ∧ yX10_wide.cls ≠ "java/lang/invoke/VarHandle" ∧ (parseMethodDescriptor yX10_wide.desc).map (fun d => d.parameters.length) = some 3 := by decide +kernel
set_option maxHeartbeats 4000000 in
set_option maxRecDepth 100000 in
theorem c_X10_wide (l : Launch) (G : GT) (a_this a_table a_table_squares a_tape a_reader a_way a_images a_sheets a_flaws a_sixthOf a_drawing a_naming : Nat) (g_lastFault : Int32) (g_lastTear : Int32) (g_table_places : Int32) (g_table_squares : (Nat → Int32)) (x1 : Int32) (x2 : Int32) (x3 : Int32) {u : Int64} (hu : X10_wide x1 x2 x3 g_table_places g_table_squares = some u) : Ctr l G yX10_wide wsX10_wide rmX10_wide [.ref a_this, .int x1, .int x2, .int x3] [(a_this, .inr (10, [.ref a_tape, .ref a_reader, .ref a_table, .ref a_way, .ref a_images, .ref a_sheets, .ref a_flaws, .ref a_sixthOf, .ref a_drawing, .ref a_naming, .int g_lastFault, .int g_lastTear])), (a_table, .inr (8, [.int g_table_places, .ref a_table_squares])), (a_table_squares, .inl (G.2.1 1, 49, .inl g_table_squares))] (some (.long u)) [(a_this, .inr (10, [.ref a_tape, .ref a_reader, .ref a_table, .ref a_way, .ref a_images, .ref a_sheets, .ref a_flaws, .ref a_sixthOf, .ref a_drawing, .ref a_naming, .int g_lastFault, .int g_lastTear])), (a_table, .inr (8, [.int g_table_places, .ref a_table_squares])), (a_table_squares, .inl (G.2.1 1, 49, .inl g_table_squares))] := by
  obtain ⟨enc, henc⟩ : ∃ enc : (Int64) → Option Value × va_W, enc = fun u => (((some (.long u)) : Option Value), ([(a_this, .inr (10, [.ref a_tape, .ref a_reader, .ref a_table, .ref a_way, .ref a_images, .ref a_sheets, .ref a_flaws, .ref a_sixthOf, .ref a_drawing, .ref a_naming, .int g_lastFault, .int g_lastTear])), (a_table, .inr (8, [.int g_table_places, .ref a_table_squares])), (a_table_squares, .inl (G.2.1 1, 49, .inl g_table_squares))] : va_W)) := ⟨_, rfl⟩
  refine ctr_of (cc := cX10_wide) (own := RX10) (E := Option.map enc) (o := X10_wide x1 x2 x3 g_table_places g_table_squares) (by decide) rfl rfl (L := [(0, .ref a_this), (1, .int x1), (2, .int x2), (3, .int x3)]) rfl (Nat.le_of_ble_eq_true rfl) (by rw [hu, henc]; rfl) ?_
  intro Z hX hl hG hr
  subst hl; subst hG
  have fl28 : (Cond.fieldLink RX10 28 "OnlyFar" "table" "LOnlyFar$Table;").before (za Z) (zs Z) = true := hX.wd (List.mem_of_getElem? (i := 1) rfl)
  have kl145 : (Cond.constantLong RX10 145 (-9000000000)).before (za Z) (zs Z) = true := hX.wd (List.mem_of_getElem? (i := 2) rfl)
  have kl154 : (Cond.constantLong RX10 154 (-9000000001)).before (za Z) (zs Z) = true := hX.wd (List.mem_of_getElem? (i := 3) rfl)
  have inX10 : ∀ w ∈ u_ws RX10 TX10 12, w ∈ wsX10_wide := fun _ h => List.mem_cons_of_mem _ (List.mem_append_left _ ((List.mem_append_right _ h)))
  unfold X10_wide
  refine rn_aload_n hX dX10_wide_0 0 rfl 1 rfl ?_
  refine rn_get hX inX10 0 rfl rfl 2 (by decide) fl28 rfl rfl dX10_wide_1 4 rfl ?_
  refine rn_iload_n hX dX10_wide_4 1 rfl 5 rfl ?_
  refine rn_iload_n hX dX10_wide_5 2 rfl 6 rfl ?_
  refine rn_iload_n hX dX10_wide_6 3 rfl 7 rfl ?_
  refine rn_callV0 hX gX10_wide_X8_areThree rfl hdV_X8_areThree rfl rfl ⟨Nat.le_of_ble_eq_true rfl, Nat.le_of_ble_eq_true rfl⟩ (c_X8_areThree (zl Z) (zG Z) a_table a_table_squares g_table_places x1 x2 x3 rfl) rfl [1] rfl rfl (ci := 8) rfl rfl rfl (Nat.le_of_ble_eq_true rfl) dX10_wide_7 10 rfl (S' := [.int (X8_areThree x1 x2 x3 g_table_places)]) rfl ⟨Nat.zero_le _, Nat.zero_le _⟩ ?_
  refine rn_if_ne hX dX10_wide_10 17 (by decide) 13 rfl ?_ ?_
  · refine rn_aload_n hX dX10_wide_17 0 rfl 18 rfl ?_
    refine rn_get hX inX10 0 rfl rfl 2 (by decide) fl28 rfl rfl dX10_wide_18 21 rfl ?_
    refine rn_iload_n hX dX10_wide_21 1 rfl 22 rfl ?_
    refine rn_iload_n hX dX10_wide_22 2 rfl 23 rfl ?_
    refine rn_iload_n hX dX10_wide_23 3 rfl 24 rfl ?_
    refine rn_bind (fun u1 hu1 => ?_)
    refine rn_callV0 hX gX10_wide_X8_isToldThree rfl hdV_X8_isToldThree rfl rfl ⟨Nat.le_of_ble_eq_true rfl, Nat.le_of_ble_eq_true rfl⟩ (c_X8_isToldThree (zl Z) (zG Z) a_table a_table_squares g_table_places g_table_squares x1 x2 x3 hu1) rfl [1, 2] rfl rfl (ci := 8) rfl rfl rfl (Nat.le_of_ble_eq_true rfl) dX10_wide_24 27 rfl (S' := [.int u1]) rfl ⟨Nat.zero_le _, Nat.zero_le _⟩ ?_
    refine rn_if_eq hX dX10_wide_27 43 (by decide) 30 rfl ?_ ?_
    · refine rn_ldc2 hX kl154 dX10_wide_43 46 rfl ?_
      exact rn_lret hX hr (by rw [henc]; rfl) dX10_wide_46
    refine rn_aload_n hX dX10_wide_30 0 rfl 31 rfl ?_
    refine rn_get hX inX10 0 rfl rfl 2 (by decide) fl28 rfl rfl dX10_wide_31 34 rfl ?_
    refine rn_iload_n hX dX10_wide_34 1 rfl 35 rfl ?_
    refine rn_iload_n hX dX10_wide_35 2 rfl 36 rfl ?_
    refine rn_iload_n hX dX10_wide_36 3 rfl 37 rfl ?_
    refine rn_bind (fun u2 hu2 => ?_)
    refine rn_callV0 hX gX10_wide_X8_wideOf rfl hdV_X8_wideOf rfl rfl ⟨Nat.le_of_ble_eq_true rfl, Nat.le_of_ble_eq_true rfl⟩ (c_X8_wideOf (zl Z) (zG Z) a_table a_table_squares g_table_places g_table_squares x1 x2 x3 hu2) rfl [1, 2] rfl rfl (ci := 8) rfl rfl rfl (Nat.le_of_ble_eq_true rfl) dX10_wide_37 40 rfl (S' := [.long u2]) rfl ⟨Nat.zero_le _, Nat.zero_le _⟩ ?_
    refine rn_goto hX dX10_wide_40 46 (by decide) ?_
    exact rn_lret hX hr (by rw [henc]; rfl) dX10_wide_46
  refine rn_ldc2 hX kl145 dX10_wide_13 16 rfl ?_
  exact rn_lret hX hr (by rw [henc]; rfl) dX10_wide_16
abbrev rmX10_three : Room := { frames := 3, cells := 0, slots := 0, locals := 73 }
theorem hdV_X10_three : yX10_three.cls = RX10 ∧ yX10_three.cls ≠ "java/lang/invoke/MethodHandle" ∧ yX10_three.cls ≠ "java/lang/invoke/VarHandle" ∧ (parseMethodDescriptor yX10_three.desc).map (fun d => d.parameters.length) = some 3 := by decide +kernel
set_option maxHeartbeats 4000000 in
set_option maxRecDepth 100000 in
theorem c_X10_three (l : Launch) (G : GT) (a_this a_table a_table_squares a_tape a_reader a_way a_images a_sheets a_flaws a_sixthOf a_drawing a_naming : Nat) (g_lastFault : Int32) (g_lastTear : Int32) (g_table_places : Int32) (g_table_squares : (Nat → Int32)) (x1 : Int32) (x2 : Int32) (x3 : Int32) {u : Int32} (hu : X10_three x1 x2 x3 g_table_places g_table_squares = some u) : Ctr l G yX10_three wsX10_three rmX10_three [.ref a_this, .int x1, .int x2, .int x3] [(a_this, .inr (10, [.ref a_tape, .ref a_reader, .ref a_table, .ref a_way, .ref a_images, .ref a_sheets, .ref a_flaws, .ref a_sixthOf, .ref a_drawing, .ref a_naming, .int g_lastFault, .int g_lastTear])), (a_table, .inr (8, [.int g_table_places, .ref a_table_squares])), (a_table_squares, .inl (G.2.1 1, 49, .inl g_table_squares))] (some (.int u)) [(a_this, .inr (10, [.ref a_tape, .ref a_reader, .ref a_table, .ref a_way, .ref a_images, .ref a_sheets, .ref a_flaws, .ref a_sixthOf, .ref a_drawing, .ref a_naming, .int g_lastFault, .int g_lastTear])), (a_table, .inr (8, [.int g_table_places, .ref a_table_squares])), (a_table_squares, .inl (G.2.1 1, 49, .inl g_table_squares))] := by
  obtain ⟨enc, henc⟩ : ∃ enc : (Int32) → Option Value × va_W, enc = fun u => (((some (.int u)) : Option Value), ([(a_this, .inr (10, [.ref a_tape, .ref a_reader, .ref a_table, .ref a_way, .ref a_images, .ref a_sheets, .ref a_flaws, .ref a_sixthOf, .ref a_drawing, .ref a_naming, .int g_lastFault, .int g_lastTear])), (a_table, .inr (8, [.int g_table_places, .ref a_table_squares])), (a_table_squares, .inl (G.2.1 1, 49, .inl g_table_squares))] : va_W)) := ⟨_, rfl⟩
  refine ctr_of (cc := cX10_three) (own := RX10) (E := Option.map enc) (o := X10_three x1 x2 x3 g_table_places g_table_squares) (by decide) rfl rfl (L := [(0, .ref a_this), (1, .int x1), (2, .int x2), (3, .int x3)]) rfl (Nat.le_of_ble_eq_true rfl) (by rw [hu, henc]; rfl) ?_
  intro Z hX hl hG hr
  subst hl; subst hG
  have fl28 : (Cond.fieldLink RX10 28 "OnlyFar" "table" "LOnlyFar$Table;").before (za Z) (zs Z) = true := hX.wd (List.mem_of_getElem? (i := 1) rfl)
  have inX10 : ∀ w ∈ u_ws RX10 TX10 12, w ∈ wsX10_three := fun _ h => List.mem_cons_of_mem _ (List.mem_append_left _ ((List.mem_append_right _ h)))
  unfold X10_three
  refine rn_aload_n hX dX10_three_0 0 rfl 1 rfl ?_
  refine rn_get hX inX10 0 rfl rfl 2 (by decide) fl28 rfl rfl dX10_three_1 4 rfl ?_
  refine rn_iload_n hX dX10_three_4 1 rfl 5 rfl ?_
  refine rn_iload_n hX dX10_three_5 2 rfl 6 rfl ?_
  refine rn_iload_n hX dX10_three_6 3 rfl 7 rfl ?_
  refine rn_callV0 hX gX10_three_X8_areThree rfl hdV_X8_areThree rfl rfl ⟨Nat.le_of_ble_eq_true rfl, Nat.le_of_ble_eq_true rfl⟩ (c_X8_areThree (zl Z) (zG Z) a_table a_table_squares g_table_places x1 x2 x3 rfl) rfl [1] rfl rfl (ci := 8) rfl rfl rfl (Nat.le_of_ble_eq_true rfl) dX10_three_7 10 rfl (S' := [.int (X8_areThree x1 x2 x3 g_table_places)]) rfl ⟨Nat.zero_le _, Nat.zero_le _⟩ ?_
  refine rn_if_ne hX dX10_three_10 15 (by decide) 13 rfl ?_ ?_
  · refine rn_aload_n hX dX10_three_15 0 rfl 16 rfl ?_
    refine rn_get hX inX10 0 rfl rfl 2 (by decide) fl28 rfl rfl dX10_three_16 19 rfl ?_
    refine rn_iload_n hX dX10_three_19 1 rfl 20 rfl ?_
    refine rn_iload_n hX dX10_three_20 2 rfl 21 rfl ?_
    refine rn_iload_n hX dX10_three_21 3 rfl 22 rfl ?_
    refine rn_bind (fun u1 hu1 => ?_)
    refine rn_callV0 hX gX10_three_X8_isToldThree rfl hdV_X8_isToldThree rfl rfl ⟨Nat.le_of_ble_eq_true rfl, Nat.le_of_ble_eq_true rfl⟩ (c_X8_isToldThree (zl Z) (zG Z) a_table a_table_squares g_table_places g_table_squares x1 x2 x3 hu1) rfl [1, 2] rfl rfl (ci := 8) rfl rfl rfl (Nat.le_of_ble_eq_true rfl) dX10_three_22 25 rfl (S' := [.int u1]) rfl ⟨Nat.zero_le _, Nat.zero_le _⟩ ?_
    refine rn_if_ne hX dX10_three_25 31 (by decide) 28 rfl ?_ ?_
    · refine rn_aload_n hX dX10_three_31 0 rfl 32 rfl ?_
      refine rn_get hX inX10 0 rfl rfl 2 (by decide) fl28 rfl rfl dX10_three_32 35 rfl ?_
      refine rn_iload_n hX dX10_three_35 1 rfl 36 rfl ?_
      refine rn_iload_n hX dX10_three_36 2 rfl 37 rfl ?_
      refine rn_iload_n hX dX10_three_37 3 rfl 38 rfl ?_
      refine rn_bind (fun u2 hu2 => ?_)
      refine rn_callV0 hX gX10_three_X8_canBeThree rfl hdV_X8_canBeThree rfl rfl ⟨Nat.le_of_ble_eq_true rfl, Nat.le_of_ble_eq_true rfl⟩ (c_X8_canBeThree (zl Z) (zG Z) a_table a_table_squares g_table_places g_table_squares x1 x2 x3 hu2) rfl [1, 2] rfl rfl (ci := 8) rfl rfl rfl (Nat.le_of_ble_eq_true rfl) dX10_three_38 41 rfl (S' := [.int u2]) rfl ⟨Nat.zero_le _, Nat.zero_le _⟩ ?_
      refine rn_callS0 hX gX10_three_X10_bit rfl hdS_X10_bit rfl rfl ⟨Nat.le_of_ble_eq_true rfl, Nat.le_of_ble_eq_true rfl⟩ (c_X10_bit (zl Z) (zG Z) u2 rfl) rfl [] rfl rfl rfl (Nat.le_of_ble_eq_true rfl) dX10_three_41 44 rfl (S' := [.int (X10_bit u2)]) rfl ⟨Nat.zero_le _, Nat.zero_le _⟩ ?_
      exact rn_iret hX hr (by rw [henc]; rfl) dX10_three_44
    refine rn_bipush hX dX10_three_28 30 rfl bp_m4 ?_
    exact rn_iret hX hr (by rw [henc]; rfl) dX10_three_30
  refine rn_iconst hX dX10_three_13 14 rfl ic_m1 ?_
  exact rn_iret hX hr (by rw [henc]; rfl) dX10_three_14
abbrev rmX10_four : Room := { frames := 4, cells := 0, slots := 0, locals := 105 }
theorem hdV_X10_four : yX10_four.cls = RX10 ∧ yX10_four.cls ≠ "java/lang/invoke/MethodHandle" ∧ yX10_four.cls ≠ "java/lang/invoke/VarHandle" ∧ (parseMethodDescriptor yX10_four.desc).map (fun d => d.parameters.length) = some 4 := by decide +kernel
set_option maxHeartbeats 4000000 in
set_option maxRecDepth 100000 in
theorem c_X10_four (l : Launch) (G : GT) (a_this a_table a_table_squares a_tape a_reader a_way a_images a_sheets a_flaws a_sixthOf a_drawing a_naming : Nat) (g_lastFault : Int32) (g_lastTear : Int32) (g_table_places : Int32) (g_table_squares : (Nat → Int32)) (x1 : Int32) (x2 : Int32) (x3 : Int32) (x4 : Int32) {u : Int32} (hu : X10_four x1 x2 x3 x4 g_table_places g_table_squares = some u) : Ctr l G yX10_four wsX10_four rmX10_four [.ref a_this, .int x1, .int x2, .int x3, .int x4] [(a_this, .inr (10, [.ref a_tape, .ref a_reader, .ref a_table, .ref a_way, .ref a_images, .ref a_sheets, .ref a_flaws, .ref a_sixthOf, .ref a_drawing, .ref a_naming, .int g_lastFault, .int g_lastTear])), (a_table, .inr (8, [.int g_table_places, .ref a_table_squares])), (a_table_squares, .inl (G.2.1 1, 49, .inl g_table_squares))] (some (.int u)) [(a_this, .inr (10, [.ref a_tape, .ref a_reader, .ref a_table, .ref a_way, .ref a_images, .ref a_sheets, .ref a_flaws, .ref a_sixthOf, .ref a_drawing, .ref a_naming, .int g_lastFault, .int g_lastTear])), (a_table, .inr (8, [.int g_table_places, .ref a_table_squares])), (a_table_squares, .inl (G.2.1 1, 49, .inl g_table_squares))] := by
  obtain ⟨enc, henc⟩ : ∃ enc : (Int32) → Option Value × va_W, enc = fun u => (((some (.int u)) : Option Value), ([(a_this, .inr (10, [.ref a_tape, .ref a_reader, .ref a_table, .ref a_way, .ref a_images, .ref a_sheets, .ref a_flaws, .ref a_sixthOf, .ref a_drawing, .ref a_naming, .int g_lastFault, .int g_lastTear])), (a_table, .inr (8, [.int g_table_places, .ref a_table_squares])), (a_table_squares, .inl (G.2.1 1, 49, .inl g_table_squares))] : va_W)) := ⟨_, rfl⟩
  refine ctr_of (cc := cX10_four) (own := RX10) (E := Option.map enc) (o := X10_four x1 x2 x3 x4 g_table_places g_table_squares) (by decide) rfl rfl (L := [(0, .ref a_this), (1, .int x1), (2, .int x2), (3, .int x3), (4, .int x4)]) rfl (Nat.le_of_ble_eq_true rfl) (by rw [hu, henc]; rfl) ?_
  intro Z hX hl hG hr
  subst hl; subst hG
  have fl28 : (Cond.fieldLink RX10 28 "OnlyFar" "table" "LOnlyFar$Table;").before (za Z) (zs Z) = true := hX.wd (List.mem_of_getElem? (i := 1) rfl)
  have inX10 : ∀ w ∈ u_ws RX10 TX10 12, w ∈ wsX10_four := fun _ h => List.mem_cons_of_mem _ (List.mem_append_left _ ((List.mem_append_right _ h)))
  unfold X10_four
  refine rn_aload_n hX dX10_four_0 0 rfl 1 rfl ?_
  refine rn_get hX inX10 0 rfl rfl 2 (by decide) fl28 rfl rfl dX10_four_1 4 rfl ?_
  refine rn_iload_n hX dX10_four_4 1 rfl 5 rfl ?_
  refine rn_iload_n hX dX10_four_5 2 rfl 6 rfl ?_
  refine rn_iload_n hX dX10_four_6 3 rfl 7 rfl ?_
  refine rn_iload hX dX10_four_7 4 rfl 9 rfl ?_
  refine rn_callV0 hX gX10_four_X8_areFour rfl hdV_X8_areFour rfl rfl ⟨Nat.le_of_ble_eq_true rfl, Nat.le_of_ble_eq_true rfl⟩ (c_X8_areFour (zl Z) (zG Z) a_table a_table_squares g_table_places x1 x2 x3 x4 rfl) rfl [1] rfl rfl (ci := 8) rfl rfl rfl (Nat.le_of_ble_eq_true rfl) dX10_four_9 12 rfl (S' := [.int (X8_areFour x1 x2 x3 x4 g_table_places)]) rfl ⟨Nat.zero_le _, Nat.zero_le _⟩ ?_
  refine rn_if_ne hX dX10_four_12 17 (by decide) 15 rfl ?_ ?_
  · refine rn_aload_n hX dX10_four_17 0 rfl 18 rfl ?_
    refine rn_get hX inX10 0 rfl rfl 2 (by decide) fl28 rfl rfl dX10_four_18 21 rfl ?_
    refine rn_iload_n hX dX10_four_21 1 rfl 22 rfl ?_
    refine rn_iload_n hX dX10_four_22 2 rfl 23 rfl ?_
    refine rn_iload_n hX dX10_four_23 3 rfl 24 rfl ?_
    refine rn_iload hX dX10_four_24 4 rfl 26 rfl ?_
    refine rn_bind (fun u1 hu1 => ?_)
    refine rn_callV0 hX gX10_four_X8_isToldFour rfl hdV_X8_isToldFour rfl rfl ⟨Nat.le_of_ble_eq_true rfl, Nat.le_of_ble_eq_true rfl⟩ (c_X8_isToldFour (zl Z) (zG Z) a_table a_table_squares g_table_places g_table_squares x1 x2 x3 x4 hu1) rfl [1, 2] rfl rfl (ci := 8) rfl rfl rfl (Nat.le_of_ble_eq_true rfl) dX10_four_26 29 rfl (S' := [.int u1]) rfl ⟨Nat.zero_le _, Nat.zero_le _⟩ ?_
    refine rn_if_ne hX dX10_four_29 35 (by decide) 32 rfl ?_ ?_
    · refine rn_aload_n hX dX10_four_35 0 rfl 36 rfl ?_
      refine rn_get hX inX10 0 rfl rfl 2 (by decide) fl28 rfl rfl dX10_four_36 39 rfl ?_
      refine rn_iload_n hX dX10_four_39 1 rfl 40 rfl ?_
      refine rn_iload_n hX dX10_four_40 2 rfl 41 rfl ?_
      refine rn_iload_n hX dX10_four_41 3 rfl 42 rfl ?_
      refine rn_iload hX dX10_four_42 4 rfl 44 rfl ?_
      refine rn_bind (fun u2 hu2 => ?_)
      refine rn_callV0 hX gX10_four_X8_canBeFour rfl hdV_X8_canBeFour rfl rfl ⟨Nat.le_of_ble_eq_true rfl, Nat.le_of_ble_eq_true rfl⟩ (c_X8_canBeFour (zl Z) (zG Z) a_table a_table_squares g_table_places g_table_squares x1 x2 x3 x4 hu2) rfl [1, 2] rfl rfl (ci := 8) rfl rfl rfl (Nat.le_of_ble_eq_true rfl) dX10_four_44 47 rfl (S' := [.int u2]) rfl ⟨Nat.zero_le _, Nat.zero_le _⟩ ?_
      refine rn_callS0 hX gX10_four_X10_bit rfl hdS_X10_bit rfl rfl ⟨Nat.le_of_ble_eq_true rfl, Nat.le_of_ble_eq_true rfl⟩ (c_X10_bit (zl Z) (zG Z) u2 rfl) rfl [] rfl rfl rfl (Nat.le_of_ble_eq_true rfl) dX10_four_47 50 rfl (S' := [.int (X10_bit u2)]) rfl ⟨Nat.zero_le _, Nat.zero_le _⟩ ?_
      exact rn_iret hX hr (by rw [henc]; rfl) dX10_four_50
    refine rn_bipush hX dX10_four_32 34 rfl bp_m4 ?_
    exact rn_iret hX hr (by rw [henc]; rfl) dX10_four_34
  refine rn_iconst hX dX10_four_15 16 rfl ic_m1 ?_
  exact rn_iret hX hr (by rw [henc]; rfl) dX10_four_16
abbrev rmX10_wrong : Room := { frames := 6, cells := 0, slots := 0, locals := 156 }
theorem hdV_X10_wrong : yX10_wrong.cls = RX10 ∧ yX10_wrong.cls ≠ "java/lang/invoke/MethodHandle" ∧ yX10_wrong.cls ≠ "java/lang/invoke/VarHandle" ∧ (parseMethodDescriptor yX10_wrong.desc).map (fun d => d.parameters.length) = some 1 := by decide +kernel
set_option maxHeartbeats 4000000 in
set_option maxRecDepth 100000 in
theorem c_X10_wrong (l : Launch) (G : GT) (a_this a_flaws a_flaws_flaws a_table a_table_squares a_tape a_reader a_way a_images a_sheets a_sixthOf a_drawing a_naming : Nat) (g_lastFault : Int32) (g_lastTear : Int32) (g_flaws_badThrees : Int32) (g_flaws_badFours : Int32) (g_flaws_flatThrees : Int32) (g_flaws_toldThrees : Int32) (g_flaws_size : Int32) (g_flaws_fewest : Int32) (g_flaws_flaws : (Nat → Int32)) (g_table_places : Int32) (g_table_squares : (Nat → Int32)) (x1 : Int32) {u : Int32 × Int32 × Int32 × Int32 × Int32 × Int32 × (Nat → Int32)} (hu : X10_wrong x1 g_flaws_badFours g_flaws_badThrees g_flaws_flatThrees g_flaws_size g_flaws_toldThrees g_flaws_flaws g_table_places g_table_squares = some u) : Ctr l G yX10_wrong wsX10_wrong rmX10_wrong [.ref a_this, .int x1] [(a_this, .inr (10, [.ref a_tape, .ref a_reader, .ref a_table, .ref a_way, .ref a_images, .ref a_sheets, .ref a_flaws, .ref a_sixthOf, .ref a_drawing, .ref a_naming, .int g_lastFault, .int g_lastTear])), (a_flaws, .inr (1, [.int g_flaws_badThrees, .int g_flaws_badFours, .int g_flaws_flatThrees, .int g_flaws_toldThrees, .ref a_flaws_flaws, .int g_flaws_size, .int g_flaws_fewest])), (a_flaws_flaws, .inl (G.2.1 1, 70, .inl g_flaws_flaws)), (a_table, .inr (8, [.int g_table_places, .ref a_table_squares])), (a_table_squares, .inl (G.2.1 1, 49, .inl g_table_squares))] (some (.int u.1)) [(a_this, .inr (10, [.ref a_tape, .ref a_reader, .ref a_table, .ref a_way, .ref a_images, .ref a_sheets, .ref a_flaws, .ref a_sixthOf, .ref a_drawing, .ref a_naming, .int g_lastFault, .int g_lastTear])), (a_flaws, .inr (1, [.int u.2.2.1, .int u.2.1, .int u.2.2.2.1, .int u.2.2.2.2.2.1, .ref a_flaws_flaws, .int u.2.2.2.2.1, .int g_flaws_fewest])), (a_flaws_flaws, .inl (G.2.1 1, 70, .inl u.2.2.2.2.2.2)), (a_table, .inr (8, [.int g_table_places, .ref a_table_squares])), (a_table_squares, .inl (G.2.1 1, 49, .inl g_table_squares))] := by
  obtain ⟨enc, henc⟩ : ∃ enc : (Int32 × Int32 × Int32 × Int32 × Int32 × Int32 × (Nat → Int32)) → Option Value × va_W, enc = fun u => (((some (.int u.1)) : Option Value), ([(a_this, .inr (10, [.ref a_tape, .ref a_reader, .ref a_table, .ref a_way, .ref a_images, .ref a_sheets, .ref a_flaws, .ref a_sixthOf, .ref a_drawing, .ref a_naming, .int g_lastFault, .int g_lastTear])), (a_flaws, .inr (1, [.int u.2.2.1, .int u.2.1, .int u.2.2.2.1, .int u.2.2.2.2.2.1, .ref a_flaws_flaws, .int u.2.2.2.2.1, .int g_flaws_fewest])), (a_flaws_flaws, .inl (G.2.1 1, 70, .inl u.2.2.2.2.2.2)), (a_table, .inr (8, [.int g_table_places, .ref a_table_squares])), (a_table_squares, .inl (G.2.1 1, 49, .inl g_table_squares))] : va_W)) := ⟨_, rfl⟩
  refine ctr_of (cc := cX10_wrong) (own := RX10) (E := Option.map enc) (o := X10_wrong x1 g_flaws_badFours g_flaws_badThrees g_flaws_flatThrees g_flaws_size g_flaws_toldThrees g_flaws_flaws g_table_places g_table_squares) (by decide) rfl rfl (L := [(0, .ref a_this), (1, .int x1)]) rfl (Nat.le_of_ble_eq_true rfl) (by rw [hu, henc]; rfl) ?_
  intro Z hX hl hG hr
  subst hl; subst hG
  have fl176 : (Cond.fieldLink RX10 176 "OnlyFar$Flaws" "badThrees" "I").before (za Z) (zs Z) = true := hX.wd (List.mem_of_getElem? (i := 3) rfl)
  have fl179 : (Cond.fieldLink RX10 179 "OnlyFar$Flaws" "badFours" "I").before (za Z) (zs Z) = true := hX.wd (List.mem_of_getElem? (i := 4) rfl)
  have fl182 : (Cond.fieldLink RX10 182 "OnlyFar$Flaws" "flatThrees" "I").before (za Z) (zs Z) = true := hX.wd (List.mem_of_getElem? (i := 5) rfl)
  have fl185 : (Cond.fieldLink RX10 185 "OnlyFar$Flaws" "toldThrees" "I").before (za Z) (zs Z) = true := hX.wd (List.mem_of_getElem? (i := 6) rfl)
  have fl28 : (Cond.fieldLink RX10 28 "OnlyFar" "table" "LOnlyFar$Table;").before (za Z) (zs Z) = true := hX.wd (List.mem_of_getElem? (i := 2) rfl)
  have fl56 : (Cond.fieldLink RX10 56 "OnlyFar" "flaws" "LOnlyFar$Flaws;").before (za Z) (zs Z) = true := hX.wd (List.mem_of_getElem? (i := 1) rfl)
  have inX1 : ∀ w ∈ u_ws RX1 TX1 7, w ∈ wsX10_wrong := fun _ h => List.mem_cons_of_mem _ (List.mem_append_left _ ((List.mem_append_right _ h)))
  have inX10 : ∀ w ∈ u_ws RX10 TX10 12, w ∈ wsX10_wrong := fun _ h => List.mem_cons_of_mem _ (List.mem_append_left _ (List.mem_append_left _ ((List.mem_append_right _ h))))
  unfold X10_wrong
  refine rn_iload_n hX dX10_wrong_0 1 rfl 1 rfl ?_
  refine rn_if_lt hX dX10_wrong_1 9 (by decide) 4 rfl ?_ ?_
  · refine rn_iconst hX dX10_wrong_9 10 rfl ic_m1 ?_
    exact rn_iret hX hr (by rw [henc]; rfl) dX10_wrong_10
  refine rn_iload_n hX dX10_wrong_4 1 rfl 5 rfl ?_
  refine rn_iconst hX dX10_wrong_5 6 rfl ic_3 ?_
  refine rn_icmp_le hX dX10_wrong_6 11 (by decide) 9 rfl ?_ ?_
  · refine rn_aload_n hX dX10_wrong_11 0 rfl 12 rfl ?_
    refine rn_get hX inX10 0 rfl rfl 6 (by decide) fl56 rfl rfl dX10_wrong_12 15 rfl ?_
    refine rn_aload_n hX dX10_wrong_15 0 rfl 16 rfl ?_
    refine rn_get hX inX10 0 rfl rfl 2 (by decide) fl28 rfl rfl dX10_wrong_16 19 rfl ?_
    refine rn_bind (fun u1 hu1 => ?_)
    refine rn_callV hX gX10_wrong_X1_lookAt rfl hdV_X1_lookAt rfl rfl ⟨Nat.le_of_ble_eq_true rfl, Nat.le_of_ble_eq_true rfl⟩ (c_X1_lookAt (zl Z) (zG Z) a_flaws a_flaws_flaws a_table a_table_squares g_flaws_badThrees g_flaws_badFours g_flaws_flatThrees g_flaws_toldThrees g_flaws_size g_flaws_fewest g_flaws_flaws g_table_places g_table_squares hu1) rfl [1, 2, 3, 4] rfl rfl rfl (ci := 1) rfl rfl rfl (Nat.le_of_ble_eq_true rfl) dX10_wrong_19 22 rfl (wn := [(a_this, .inr (10, [.ref a_tape, .ref a_reader, .ref a_table, .ref a_way, .ref a_images, .ref a_sheets, .ref a_flaws, .ref a_sixthOf, .ref a_drawing, .ref a_naming, .int g_lastFault, .int g_lastTear])), (a_flaws, .inr (1, [.int u1.2.1, .int u1.1, .int u1.2.2.1, .int u1.2.2.2.2.1, .ref a_flaws_flaws, .int u1.2.2.2.1, .int g_flaws_fewest])), (a_flaws_flaws, .inl ((zG Z).2.1 1, 70, .inl u1.2.2.2.2.2)), (a_table, .inr (8, [.int g_table_places, .ref a_table_squares])), (a_table_squares, .inl ((zG Z).2.1 1, 49, .inl g_table_squares))]) rfl (S' := []) rfl ⟨Nat.zero_le _, Nat.zero_le _⟩ ?_
    refine rn_iload_n hX dX10_wrong_22 1 rfl 23 rfl ?_
    by_cases hs2 : x1 = (0 : Int32)
    · rw [if_pos hs2]
      refine rn_tableIn hX dX10_wrong_23 hs2 (by decide) (by decide) rfl 48 (by decide) ?_
      refine rn_aload_n hX dX10_wrong_48 0 rfl 49 rfl ?_
      refine rn_get hX inX10 0 rfl rfl 6 (by decide) fl56 rfl rfl dX10_wrong_49 52 rfl ?_
      refine rn_get hX inX1 1 rfl rfl 0 (by decide) fl176 rfl rfl dX10_wrong_52 55 rfl ?_
      exact rn_iret hX hr (by rw [henc]; rfl) dX10_wrong_55
    rw [if_neg hs2]
    by_cases hs3 : x1 = (1 : Int32)
    · rw [if_pos hs3]
      refine rn_tableIn hX dX10_wrong_23 hs3 (by decide) (by decide) rfl 56 (by decide) ?_
      refine rn_aload_n hX dX10_wrong_56 0 rfl 57 rfl ?_
      refine rn_get hX inX10 0 rfl rfl 6 (by decide) fl56 rfl rfl dX10_wrong_57 60 rfl ?_
      refine rn_get hX inX1 1 rfl rfl 1 (by decide) fl179 rfl rfl dX10_wrong_60 63 rfl ?_
      exact rn_iret hX hr (by rw [henc]; rfl) dX10_wrong_63
    rw [if_neg hs3]
    by_cases hs4 : x1 = (2 : Int32)
    · rw [if_pos hs4]
      refine rn_tableIn hX dX10_wrong_23 hs4 (by decide) (by decide) rfl 64 (by decide) ?_
      refine rn_aload_n hX dX10_wrong_64 0 rfl 65 rfl ?_
      refine rn_get hX inX10 0 rfl rfl 6 (by decide) fl56 rfl rfl dX10_wrong_65 68 rfl ?_
      refine rn_get hX inX1 1 rfl rfl 2 (by decide) fl182 rfl rfl dX10_wrong_68 71 rfl ?_
      exact rn_iret hX hr (by rw [henc]; rfl) dX10_wrong_71
    rw [if_neg hs4]
    refine rn_tableOut hX dX10_wrong_23 (by have qhs2 := ne_int hs2; rw [show (0 : Int32).toInt = 0 from by decide] at qhs2; have qhs3 := ne_int hs3; rw [show (1 : Int32).toInt = 1 from by decide] at qhs3; have qhs4 := ne_int hs4; rw [show (2 : Int32).toInt = 2 from by decide] at qhs4; have := qhs2; omega) 72 (by decide) ?_
    refine rn_aload_n hX dX10_wrong_72 0 rfl 73 rfl ?_
    refine rn_get hX inX10 0 rfl rfl 6 (by decide) fl56 rfl rfl dX10_wrong_73 76 rfl ?_
    refine rn_get hX inX1 1 rfl rfl 3 (by decide) fl185 rfl rfl dX10_wrong_76 79 rfl ?_
    exact rn_iret hX hr (by rw [henc]; rfl) dX10_wrong_79
  refine rn_iconst hX dX10_wrong_9 10 rfl ic_m1 ?_
  exact rn_iret hX hr (by rw [henc]; rfl) dX10_wrong_10
abbrev rmX10_falses : Room := { frames := 8, cells := 0, slots := 0, locals := 182 }
theorem hdV_X10_falses : yX10_falses.cls = RX10 ∧ yX10_falses.cls ≠ "java/lang/invoke/MethodHandle" ∧ yX10_falses.cls ≠ "java/lang/invoke/VarHandle" ∧ (parseMethodDescriptor yX10_falses.desc).map (fun d => d.parameters.length) = some 1 := by decide +kernel
set_option maxHeartbeats 4000000 in
set_option maxRecDepth 100000 in
theorem c_X10_falses (l : Launch) (G : GT) (a_this a_flaws a_flaws_flaws a_table a_table_squares a_tape a_reader a_way a_images a_sheets a_sixthOf a_drawing a_naming : Nat) (g_lastFault : Int32) (g_lastTear : Int32) (g_flaws_badThrees : Int32) (g_flaws_badFours : Int32) (g_flaws_flatThrees : Int32) (g_flaws_toldThrees : Int32) (g_flaws_size : Int32) (g_flaws_fewest : Int32) (g_flaws_flaws : (Nat → Int32)) (g_table_places : Int32) (g_table_squares : (Nat → Int32)) (x1 : Int32) {u : Int32 × Int32 × Int32 × Int32 × Int32 × Int32 × Int32 × (Nat → Int32)} (hu : X10_falses x1 g_flaws_badFours g_flaws_badThrees g_flaws_fewest g_flaws_flatThrees g_flaws_size g_flaws_toldThrees g_flaws_flaws g_table_places g_table_squares = some u) : Ctr l G yX10_falses wsX10_falses rmX10_falses [.ref a_this, .int x1] [(a_this, .inr (10, [.ref a_tape, .ref a_reader, .ref a_table, .ref a_way, .ref a_images, .ref a_sheets, .ref a_flaws, .ref a_sixthOf, .ref a_drawing, .ref a_naming, .int g_lastFault, .int g_lastTear])), (a_flaws, .inr (1, [.int g_flaws_badThrees, .int g_flaws_badFours, .int g_flaws_flatThrees, .int g_flaws_toldThrees, .ref a_flaws_flaws, .int g_flaws_size, .int g_flaws_fewest])), (a_flaws_flaws, .inl (G.2.1 1, 70, .inl g_flaws_flaws)), (a_table, .inr (8, [.int g_table_places, .ref a_table_squares])), (a_table_squares, .inl (G.2.1 1, 49, .inl g_table_squares))] (some (.int u.1)) [(a_this, .inr (10, [.ref a_tape, .ref a_reader, .ref a_table, .ref a_way, .ref a_images, .ref a_sheets, .ref a_flaws, .ref a_sixthOf, .ref a_drawing, .ref a_naming, .int g_lastFault, .int g_lastTear])), (a_flaws, .inr (1, [.int u.2.2.1, .int u.2.1, .int u.2.2.2.2.1, .int u.2.2.2.2.2.2.1, .ref a_flaws_flaws, .int u.2.2.2.2.2.1, .int u.2.2.2.1])), (a_flaws_flaws, .inl (G.2.1 1, 70, .inl u.2.2.2.2.2.2.2)), (a_table, .inr (8, [.int g_table_places, .ref a_table_squares])), (a_table_squares, .inl (G.2.1 1, 49, .inl g_table_squares))] := by
  obtain ⟨enc, henc⟩ : ∃ enc : (Int32 × Int32 × Int32 × Int32 × Int32 × Int32 × Int32 × (Nat → Int32)) → Option Value × va_W, enc = fun u => (((some (.int u.1)) : Option Value), ([(a_this, .inr (10, [.ref a_tape, .ref a_reader, .ref a_table, .ref a_way, .ref a_images, .ref a_sheets, .ref a_flaws, .ref a_sixthOf, .ref a_drawing, .ref a_naming, .int g_lastFault, .int g_lastTear])), (a_flaws, .inr (1, [.int u.2.2.1, .int u.2.1, .int u.2.2.2.2.1, .int u.2.2.2.2.2.2.1, .ref a_flaws_flaws, .int u.2.2.2.2.2.1, .int u.2.2.2.1])), (a_flaws_flaws, .inl (G.2.1 1, 70, .inl u.2.2.2.2.2.2.2)), (a_table, .inr (8, [.int g_table_places, .ref a_table_squares])), (a_table_squares, .inl (G.2.1 1, 49, .inl g_table_squares))] : va_W)) := ⟨_, rfl⟩
  refine ctr_of (cc := cX10_falses) (own := RX10) (E := Option.map enc) (o := X10_falses x1 g_flaws_badFours g_flaws_badThrees g_flaws_fewest g_flaws_flatThrees g_flaws_size g_flaws_toldThrees g_flaws_flaws g_table_places g_table_squares) (by decide) rfl rfl (L := [(0, .ref a_this), (1, .int x1)]) rfl (Nat.le_of_ble_eq_true rfl) (by rw [hu, henc]; rfl) ?_
  intro Z hX hl hG hr
  subst hl; subst hG
  have fl28 : (Cond.fieldLink RX10 28 "OnlyFar" "table" "LOnlyFar$Table;").before (za Z) (zs Z) = true := hX.wd (List.mem_of_getElem? (i := 2) rfl)
  have fl56 : (Cond.fieldLink RX10 56 "OnlyFar" "flaws" "LOnlyFar$Flaws;").before (za Z) (zs Z) = true := hX.wd (List.mem_of_getElem? (i := 1) rfl)
  have inX10 : ∀ w ∈ u_ws RX10 TX10 12, w ∈ wsX10_falses := fun _ h => List.mem_cons_of_mem _ (List.mem_append_left _ (List.mem_append_left _ ((List.mem_append_right _ h))))
  unfold X10_falses
  refine rn_iload_n hX dX10_falses_0 1 rfl 1 rfl ?_
  refine rn_if_lt hX dX10_falses_1 9 (by decide) 4 rfl ?_ ?_
  · refine rn_iconst hX dX10_falses_9 10 rfl ic_m1 ?_
    exact rn_iret hX hr (by rw [henc]; rfl) dX10_falses_10
  refine rn_iload_n hX dX10_falses_4 1 rfl 5 rfl ?_
  refine rn_iconst hX dX10_falses_5 6 rfl ic_1 ?_
  refine rn_icmp_le hX dX10_falses_6 11 (by decide) 9 rfl ?_ ?_
  · refine rn_aload_n hX dX10_falses_11 0 rfl 12 rfl ?_
    refine rn_get hX inX10 0 rfl rfl 6 (by decide) fl56 rfl rfl dX10_falses_12 15 rfl ?_
    refine rn_aload_n hX dX10_falses_15 0 rfl 16 rfl ?_
    refine rn_get hX inX10 0 rfl rfl 2 (by decide) fl28 rfl rfl dX10_falses_16 19 rfl ?_
    refine rn_bind (fun u1 hu1 => ?_)
    refine rn_callV hX gX10_falses_X1_lookAt rfl hdV_X1_lookAt rfl rfl ⟨Nat.le_of_ble_eq_true rfl, Nat.le_of_ble_eq_true rfl⟩ (c_X1_lookAt (zl Z) (zG Z) a_flaws a_flaws_flaws a_table a_table_squares g_flaws_badThrees g_flaws_badFours g_flaws_flatThrees g_flaws_toldThrees g_flaws_size g_flaws_fewest g_flaws_flaws g_table_places g_table_squares hu1) rfl [1, 2, 3, 4] rfl rfl rfl (ci := 1) rfl rfl rfl (Nat.le_of_ble_eq_true rfl) dX10_falses_19 22 rfl (wn := [(a_this, .inr (10, [.ref a_tape, .ref a_reader, .ref a_table, .ref a_way, .ref a_images, .ref a_sheets, .ref a_flaws, .ref a_sixthOf, .ref a_drawing, .ref a_naming, .int g_lastFault, .int g_lastTear])), (a_flaws, .inr (1, [.int u1.2.1, .int u1.1, .int u1.2.2.1, .int u1.2.2.2.2.1, .ref a_flaws_flaws, .int u1.2.2.2.1, .int g_flaws_fewest])), (a_flaws_flaws, .inl ((zG Z).2.1 1, 70, .inl u1.2.2.2.2.2)), (a_table, .inr (8, [.int g_table_places, .ref a_table_squares])), (a_table_squares, .inl ((zG Z).2.1 1, 49, .inl g_table_squares))]) rfl (S' := []) rfl ⟨Nat.zero_le _, Nat.zero_le _⟩ ?_
    refine rn_aload_n hX dX10_falses_22 0 rfl 23 rfl ?_
    refine rn_get hX inX10 0 rfl rfl 6 (by decide) fl56 rfl rfl dX10_falses_23 26 rfl ?_
    refine rn_bind (fun u2 hu2 => ?_)
    refine rn_callV hX gX10_falses_X1_fewestFalse rfl hdV_X1_fewestFalse rfl rfl ⟨Nat.le_of_ble_eq_true rfl, Nat.le_of_ble_eq_true rfl⟩ (c_X1_fewestFalse (zl Z) (zG Z) a_flaws a_flaws_flaws u1.2.1 u1.1 u1.2.2.1 u1.2.2.2.2.1 u1.2.2.2.1 g_flaws_fewest u1.2.2.2.2.2 hu2) rfl [1, 2] rfl rfl rfl (ci := 1) rfl rfl rfl (Nat.le_of_ble_eq_true rfl) dX10_falses_26 29 rfl (wn := [(a_this, .inr (10, [.ref a_tape, .ref a_reader, .ref a_table, .ref a_way, .ref a_images, .ref a_sheets, .ref a_flaws, .ref a_sixthOf, .ref a_drawing, .ref a_naming, .int g_lastFault, .int g_lastTear])), (a_flaws, .inr (1, [.int u1.2.1, .int u1.1, .int u1.2.2.1, .int u1.2.2.2.2.1, .ref a_flaws_flaws, .int u1.2.2.2.1, .int u2.2])), (a_flaws_flaws, .inl ((zG Z).2.1 1, 70, .inl u1.2.2.2.2.2)), (a_table, .inr (8, [.int g_table_places, .ref a_table_squares])), (a_table_squares, .inl ((zG Z).2.1 1, 49, .inl g_table_squares))]) rfl (S' := [.int u2.1]) rfl ⟨Nat.zero_le _, Nat.zero_le _⟩ ?_
    refine rn_istore_n hX dX10_falses_29 2 rfl (by decide) (L' := [(2, .int u2.1), (0, .ref a_this), (1, .int x1)]) rfl 30 rfl ?_
    refine rn_iload_n hX dX10_falses_30 0 rfl 31 rfl ?_
    refine rn_iconst hX dX10_falses_31 32 rfl ic_m1 ?_
    refine rn_icmp_ne hX dX10_falses_32 38 (by decide) 35 rfl ?_ ?_
    · refine rn_iload_n hX dX10_falses_38 2 rfl 39 rfl ?_
      refine rn_if_ne hX dX10_falses_39 49 (by decide) 42 rfl ?_ ?_
      · refine rn_iload_n hX dX10_falses_49 0 rfl 50 rfl ?_
        exact rn_iret hX hr (by rw [henc]; rfl) dX10_falses_50
      refine rn_iload_n hX dX10_falses_42 0 rfl 43 rfl ?_
      refine rn_callS0 hX gX10_falses_J6_bitCount_0f7a4 rfl hdS_J6_bitCount_0f7a4 rfl rfl ⟨Nat.le_of_ble_eq_true rfl, Nat.le_of_ble_eq_true rfl⟩ (c_J6_bitCount_0f7a4 (zl Z) (zG Z) u2.1 rfl) rfl [] rfl rfl rfl (Nat.le_of_ble_eq_true rfl) dX10_falses_43 46 rfl (S' := [.int (J6_bitCount_0f7a4 u2.1)]) rfl ⟨Nat.zero_le _, Nat.zero_le _⟩ ?_
      refine rn_goto hX dX10_falses_46 50 (by decide) ?_
      exact rn_iret hX hr (by rw [henc]; rfl) dX10_falses_50
    refine rn_bipush hX dX10_falses_35 37 rfl bp_m4 ?_
    exact rn_iret hX hr (by rw [henc]; rfl) dX10_falses_37
  refine rn_iconst hX dX10_falses_9 10 rfl ic_m1 ?_
  exact rn_iret hX hr (by rw [henc]; rfl) dX10_falses_10
abbrev rmX10_doubt : Room := { frames := 6, cells := 0, slots := 0, locals := 156 }
theorem hdV_X10_doubt : yX10_doubt.cls = RX10 ∧ yX10_doubt.cls ≠ "java/lang/invoke/MethodHandle" ∧ yX10_doubt.cls ≠ "java/lang/invoke/VarHandle" ∧ (parseMethodDescriptor yX10_doubt.desc).map (fun d => d.parameters.length) = some 1 := by decide +kernel
set_option maxHeartbeats 4000000 in
set_option maxRecDepth 100000 in
theorem c_X10_doubt (l : Launch) (G : GT) (a_this a_flaws a_flaws_flaws a_table a_table_squares a_tape a_reader a_way a_images a_sheets a_sixthOf a_drawing a_naming : Nat) (g_lastFault : Int32) (g_lastTear : Int32) (g_flaws_badThrees : Int32) (g_flaws_badFours : Int32) (g_flaws_flatThrees : Int32) (g_flaws_toldThrees : Int32) (g_flaws_size : Int32) (g_flaws_fewest : Int32) (g_flaws_flaws : (Nat → Int32)) (g_table_places : Int32) (g_table_squares : (Nat → Int32)) (x1 : Int32) {u : Int32 × Int32 × Int32 × Int32 × Int32 × Int32 × (Nat → Int32)} (hu : X10_doubt x1 g_flaws_badFours g_flaws_badThrees g_flaws_flatThrees g_flaws_size g_flaws_toldThrees g_flaws_flaws g_table_places g_table_squares = some u) : Ctr l G yX10_doubt wsX10_doubt rmX10_doubt [.ref a_this, .int x1] [(a_this, .inr (10, [.ref a_tape, .ref a_reader, .ref a_table, .ref a_way, .ref a_images, .ref a_sheets, .ref a_flaws, .ref a_sixthOf, .ref a_drawing, .ref a_naming, .int g_lastFault, .int g_lastTear])), (a_flaws, .inr (1, [.int g_flaws_badThrees, .int g_flaws_badFours, .int g_flaws_flatThrees, .int g_flaws_toldThrees, .ref a_flaws_flaws, .int g_flaws_size, .int g_flaws_fewest])), (a_flaws_flaws, .inl (G.2.1 1, 70, .inl g_flaws_flaws)), (a_table, .inr (8, [.int g_table_places, .ref a_table_squares])), (a_table_squares, .inl (G.2.1 1, 49, .inl g_table_squares))] (some (.int u.1)) [(a_this, .inr (10, [.ref a_tape, .ref a_reader, .ref a_table, .ref a_way, .ref a_images, .ref a_sheets, .ref a_flaws, .ref a_sixthOf, .ref a_drawing, .ref a_naming, .int g_lastFault, .int g_lastTear])), (a_flaws, .inr (1, [.int u.2.2.1, .int u.2.1, .int u.2.2.2.1, .int u.2.2.2.2.2.1, .ref a_flaws_flaws, .int u.2.2.2.2.1, .int g_flaws_fewest])), (a_flaws_flaws, .inl (G.2.1 1, 70, .inl u.2.2.2.2.2.2)), (a_table, .inr (8, [.int g_table_places, .ref a_table_squares])), (a_table_squares, .inl (G.2.1 1, 49, .inl g_table_squares))] := by
  obtain ⟨enc, henc⟩ : ∃ enc : (Int32 × Int32 × Int32 × Int32 × Int32 × Int32 × (Nat → Int32)) → Option Value × va_W, enc = fun u => (((some (.int u.1)) : Option Value), ([(a_this, .inr (10, [.ref a_tape, .ref a_reader, .ref a_table, .ref a_way, .ref a_images, .ref a_sheets, .ref a_flaws, .ref a_sixthOf, .ref a_drawing, .ref a_naming, .int g_lastFault, .int g_lastTear])), (a_flaws, .inr (1, [.int u.2.2.1, .int u.2.1, .int u.2.2.2.1, .int u.2.2.2.2.2.1, .ref a_flaws_flaws, .int u.2.2.2.2.1, .int g_flaws_fewest])), (a_flaws_flaws, .inl (G.2.1 1, 70, .inl u.2.2.2.2.2.2)), (a_table, .inr (8, [.int g_table_places, .ref a_table_squares])), (a_table_squares, .inl (G.2.1 1, 49, .inl g_table_squares))] : va_W)) := ⟨_, rfl⟩
  refine ctr_of (cc := cX10_doubt) (own := RX10) (E := Option.map enc) (o := X10_doubt x1 g_flaws_badFours g_flaws_badThrees g_flaws_flatThrees g_flaws_size g_flaws_toldThrees g_flaws_flaws g_table_places g_table_squares) (by decide) rfl rfl (L := [(0, .ref a_this), (1, .int x1)]) rfl (Nat.le_of_ble_eq_true rfl) (by rw [hu, henc]; rfl) ?_
  intro Z hX hl hG hr
  subst hl; subst hG
  have fl28 : (Cond.fieldLink RX10 28 "OnlyFar" "table" "LOnlyFar$Table;").before (za Z) (zs Z) = true := hX.wd (List.mem_of_getElem? (i := 2) rfl)
  have fl56 : (Cond.fieldLink RX10 56 "OnlyFar" "flaws" "LOnlyFar$Flaws;").before (za Z) (zs Z) = true := hX.wd (List.mem_of_getElem? (i := 1) rfl)
  have inX10 : ∀ w ∈ u_ws RX10 TX10 12, w ∈ wsX10_doubt := fun _ h => List.mem_cons_of_mem _ (List.mem_append_left _ (List.mem_append_left _ ((List.mem_append_right _ h))))
  unfold X10_doubt
  refine rn_iload_n hX dX10_doubt_0 1 rfl 1 rfl ?_
  refine rn_if_lt hX dX10_doubt_1 9 (by decide) 4 rfl ?_ ?_
  · refine rn_iconst hX dX10_doubt_9 10 rfl ic_m1 ?_
    exact rn_iret hX hr (by rw [henc]; rfl) dX10_doubt_10
  refine rn_iload_n hX dX10_doubt_4 1 rfl 5 rfl ?_
  refine rn_iconst hX dX10_doubt_5 6 rfl ic_1 ?_
  refine rn_icmp_le hX dX10_doubt_6 11 (by decide) 9 rfl ?_ ?_
  · refine rn_aload_n hX dX10_doubt_11 0 rfl 12 rfl ?_
    refine rn_get hX inX10 0 rfl rfl 6 (by decide) fl56 rfl rfl dX10_doubt_12 15 rfl ?_
    refine rn_aload_n hX dX10_doubt_15 0 rfl 16 rfl ?_
    refine rn_get hX inX10 0 rfl rfl 2 (by decide) fl28 rfl rfl dX10_doubt_16 19 rfl ?_
    refine rn_bind (fun u1 hu1 => ?_)
    refine rn_callV hX gX10_doubt_X1_lookAt rfl hdV_X1_lookAt rfl rfl ⟨Nat.le_of_ble_eq_true rfl, Nat.le_of_ble_eq_true rfl⟩ (c_X1_lookAt (zl Z) (zG Z) a_flaws a_flaws_flaws a_table a_table_squares g_flaws_badThrees g_flaws_badFours g_flaws_flatThrees g_flaws_toldThrees g_flaws_size g_flaws_fewest g_flaws_flaws g_table_places g_table_squares hu1) rfl [1, 2, 3, 4] rfl rfl rfl (ci := 1) rfl rfl rfl (Nat.le_of_ble_eq_true rfl) dX10_doubt_19 22 rfl (wn := [(a_this, .inr (10, [.ref a_tape, .ref a_reader, .ref a_table, .ref a_way, .ref a_images, .ref a_sheets, .ref a_flaws, .ref a_sixthOf, .ref a_drawing, .ref a_naming, .int g_lastFault, .int g_lastTear])), (a_flaws, .inr (1, [.int u1.2.1, .int u1.1, .int u1.2.2.1, .int u1.2.2.2.2.1, .ref a_flaws_flaws, .int u1.2.2.2.1, .int g_flaws_fewest])), (a_flaws_flaws, .inl ((zG Z).2.1 1, 70, .inl u1.2.2.2.2.2)), (a_table, .inr (8, [.int g_table_places, .ref a_table_squares])), (a_table_squares, .inl ((zG Z).2.1 1, 49, .inl g_table_squares))]) rfl (S' := []) rfl ⟨Nat.zero_le _, Nat.zero_le _⟩ ?_
    refine rn_aload_n hX dX10_doubt_22 0 rfl 23 rfl ?_
    refine rn_get hX inX10 0 rfl rfl 6 (by decide) fl56 rfl rfl dX10_doubt_23 26 rfl ?_
    refine rn_bind (fun u2 hu2 => ?_)
    refine rn_callV0 hX gX10_doubt_X1_mostDoubted rfl hdV_X1_mostDoubted rfl rfl ⟨Nat.le_of_ble_eq_true rfl, Nat.le_of_ble_eq_true rfl⟩ (c_X1_mostDoubted (zl Z) (zG Z) a_flaws a_flaws_flaws u1.2.1 u1.1 u1.2.2.1 u1.2.2.2.2.1 u1.2.2.2.1 g_flaws_fewest u1.2.2.2.2.2 hu2) rfl [1, 2] rfl rfl (ci := 1) rfl rfl rfl (Nat.le_of_ble_eq_true rfl) dX10_doubt_26 29 rfl (S' := [.int u2]) rfl ⟨Nat.zero_le _, Nat.zero_le _⟩ ?_
    refine rn_istore_n hX dX10_doubt_29 2 rfl (by decide) (L' := [(2, .int u2), (0, .ref a_this), (1, .int x1)]) rfl 30 rfl ?_
    refine rn_iload_n hX dX10_doubt_30 0 rfl 31 rfl ?_
    refine rn_iconst hX dX10_doubt_31 32 rfl ic_m1 ?_
    refine rn_icmp_ne hX dX10_doubt_32 38 (by decide) 35 rfl ?_ ?_
    · refine rn_iload_n hX dX10_doubt_38 2 rfl 39 rfl ?_
      refine rn_if_ne hX dX10_doubt_39 46 (by decide) 42 rfl ?_ ?_
      · refine rn_aload_n hX dX10_doubt_46 1 rfl 47 rfl ?_
        refine rn_get hX inX10 0 rfl rfl 6 (by decide) fl56 rfl rfl dX10_doubt_47 50 rfl ?_
        refine rn_iload_n hX dX10_doubt_50 0 rfl 51 rfl ?_
        refine rn_bind (fun u3 hu3 => ?_)
        refine rn_callV0 hX gX10_doubt_X1_flawsWith rfl hdV_X1_flawsWith rfl rfl ⟨Nat.le_of_ble_eq_true rfl, Nat.le_of_ble_eq_true rfl⟩ (c_X1_flawsWith (zl Z) (zG Z) a_flaws a_flaws_flaws u1.2.1 u1.1 u1.2.2.1 u1.2.2.2.2.1 u1.2.2.2.1 g_flaws_fewest u1.2.2.2.2.2 u2 hu3) rfl [1, 2] rfl rfl (ci := 1) rfl rfl rfl (Nat.le_of_ble_eq_true rfl) dX10_doubt_51 54 rfl (S' := [.int u3]) rfl ⟨Nat.zero_le _, Nat.zero_le _⟩ ?_
        exact rn_iret hX hr (by rw [henc]; rfl) dX10_doubt_54
      refine rn_iload_n hX dX10_doubt_42 0 rfl 43 rfl ?_
      refine rn_goto hX dX10_doubt_43 54 (by decide) ?_
      exact rn_iret hX hr (by rw [henc]; rfl) dX10_doubt_54
    refine rn_bipush hX dX10_doubt_35 37 rfl bp_m4 ?_
    exact rn_iret hX hr (by rw [henc]; rfl) dX10_doubt_37
  refine rn_iconst hX dX10_doubt_9 10 rfl ic_m1 ?_
  exact rn_iret hX hr (by rw [henc]; rfl) dX10_doubt_10
abbrev rmX10_bend : Room := { frames := 3, cells := 0, slots := 0, locals := 66 }
theorem hdV_X10_bend : yX10_bend.cls = RX10 ∧ yX10_bend.cls ≠ "java/lang/invoke/MethodHandle" ∧ yX10_bend.cls ≠ "java/lang/invoke/VarHandle" ∧ (parseMethodDescriptor yX10_bend.desc).map (fun d => d.parameters.length) = some 3 := by decide +kernel
set_option maxHeartbeats 4000000 in
set_option maxRecDepth 100000 in
theorem c_X10_bend (l : Launch) (G : GT) (a_this a_table a_table_squares a_tape a_reader a_way a_images a_sheets a_flaws a_sixthOf a_drawing a_naming : Nat) (g_lastFault : Int32) (g_lastTear : Int32) (g_table_places : Int32) (g_table_squares : (Nat → Int32)) (x1 : Int32) (x2 : Int32) (x3 : Int32) {u : Int32} (hu : X10_bend x1 x2 x3 g_table_places g_table_squares = some u) : Ctr l G yX10_bend wsX10_bend rmX10_bend [.ref a_this, .int x1, .int x2, .int x3] [(a_this, .inr (10, [.ref a_tape, .ref a_reader, .ref a_table, .ref a_way, .ref a_images, .ref a_sheets, .ref a_flaws, .ref a_sixthOf, .ref a_drawing, .ref a_naming, .int g_lastFault, .int g_lastTear])), (a_table, .inr (8, [.int g_table_places, .ref a_table_squares])), (a_table_squares, .inl (G.2.1 1, 49, .inl g_table_squares))] (some (.int u)) [(a_this, .inr (10, [.ref a_tape, .ref a_reader, .ref a_table, .ref a_way, .ref a_images, .ref a_sheets, .ref a_flaws, .ref a_sixthOf, .ref a_drawing, .ref a_naming, .int g_lastFault, .int g_lastTear])), (a_table, .inr (8, [.int g_table_places, .ref a_table_squares])), (a_table_squares, .inl (G.2.1 1, 49, .inl g_table_squares))] := by
  obtain ⟨enc, henc⟩ : ∃ enc : (Int32) → Option Value × va_W, enc = fun u => (((some (.int u)) : Option Value), ([(a_this, .inr (10, [.ref a_tape, .ref a_reader, .ref a_table, .ref a_way, .ref a_images, .ref a_sheets, .ref a_flaws, .ref a_sixthOf, .ref a_drawing, .ref a_naming, .int g_lastFault, .int g_lastTear])), (a_table, .inr (8, [.int g_table_places, .ref a_table_squares])), (a_table_squares, .inl (G.2.1 1, 49, .inl g_table_squares))] : va_W)) := ⟨_, rfl⟩
  refine ctr_of (cc := cX10_bend) (own := RX10) (E := Option.map enc) (o := X10_bend x1 x2 x3 g_table_places g_table_squares) (by decide) rfl rfl (L := [(0, .ref a_this), (1, .int x1), (2, .int x2), (3, .int x3)]) rfl (Nat.le_of_ble_eq_true rfl) (by rw [hu, henc]; rfl) ?_
  intro Z hX hl hG hr
  subst hl; subst hG
  have fl28 : (Cond.fieldLink RX10 28 "OnlyFar" "table" "LOnlyFar$Table;").before (za Z) (zs Z) = true := hX.wd (List.mem_of_getElem? (i := 1) rfl)
  have inX10 : ∀ w ∈ u_ws RX10 TX10 12, w ∈ wsX10_bend := fun _ h => List.mem_cons_of_mem _ (List.mem_append_left _ ((List.mem_append_right _ h)))
  unfold X10_bend
  refine rn_aload_n hX dX10_bend_0 0 rfl 1 rfl ?_
  refine rn_get hX inX10 0 rfl rfl 2 (by decide) fl28 rfl rfl dX10_bend_1 4 rfl ?_
  refine rn_iload_n hX dX10_bend_4 1 rfl 5 rfl ?_
  refine rn_iload_n hX dX10_bend_5 2 rfl 6 rfl ?_
  refine rn_iload_n hX dX10_bend_6 3 rfl 7 rfl ?_
  refine rn_callV0 hX gX10_bend_X8_areThree rfl hdV_X8_areThree rfl rfl ⟨Nat.le_of_ble_eq_true rfl, Nat.le_of_ble_eq_true rfl⟩ (c_X8_areThree (zl Z) (zG Z) a_table a_table_squares g_table_places x1 x2 x3 rfl) rfl [1] rfl rfl (ci := 8) rfl rfl rfl (Nat.le_of_ble_eq_true rfl) dX10_bend_7 10 rfl (S' := [.int (X8_areThree x1 x2 x3 g_table_places)]) rfl ⟨Nat.zero_le _, Nat.zero_le _⟩ ?_
  refine rn_if_ne hX dX10_bend_10 15 (by decide) 13 rfl ?_ ?_
  · refine rn_aload_n hX dX10_bend_15 0 rfl 16 rfl ?_
    refine rn_get hX inX10 0 rfl rfl 2 (by decide) fl28 rfl rfl dX10_bend_16 19 rfl ?_
    refine rn_iload_n hX dX10_bend_19 1 rfl 20 rfl ?_
    refine rn_iload_n hX dX10_bend_20 2 rfl 21 rfl ?_
    refine rn_iload_n hX dX10_bend_21 3 rfl 22 rfl ?_
    refine rn_bind (fun u1 hu1 => ?_)
    refine rn_callV0 hX gX10_bend_X8_isToldThree rfl hdV_X8_isToldThree rfl rfl ⟨Nat.le_of_ble_eq_true rfl, Nat.le_of_ble_eq_true rfl⟩ (c_X8_isToldThree (zl Z) (zG Z) a_table a_table_squares g_table_places g_table_squares x1 x2 x3 hu1) rfl [1, 2] rfl rfl (ci := 8) rfl rfl rfl (Nat.le_of_ble_eq_true rfl) dX10_bend_22 25 rfl (S' := [.int u1]) rfl ⟨Nat.zero_le _, Nat.zero_le _⟩ ?_
    refine rn_if_ne hX dX10_bend_25 31 (by decide) 28 rfl ?_ ?_
    · refine rn_aload_n hX dX10_bend_31 0 rfl 32 rfl ?_
      refine rn_get hX inX10 0 rfl rfl 2 (by decide) fl28 rfl rfl dX10_bend_32 35 rfl ?_
      refine rn_iload_n hX dX10_bend_35 2 rfl 36 rfl ?_
      refine rn_iload_n hX dX10_bend_36 1 rfl 37 rfl ?_
      refine rn_iload_n hX dX10_bend_37 3 rfl 38 rfl ?_
      refine rn_bind (fun u2 hu2 => ?_)
      refine rn_callV0 hX gX10_bend_X8_leaning rfl hdV_X8_leaning rfl rfl ⟨Nat.le_of_ble_eq_true rfl, Nat.le_of_ble_eq_true rfl⟩ (c_X8_leaning (zl Z) (zG Z) a_table a_table_squares g_table_places g_table_squares x2 x1 x3 hu2) rfl [1, 2] rfl rfl (ci := 8) rfl rfl rfl (Nat.le_of_ble_eq_true rfl) dX10_bend_38 41 rfl (S' := [.long u2]) rfl ⟨Nat.zero_le _, Nat.zero_le _⟩ ?_
      refine rn_lstore hX dX10_bend_41 (by decide) (L' := [(4, .long u2), (0, .ref a_this), (1, .int x1), (2, .int x2), (3, .int x3)]) rfl 43 rfl ?_
      refine rn_lload hX dX10_bend_43 0 rfl 45 rfl ?_
      refine rn_lconst hX dX10_bend_45 46 rfl lc_0 ?_
      refine rn_lcmp_ne hX dX10_bend_46 47 rfl dX10_bend_47 52 (by decide) 50 rfl ?_ ?_
      · refine rn_lload hX dX10_bend_52 0 rfl 54 rfl ?_
        refine rn_lconst hX dX10_bend_54 55 rfl lc_0 ?_
        refine rn_lcmp_le hX dX10_bend_55 56 rfl dX10_bend_56 63 (by decide) 59 rfl ?_ ?_
        · refine rn_iconst hX dX10_bend_63 64 rfl ic_2 ?_
          exact rn_iret hX hr (by rw [henc]; rfl) dX10_bend_64
        refine rn_iconst hX dX10_bend_59 60 rfl ic_1 ?_
        refine rn_goto hX dX10_bend_60 64 (by decide) ?_
        exact rn_iret hX hr (by rw [henc]; rfl) dX10_bend_64
      refine rn_iconst hX dX10_bend_50 51 rfl ic_0 ?_
      exact rn_iret hX hr (by rw [henc]; rfl) dX10_bend_51
    refine rn_bipush hX dX10_bend_28 30 rfl bp_m4 ?_
    exact rn_iret hX hr (by rw [henc]; rfl) dX10_bend_30
  refine rn_iconst hX dX10_bend_13 14 rfl ic_m1 ?_
  exact rn_iret hX hr (by rw [henc]; rfl) dX10_bend_14
abbrev rmX10_refusalOfThree : Room := { frames := 3, cells := 0, slots := 0, locals := 73 }
theorem hdV_X10_refusalOfThree : yX10_refusalOfThree.cls = RX10 ∧ yX10_refusalOfThree.cls ≠ "java/lang/invoke/MethodHandle" ∧ yX10_refusalOfThree.cls ≠ "java/lang/invoke/VarHandle" ∧ (parseMethodDescriptor yX10_refusalOfThree.desc).map (fun d => d.parameters.length) = some 4 := by decide +kernel
set_option maxHeartbeats 4000000 in
set_option maxRecDepth 100000 in
theorem c_X10_refusalOfThree (l : Launch) (G : GT) (a_this a_table a_table_squares a_tape a_reader a_way a_images a_sheets a_flaws a_sixthOf a_drawing a_naming : Nat) (g_lastFault : Int32) (g_lastTear : Int32) (g_table_places : Int32) (g_table_squares : (Nat → Int32)) (x1 : Int32) (x2 : Int32) (x3 : Int32) (x4 : Int32) {u : Int64} (hu : X10_refusalOfThree x1 x2 x3 x4 g_table_places g_table_squares = some u) : Ctr l G yX10_refusalOfThree wsX10_refusalOfThree rmX10_refusalOfThree [.ref a_this, .int x1, .int x2, .int x3, .int x4] [(a_this, .inr (10, [.ref a_tape, .ref a_reader, .ref a_table, .ref a_way, .ref a_images, .ref a_sheets, .ref a_flaws, .ref a_sixthOf, .ref a_drawing, .ref a_naming, .int g_lastFault, .int g_lastTear])), (a_table, .inr (8, [.int g_table_places, .ref a_table_squares])), (a_table_squares, .inl (G.2.1 1, 49, .inl g_table_squares))] (some (.long u)) [(a_this, .inr (10, [.ref a_tape, .ref a_reader, .ref a_table, .ref a_way, .ref a_images, .ref a_sheets, .ref a_flaws, .ref a_sixthOf, .ref a_drawing, .ref a_naming, .int g_lastFault, .int g_lastTear])), (a_table, .inr (8, [.int g_table_places, .ref a_table_squares])), (a_table_squares, .inl (G.2.1 1, 49, .inl g_table_squares))] := by
  obtain ⟨enc, henc⟩ : ∃ enc : (Int64) → Option Value × va_W, enc = fun u => (((some (.long u)) : Option Value), ([(a_this, .inr (10, [.ref a_tape, .ref a_reader, .ref a_table, .ref a_way, .ref a_images, .ref a_sheets, .ref a_flaws, .ref a_sixthOf, .ref a_drawing, .ref a_naming, .int g_lastFault, .int g_lastTear])), (a_table, .inr (8, [.int g_table_places, .ref a_table_squares])), (a_table_squares, .inl (G.2.1 1, 49, .inl g_table_squares))] : va_W)) := ⟨_, rfl⟩
  refine ctr_of (cc := cX10_refusalOfThree) (own := RX10) (E := Option.map enc) (o := X10_refusalOfThree x1 x2 x3 x4 g_table_places g_table_squares) (by decide) rfl rfl (L := [(0, .ref a_this), (1, .int x1), (2, .int x2), (3, .int x3), (4, .int x4)]) rfl (Nat.le_of_ble_eq_true rfl) (by rw [hu, henc]; rfl) ?_
  intro Z hX hl hG hr
  subst hl; subst hG
  have fl28 : (Cond.fieldLink RX10 28 "OnlyFar" "table" "LOnlyFar$Table;").before (za Z) (zs Z) = true := hX.wd (List.mem_of_getElem? (i := 1) rfl)
  have kl145 : (Cond.constantLong RX10 145 (-9000000000)).before (za Z) (zs Z) = true := hX.wd (List.mem_of_getElem? (i := 2) rfl)
  have kl154 : (Cond.constantLong RX10 154 (-9000000001)).before (za Z) (zs Z) = true := hX.wd (List.mem_of_getElem? (i := 3) rfl)
  have inX10 : ∀ w ∈ u_ws RX10 TX10 12, w ∈ wsX10_refusalOfThree := fun _ h => List.mem_cons_of_mem _ (List.mem_append_left _ ((List.mem_append_right _ h)))
  unfold X10_refusalOfThree
  refine rn_aload_n hX dX10_refusalOfThree_0 0 rfl 1 rfl ?_
  refine rn_get hX inX10 0 rfl rfl 2 (by decide) fl28 rfl rfl dX10_refusalOfThree_1 4 rfl ?_
  refine rn_iload_n hX dX10_refusalOfThree_4 1 rfl 5 rfl ?_
  refine rn_iload_n hX dX10_refusalOfThree_5 2 rfl 6 rfl ?_
  refine rn_iload_n hX dX10_refusalOfThree_6 3 rfl 7 rfl ?_
  refine rn_callV0 hX gX10_refusalOfThree_X8_areThree rfl hdV_X8_areThree rfl rfl ⟨Nat.le_of_ble_eq_true rfl, Nat.le_of_ble_eq_true rfl⟩ (c_X8_areThree (zl Z) (zG Z) a_table a_table_squares g_table_places x1 x2 x3 rfl) rfl [1] rfl rfl (ci := 8) rfl rfl rfl (Nat.le_of_ble_eq_true rfl) dX10_refusalOfThree_7 10 rfl (S' := [.int (X8_areThree x1 x2 x3 g_table_places)]) rfl ⟨Nat.zero_le _, Nat.zero_le _⟩ ?_
  refine rn_if_eq hX dX10_refusalOfThree_10 24 (by decide) 13 rfl ?_ ?_
  · refine rn_ldc2 hX kl145 dX10_refusalOfThree_24 27 rfl ?_
    exact rn_lret hX hr (by rw [henc]; rfl) dX10_refusalOfThree_27
  refine rn_iload hX dX10_refusalOfThree_13 4 rfl 15 rfl ?_
  refine rn_if_lt hX dX10_refusalOfThree_15 24 (by decide) 18 rfl ?_ ?_
  · refine rn_ldc2 hX kl145 dX10_refusalOfThree_24 27 rfl ?_
    exact rn_lret hX hr (by rw [henc]; rfl) dX10_refusalOfThree_27
  refine rn_iload hX dX10_refusalOfThree_18 4 rfl 20 rfl ?_
  refine rn_iconst hX dX10_refusalOfThree_20 21 rfl ic_1 ?_
  refine rn_icmp_le hX dX10_refusalOfThree_21 28 (by decide) 24 rfl ?_ ?_
  · refine rn_aload_n hX dX10_refusalOfThree_28 0 rfl 29 rfl ?_
    refine rn_get hX inX10 0 rfl rfl 2 (by decide) fl28 rfl rfl dX10_refusalOfThree_29 32 rfl ?_
    refine rn_iload_n hX dX10_refusalOfThree_32 1 rfl 33 rfl ?_
    refine rn_iload_n hX dX10_refusalOfThree_33 2 rfl 34 rfl ?_
    refine rn_iload_n hX dX10_refusalOfThree_34 3 rfl 35 rfl ?_
    refine rn_bind (fun u1 hu1 => ?_)
    refine rn_callV0 hX gX10_refusalOfThree_X8_isToldThree rfl hdV_X8_isToldThree rfl rfl ⟨Nat.le_of_ble_eq_true rfl, Nat.le_of_ble_eq_true rfl⟩ (c_X8_isToldThree (zl Z) (zG Z) a_table a_table_squares g_table_places g_table_squares x1 x2 x3 hu1) rfl [1, 2] rfl rfl (ci := 8) rfl rfl rfl (Nat.le_of_ble_eq_true rfl) dX10_refusalOfThree_35 38 rfl (S' := [.int u1]) rfl ⟨Nat.zero_le _, Nat.zero_le _⟩ ?_
    refine rn_if_eq hX dX10_refusalOfThree_38 54 (by decide) 41 rfl ?_ ?_
    · refine rn_ldc2 hX kl154 dX10_refusalOfThree_54 57 rfl ?_
      exact rn_lret hX hr (by rw [henc]; rfl) dX10_refusalOfThree_57
    refine rn_aload_n hX dX10_refusalOfThree_41 0 rfl 42 rfl ?_
    refine rn_get hX inX10 0 rfl rfl 2 (by decide) fl28 rfl rfl dX10_refusalOfThree_42 45 rfl ?_
    refine rn_iload_n hX dX10_refusalOfThree_45 1 rfl 46 rfl ?_
    refine rn_iload_n hX dX10_refusalOfThree_46 2 rfl 47 rfl ?_
    refine rn_iload_n hX dX10_refusalOfThree_47 3 rfl 48 rfl ?_
    refine rn_bind (fun u2 hu2 => ?_)
    refine rn_callV0 hX gX10_refusalOfThree_X8_canBeThree rfl hdV_X8_canBeThree rfl rfl ⟨Nat.le_of_ble_eq_true rfl, Nat.le_of_ble_eq_true rfl⟩ (c_X8_canBeThree (zl Z) (zG Z) a_table a_table_squares g_table_places g_table_squares x1 x2 x3 hu2) rfl [1, 2] rfl rfl (ci := 8) rfl rfl rfl (Nat.le_of_ble_eq_true rfl) dX10_refusalOfThree_48 51 rfl (S' := [.int u2]) rfl ⟨Nat.zero_le _, Nat.zero_le _⟩ ?_
    refine rn_if_ne hX dX10_refusalOfThree_51 58 (by decide) 54 rfl ?_ ?_
    · refine rn_lconst hX dX10_refusalOfThree_58 59 rfl lc_0 ?_
      exact rn_lret hX hr (by rw [henc]; rfl) dX10_refusalOfThree_59
    refine rn_ldc2 hX kl154 dX10_refusalOfThree_54 57 rfl ?_
    exact rn_lret hX hr (by rw [henc]; rfl) dX10_refusalOfThree_57
  refine rn_ldc2 hX kl145 dX10_refusalOfThree_24 27 rfl ?_
  exact rn_lret hX hr (by rw [henc]; rfl) dX10_refusalOfThree_27
abbrev rmX10_commonDivisor : Room := { frames := 0, cells := 0, slots := 0, locals := 0 }
theorem hdS_X10_commonDivisor : yX10_commonDivisor.cls ≠ "java/lang/invoke/MethodHandle" ∧ yX10_commonDivisor.cls ≠ "java/lang/invoke/VarHandle" ∧ (parseMethodDescriptor yX10_commonDivisor.desc).map (fun d => d.parameters.length) = some 2 := by decide +kernel
set_option maxHeartbeats 4000000 in
set_option maxRecDepth 100000 in
theorem c_X10_commonDivisor (l : Launch) (G : GT) (x0 : Int64) (x2 : Int64) {u : Int64} (hu : X10_commonDivisor x0 x2 = some u) : Ctr l G yX10_commonDivisor wsX10_commonDivisor rmX10_commonDivisor [.long x0, .long x2] [] (some (.long u)) [] := by
  obtain ⟨enc, henc⟩ : ∃ enc : (Int64) → Option Value × va_W, enc = fun u => (((some (.long u)) : Option Value), ([] : va_W)) := ⟨_, rfl⟩
  refine ctr_of (cc := cX10_commonDivisor) (own := RX10) (E := Option.map enc) (o := X10_commonDivisor x0 x2) (by decide) rfl rfl (L := [(0, .long x0), (2, .long x2)]) rfl (Nat.le_of_ble_eq_true rfl) (by rw [hu, henc]; rfl) ?_
  intro Z hX hl hG hr
  subst hl; subst hG
  have hB9 : ∀ (again : Int64 → Int64 → Int32 → Option (Int64)) (hagain : ∀ (x4 : Int64) (x6 : Int64) (x8 : Int32), Rn Z 11 (Option.map enc) 0 0 9 [(4, .long x4), (6, .long x6), (8, .int x8)] [] [] (again x4 x6 x8)) (x4 : Int64) (x6 : Int64) (x8 : Int32), Rn Z 11 (Option.map enc) 0 0 9 [(4, .long x4), (6, .long x6), (8, .int x8)] [] [] (X10_commonDivisor_B9 again x4 x6 x8) := by
    intro again hagain x4 x6 x8
    unfold X10_commonDivisor_B9
    refine rn_iload hX dX10_commonDivisor_9 2 rfl 11 rfl ?_
    refine rn_sipush hX dX10_commonDivisor_11 14 rfl sp_200 ?_
    refine rn_icmp_ge hX dX10_commonDivisor_14 45 (by decide) 17 rfl ?_ ?_
    · refine rn_lload hX dX10_commonDivisor_45 0 rfl 47 rfl ?_
      exact rn_lret hX hr (by rw [henc]; rfl) dX10_commonDivisor_47
    refine rn_lload hX dX10_commonDivisor_17 1 rfl 19 rfl ?_
    refine rn_lconst hX dX10_commonDivisor_19 20 rfl lc_0 ?_
    refine rn_lcmp_eq hX dX10_commonDivisor_20 21 rfl dX10_commonDivisor_21 45 (by decide) 24 rfl ?_ ?_
    · refine rn_lload hX dX10_commonDivisor_45 0 rfl 47 rfl ?_
      exact rn_lret hX hr (by rw [henc]; rfl) dX10_commonDivisor_47
    refine rn_lload hX dX10_commonDivisor_24 0 rfl 26 rfl ?_
    refine rn_lload hX dX10_commonDivisor_26 1 rfl 28 rfl ?_
    refine rn_gdl (fun hd1 => ?_)
    refine rn_lrem hX dX10_commonDivisor_28 29 rfl hd1 ?_
    refine rn_latl (fun v2 => ?_)
    refine rn_lstore hX dX10_commonDivisor_29 (by decide) (L' := [(9, .long v2), (4, .long x4), (6, .long x6), (8, .int x8)]) rfl 31 rfl ?_
    refine rn_lload hX dX10_commonDivisor_31 2 rfl 33 rfl ?_
    refine rn_lstore hX dX10_commonDivisor_33 (by decide) (L' := [(4, .long x6), (9, .long v2), (6, .long x6), (8, .int x8)]) rfl 35 rfl ?_
    refine rn_lload hX dX10_commonDivisor_35 1 rfl 37 rfl ?_
    refine rn_lstore hX dX10_commonDivisor_37 (by decide) (L' := [(6, .long v2), (4, .long x6), (9, .long v2), (8, .int x8)]) rfl 39 rfl ?_
    refine rn_iinc hX dX10_commonDivisor_39 3 rfl ic_1 (by decide) (L' := fun v3 => [(8, .int v3), (6, .long v2), (4, .long x6), (9, .long v2)]) (fun _ => rfl) 42 rfl (fun v3 => ?_)
    refine rn_goto hX dX10_commonDivisor_42 9 (by decide) ?_
    refine rn_sub [2, 1, 0] rfl ?_
    exact hagain x6 v2 v3
  have hL9 : ∀ (n : Nat) (x4 : Int64) (x6 : Int64) (x8 : Int32), Rn Z 11 (Option.map enc) 0 0 9 [(4, .long x4), (6, .long x6), (8, .int x8)] [] [] (X10_commonDivisor_L9 n x4 x6 x8) := by
    intro n
    induction n with
    | zero => intros; exact rn_none
    | succ n ih => exact hB9 _ ih
  unfold X10_commonDivisor
  refine rn_lload_n hX dX10_commonDivisor_0 0 rfl 1 rfl ?_
  refine rn_lstore hX dX10_commonDivisor_1 (by decide) (L' := [(4, .long x0), (0, .long x0), (2, .long x2)]) rfl 3 rfl ?_
  refine rn_lload_n hX dX10_commonDivisor_3 2 rfl 4 rfl ?_
  refine rn_lstore hX dX10_commonDivisor_4 (by decide) (L' := [(6, .long x2), (4, .long x0), (0, .long x0), (2, .long x2)]) rfl 6 rfl ?_
  refine rn_iconst hX dX10_commonDivisor_6 7 rfl ic_0 ?_
  refine rn_istore hX dX10_commonDivisor_7 (by decide) (L' := [(8, .int (0 : Int32)), (6, .long x2), (4, .long x0), (0, .long x0), (2, .long x2)]) rfl 9 rfl ?_
  refine rn_sub [2, 1, 0] rfl ?_
  exact (hL9  1000) x0 x2 (0 : Int32)
abbrev rmX10_lowest : Room := { frames := 1, cells := 0, slots := 0, locals := 30 }
theorem hdS_X10_lowest : yX10_lowest.cls ≠ "java/lang/invoke/MethodHandle" ∧ yX10_lowest.cls ≠ "java/lang/invoke/VarHandle" ∧ (parseMethodDescriptor yX10_lowest.desc).map (fun d => d.parameters.length) = some 3 := by decide +kernel
set_option maxHeartbeats 4000000 in
set_option maxRecDepth 100000 in
theorem c_X10_lowest (l : Launch) (G : GT) (x0 : Int64) (x2 : Int64) (x4 : Int32) {u : Int64} (hu : X10_lowest x0 x2 x4 = some u) : Ctr l G yX10_lowest wsX10_lowest rmX10_lowest [.long x0, .long x2, .int x4] [] (some (.long u)) [] := by
  obtain ⟨enc, henc⟩ : ∃ enc : (Int64) → Option Value × va_W, enc = fun u => (((some (.long u)) : Option Value), ([] : va_W)) := ⟨_, rfl⟩
  refine ctr_of (cc := cX10_lowest) (own := RX10) (E := Option.map enc) (o := X10_lowest x0 x2 x4) (by decide) rfl rfl (L := [(0, .long x0), (2, .long x2), (4, .int x4)]) rfl (Nat.le_of_ble_eq_true rfl) (by rw [hu, henc]; rfl) ?_
  intro Z hX hl hG hr
  subst hl; subst hG
  have mathabsS : (Cond.static Lib.MathLoose.abs_long.x).before (za Z) (zs Z) = true := hX.wd (List.mem_of_getElem? (i := 2) rfl)
  have mathabsI : (Cond.initialized "java/lang/Math").before (za Z) (zs Z) = true := hX.wd (List.mem_of_getElem? (i := 3) rfl)
  have mathabsC : (Cond.code Lib.MathLoose.abs_long.x Lib.MathLoose.abs_long.code 2 (some .long)).before (za Z) (zs Z) = true := hX.wd (List.mem_of_getElem? (i := 4) rfl)
  have ml361 : (Cond.methodLink RX10 361 Lib.MathLoose.abs_long.x).before (za Z) (zs Z) = true := hX.wd (List.mem_of_getElem? (i := 1) rfl)
  unfold X10_lowest
  refine rn_lload_n hX dX10_lowest_0 0 rfl 1 rfl ?_
  refine rn_mabsl hX ml361 mathabsS mathabsI mathabsC (Nat.le_of_ble_eq_true rfl) (Nat.le_of_ble_eq_true rfl) ⟨Nat.zero_le _, Nat.zero_le _⟩ dX10_lowest_1 4 rfl ?_
  refine rn_lload_n hX dX10_lowest_4 1 rfl 5 rfl ?_
  refine rn_bind (fun u1 hu1 => ?_)
  refine rn_callS0 hX gX10_lowest_X10_commonDivisor rfl hdS_X10_commonDivisor rfl rfl ⟨Nat.le_of_ble_eq_true rfl, Nat.le_of_ble_eq_true rfl⟩ (c_X10_commonDivisor (zl Z) (zG Z) (if 0 < x0 then x0 else -x0) x2 hu1) rfl [] rfl rfl rfl (Nat.le_of_ble_eq_true rfl) dX10_lowest_5 8 rfl (S' := [.long u1]) rfl ⟨Nat.zero_le _, Nat.zero_le _⟩ ?_
  refine rn_lstore hX dX10_lowest_8 (by decide) (L' := [(5, .long u1), (0, .long x0), (2, .long x2), (4, .int x4)]) rfl 10 rfl ?_
  refine rn_lload hX dX10_lowest_10 0 rfl 12 rfl ?_
  refine rn_lconst hX dX10_lowest_12 13 rfl lc_0 ?_
  refine rn_lcmp_gt hX dX10_lowest_13 14 rfl dX10_lowest_14 19 (by decide) 17 rfl ?_ ?_
  · refine rn_iload hX dX10_lowest_19 3 rfl 21 rfl ?_
    refine rn_if_ne hX dX10_lowest_21 28 (by decide) 24 rfl ?_ ?_
    · refine rn_lload_n hX dX10_lowest_28 2 rfl 29 rfl ?_
      refine rn_lload hX dX10_lowest_29 0 rfl 31 rfl ?_
      refine rn_gdl (fun hd2 => ?_)
      refine rn_ldiv hX dX10_lowest_31 32 rfl hd2 ?_
      exact rn_lret hX hr (by rw [henc]; rfl) dX10_lowest_32
    refine rn_lload_n hX dX10_lowest_24 1 rfl 25 rfl ?_
    refine rn_goto hX dX10_lowest_25 29 (by decide) ?_
    refine rn_lload hX dX10_lowest_29 0 rfl 31 rfl ?_
    refine rn_gdl (fun hd3 => ?_)
    refine rn_ldiv hX dX10_lowest_31 32 rfl hd3 ?_
    exact rn_lret hX hr (by rw [henc]; rfl) dX10_lowest_32
  refine rn_lconst hX dX10_lowest_17 18 rfl lc_0 ?_
  exact rn_lret hX hr (by rw [henc]; rfl) dX10_lowest_18
abbrev rmX10_foot : Room := { frames := 4, cells := 0, slots := 0, locals := 97 }
theorem hdV_X10_foot : yX10_foot.cls = RX10 ∧ yX10_foot.cls ≠ "java/lang/invoke/MethodHandle" ∧ yX10_foot.cls ≠ "java/lang/invoke/VarHandle" ∧ (parseMethodDescriptor yX10_foot.desc).map (fun d => d.parameters.length) = some 4 := by decide +kernel
set_option maxHeartbeats 4000000 in
set_option maxRecDepth 100000 in
theorem c_X10_foot (l : Launch) (G : GT) (a_this a_table a_table_squares a_tape a_reader a_way a_images a_sheets a_flaws a_sixthOf a_drawing a_naming : Nat) (g_lastFault : Int32) (g_lastTear : Int32) (g_table_places : Int32) (g_table_squares : (Nat → Int32)) (x1 : Int32) (x2 : Int32) (x3 : Int32) (x4 : Int32) {u : Int64} (hu : X10_foot x1 x2 x3 x4 g_table_places g_table_squares = some u) : Ctr l G yX10_foot wsX10_foot rmX10_foot [.ref a_this, .int x1, .int x2, .int x3, .int x4] [(a_this, .inr (10, [.ref a_tape, .ref a_reader, .ref a_table, .ref a_way, .ref a_images, .ref a_sheets, .ref a_flaws, .ref a_sixthOf, .ref a_drawing, .ref a_naming, .int g_lastFault, .int g_lastTear])), (a_table, .inr (8, [.int g_table_places, .ref a_table_squares])), (a_table_squares, .inl (G.2.1 1, 49, .inl g_table_squares))] (some (.long u)) [(a_this, .inr (10, [.ref a_tape, .ref a_reader, .ref a_table, .ref a_way, .ref a_images, .ref a_sheets, .ref a_flaws, .ref a_sixthOf, .ref a_drawing, .ref a_naming, .int g_lastFault, .int g_lastTear])), (a_table, .inr (8, [.int g_table_places, .ref a_table_squares])), (a_table_squares, .inl (G.2.1 1, 49, .inl g_table_squares))] := by
  obtain ⟨enc, henc⟩ : ∃ enc : (Int64) → Option Value × va_W, enc = fun u => (((some (.long u)) : Option Value), ([(a_this, .inr (10, [.ref a_tape, .ref a_reader, .ref a_table, .ref a_way, .ref a_images, .ref a_sheets, .ref a_flaws, .ref a_sixthOf, .ref a_drawing, .ref a_naming, .int g_lastFault, .int g_lastTear])), (a_table, .inr (8, [.int g_table_places, .ref a_table_squares])), (a_table_squares, .inl (G.2.1 1, 49, .inl g_table_squares))] : va_W)) := ⟨_, rfl⟩
  refine ctr_of (cc := cX10_foot) (own := RX10) (E := Option.map enc) (o := X10_foot x1 x2 x3 x4 g_table_places g_table_squares) (by decide) rfl rfl (L := [(0, .ref a_this), (1, .int x1), (2, .int x2), (3, .int x3), (4, .int x4)]) rfl (Nat.le_of_ble_eq_true rfl) (by rw [hu, henc]; rfl) ?_
  intro Z hX hl hG hr
  subst hl; subst hG
  have fl28 : (Cond.fieldLink RX10 28 "OnlyFar" "table" "LOnlyFar$Table;").before (za Z) (zs Z) = true := hX.wd (List.mem_of_getElem? (i := 1) rfl)
  have kl211 : (Cond.constantLong RX10 211 (2)).before (za Z) (zs Z) = true := hX.wd (List.mem_of_getElem? (i := 2) rfl)
  have inX10 : ∀ w ∈ u_ws RX10 TX10 12, w ∈ wsX10_foot := fun _ h => List.mem_cons_of_mem _ (List.mem_append_left _ ((List.mem_append_right _ h)))
  unfold X10_foot
  refine rn_aload_n hX dX10_foot_0 0 rfl 1 rfl ?_
  refine rn_iload_n hX dX10_foot_1 1 rfl 2 rfl ?_
  refine rn_iload_n hX dX10_foot_2 2 rfl 3 rfl ?_
  refine rn_iload_n hX dX10_foot_3 3 rfl 4 rfl ?_
  refine rn_iload hX dX10_foot_4 4 rfl 6 rfl ?_
  refine rn_bind (fun u1 hu1 => ?_)
  refine rn_callV0 hX gX10_foot_X10_refusalOfThree rfl hdV_X10_refusalOfThree rfl rfl ⟨Nat.le_of_ble_eq_true rfl, Nat.le_of_ble_eq_true rfl⟩ (c_X10_refusalOfThree (zl Z) (zG Z) a_this a_table a_table_squares a_tape a_reader a_way a_images a_sheets a_flaws a_sixthOf a_drawing a_naming g_lastFault g_lastTear g_table_places g_table_squares x1 x2 x3 x4 hu1) rfl [0, 1, 2] rfl rfl (ci := 10) rfl rfl rfl (Nat.le_of_ble_eq_true rfl) dX10_foot_6 9 rfl (S' := [.long u1]) rfl ⟨Nat.zero_le _, Nat.zero_le _⟩ ?_
  refine rn_lstore hX dX10_foot_9 (by decide) (L' := [(5, .long u1), (0, .ref a_this), (1, .int x1), (2, .int x2), (3, .int x3), (4, .int x4)]) rfl 11 rfl ?_
  refine rn_lload hX dX10_foot_11 0 rfl 13 rfl ?_
  refine rn_lconst hX dX10_foot_13 14 rfl lc_0 ?_
  refine rn_lcmp_eq hX dX10_foot_14 15 rfl dX10_foot_15 21 (by decide) 18 rfl ?_ ?_
  · refine rn_aload_n hX dX10_foot_21 1 rfl 22 rfl ?_
    refine rn_get hX inX10 0 rfl rfl 2 (by decide) fl28 rfl rfl dX10_foot_22 25 rfl ?_
    refine rn_iload_n hX dX10_foot_25 2 rfl 26 rfl ?_
    refine rn_iload_n hX dX10_foot_26 3 rfl 27 rfl ?_
    refine rn_iload_n hX dX10_foot_27 4 rfl 28 rfl ?_
    refine rn_bind (fun u2 hu2 => ?_)
    refine rn_callV0 hX gX10_foot_X8_leaning rfl hdV_X8_leaning rfl rfl ⟨Nat.le_of_ble_eq_true rfl, Nat.le_of_ble_eq_true rfl⟩ (c_X8_leaning (zl Z) (zG Z) a_table a_table_squares g_table_places g_table_squares x1 x2 x3 hu2) rfl [1, 2] rfl rfl (ci := 8) rfl rfl rfl (Nat.le_of_ble_eq_true rfl) dX10_foot_28 31 rfl (S' := [.long u2]) rfl ⟨Nat.zero_le _, Nat.zero_le _⟩ ?_
    refine rn_ldc2 hX kl211 dX10_foot_31 34 rfl ?_
    refine rn_aload_n hX dX10_foot_34 1 rfl 35 rfl ?_
    refine rn_get hX inX10 0 rfl rfl 2 (by decide) fl28 rfl rfl dX10_foot_35 38 rfl ?_
    refine rn_iload_n hX dX10_foot_38 2 rfl 39 rfl ?_
    refine rn_iload_n hX dX10_foot_39 3 rfl 40 rfl ?_
    refine rn_bind (fun u3 hu3 => ?_)
    refine rn_callV0 hX gX10_foot_X8_square rfl hdV_X8_square rfl rfl ⟨Nat.le_of_ble_eq_true rfl, Nat.le_of_ble_eq_true rfl⟩ (c_X8_square (zl Z) (zG Z) a_table a_table_squares g_table_places g_table_squares x1 x2 hu3) rfl [1, 2] rfl rfl (ci := 8) rfl rfl rfl (Nat.le_of_ble_eq_true rfl) dX10_foot_40 43 rfl (S' := [.int u3, .long (2 : Int64), .long u2]) rfl ⟨Nat.zero_le _, Nat.zero_le _⟩ ?_
    refine rn_i2l hX dX10_foot_43 44 rfl ?_
    refine rn_lmul hX dX10_foot_44 45 rfl ?_
    refine rn_iload hX dX10_foot_45 5 rfl 47 rfl ?_
    refine rn_bind (fun u4 hu4 => ?_)
    refine rn_callS0 hX gX10_foot_X10_lowest rfl hdS_X10_lowest rfl rfl ⟨Nat.le_of_ble_eq_true rfl, Nat.le_of_ble_eq_true rfl⟩ (c_X10_lowest (zl Z) (zG Z) u2 ((2 : Int64) * u3.toInt64) x4 hu4) rfl [] rfl rfl rfl (Nat.le_of_ble_eq_true rfl) dX10_foot_47 50 rfl (S' := [.long u4]) rfl ⟨Nat.zero_le _, Nat.zero_le _⟩ ?_
    exact rn_lret hX hr (by rw [henc]; rfl) dX10_foot_50
  refine rn_lload hX dX10_foot_18 0 rfl 20 rfl ?_
  exact rn_lret hX hr (by rw [henc]; rfl) dX10_foot_20
abbrev rmX10_height : Room := { frames := 4, cells := 0, slots := 0, locals := 97 }
theorem hdV_X10_height : yX10_height.cls = RX10 ∧ yX10_height.cls ≠ "java/lang/invoke/MethodHandle" ∧ yX10_height.cls ≠ "java/lang/invoke/VarHandle" ∧ (parseMethodDescriptor yX10_height.desc).map (fun d => d.parameters.length) = some 4 := by decide +kernel
set_option maxHeartbeats 4000000 in
set_option maxRecDepth 100000 in
theorem c_X10_height (l : Launch) (G : GT) (a_this a_table a_table_squares a_tape a_reader a_way a_images a_sheets a_flaws a_sixthOf a_drawing a_naming : Nat) (g_lastFault : Int32) (g_lastTear : Int32) (g_table_places : Int32) (g_table_squares : (Nat → Int32)) (x1 : Int32) (x2 : Int32) (x3 : Int32) (x4 : Int32) {u : Int64} (hu : X10_height x1 x2 x3 x4 g_table_places g_table_squares = some u) : Ctr l G yX10_height wsX10_height rmX10_height [.ref a_this, .int x1, .int x2, .int x3, .int x4] [(a_this, .inr (10, [.ref a_tape, .ref a_reader, .ref a_table, .ref a_way, .ref a_images, .ref a_sheets, .ref a_flaws, .ref a_sixthOf, .ref a_drawing, .ref a_naming, .int g_lastFault, .int g_lastTear])), (a_table, .inr (8, [.int g_table_places, .ref a_table_squares])), (a_table_squares, .inl (G.2.1 1, 49, .inl g_table_squares))] (some (.long u)) [(a_this, .inr (10, [.ref a_tape, .ref a_reader, .ref a_table, .ref a_way, .ref a_images, .ref a_sheets, .ref a_flaws, .ref a_sixthOf, .ref a_drawing, .ref a_naming, .int g_lastFault, .int g_lastTear])), (a_table, .inr (8, [.int g_table_places, .ref a_table_squares])), (a_table_squares, .inl (G.2.1 1, 49, .inl g_table_squares))] := by
  obtain ⟨enc, henc⟩ : ∃ enc : (Int64) → Option Value × va_W, enc = fun u => (((some (.long u)) : Option Value), ([(a_this, .inr (10, [.ref a_tape, .ref a_reader, .ref a_table, .ref a_way, .ref a_images, .ref a_sheets, .ref a_flaws, .ref a_sixthOf, .ref a_drawing, .ref a_naming, .int g_lastFault, .int g_lastTear])), (a_table, .inr (8, [.int g_table_places, .ref a_table_squares])), (a_table_squares, .inl (G.2.1 1, 49, .inl g_table_squares))] : va_W)) := ⟨_, rfl⟩
  refine ctr_of (cc := cX10_height) (own := RX10) (E := Option.map enc) (o := X10_height x1 x2 x3 x4 g_table_places g_table_squares) (by decide) rfl rfl (L := [(0, .ref a_this), (1, .int x1), (2, .int x2), (3, .int x3), (4, .int x4)]) rfl (Nat.le_of_ble_eq_true rfl) (by rw [hu, henc]; rfl) ?_
  intro Z hX hl hG hr
  subst hl; subst hG
  have fl28 : (Cond.fieldLink RX10 28 "OnlyFar" "table" "LOnlyFar$Table;").before (za Z) (zs Z) = true := hX.wd (List.mem_of_getElem? (i := 1) rfl)
  have kl220 : (Cond.constantLong RX10 220 (4)).before (za Z) (zs Z) = true := hX.wd (List.mem_of_getElem? (i := 2) rfl)
  have inX10 : ∀ w ∈ u_ws RX10 TX10 12, w ∈ wsX10_height := fun _ h => List.mem_cons_of_mem _ (List.mem_append_left _ ((List.mem_append_right _ h)))
  unfold X10_height
  refine rn_aload_n hX dX10_height_0 0 rfl 1 rfl ?_
  refine rn_iload_n hX dX10_height_1 1 rfl 2 rfl ?_
  refine rn_iload_n hX dX10_height_2 2 rfl 3 rfl ?_
  refine rn_iload_n hX dX10_height_3 3 rfl 4 rfl ?_
  refine rn_iload hX dX10_height_4 4 rfl 6 rfl ?_
  refine rn_bind (fun u1 hu1 => ?_)
  refine rn_callV0 hX gX10_height_X10_refusalOfThree rfl hdV_X10_refusalOfThree rfl rfl ⟨Nat.le_of_ble_eq_true rfl, Nat.le_of_ble_eq_true rfl⟩ (c_X10_refusalOfThree (zl Z) (zG Z) a_this a_table a_table_squares a_tape a_reader a_way a_images a_sheets a_flaws a_sixthOf a_drawing a_naming g_lastFault g_lastTear g_table_places g_table_squares x1 x2 x3 x4 hu1) rfl [0, 1, 2] rfl rfl (ci := 10) rfl rfl rfl (Nat.le_of_ble_eq_true rfl) dX10_height_6 9 rfl (S' := [.long u1]) rfl ⟨Nat.zero_le _, Nat.zero_le _⟩ ?_
  refine rn_lstore hX dX10_height_9 (by decide) (L' := [(5, .long u1), (0, .ref a_this), (1, .int x1), (2, .int x2), (3, .int x3), (4, .int x4)]) rfl 11 rfl ?_
  refine rn_lload hX dX10_height_11 0 rfl 13 rfl ?_
  refine rn_lconst hX dX10_height_13 14 rfl lc_0 ?_
  refine rn_lcmp_eq hX dX10_height_14 15 rfl dX10_height_15 21 (by decide) 18 rfl ?_ ?_
  · refine rn_aload_n hX dX10_height_21 1 rfl 22 rfl ?_
    refine rn_get hX inX10 0 rfl rfl 2 (by decide) fl28 rfl rfl dX10_height_22 25 rfl ?_
    refine rn_iload_n hX dX10_height_25 2 rfl 26 rfl ?_
    refine rn_iload_n hX dX10_height_26 3 rfl 27 rfl ?_
    refine rn_iload_n hX dX10_height_27 4 rfl 28 rfl ?_
    refine rn_bind (fun u2 hu2 => ?_)
    refine rn_callV0 hX gX10_height_X8_wideOf rfl hdV_X8_wideOf rfl rfl ⟨Nat.le_of_ble_eq_true rfl, Nat.le_of_ble_eq_true rfl⟩ (c_X8_wideOf (zl Z) (zG Z) a_table a_table_squares g_table_places g_table_squares x1 x2 x3 hu2) rfl [1, 2] rfl rfl (ci := 8) rfl rfl rfl (Nat.le_of_ble_eq_true rfl) dX10_height_28 31 rfl (S' := [.long u2]) rfl ⟨Nat.zero_le _, Nat.zero_le _⟩ ?_
    refine rn_ldc2 hX kl220 dX10_height_31 34 rfl ?_
    refine rn_aload_n hX dX10_height_34 1 rfl 35 rfl ?_
    refine rn_get hX inX10 0 rfl rfl 2 (by decide) fl28 rfl rfl dX10_height_35 38 rfl ?_
    refine rn_iload_n hX dX10_height_38 2 rfl 39 rfl ?_
    refine rn_iload_n hX dX10_height_39 3 rfl 40 rfl ?_
    refine rn_bind (fun u3 hu3 => ?_)
    refine rn_callV0 hX gX10_height_X8_square rfl hdV_X8_square rfl rfl ⟨Nat.le_of_ble_eq_true rfl, Nat.le_of_ble_eq_true rfl⟩ (c_X8_square (zl Z) (zG Z) a_table a_table_squares g_table_places g_table_squares x1 x2 hu3) rfl [1, 2] rfl rfl (ci := 8) rfl rfl rfl (Nat.le_of_ble_eq_true rfl) dX10_height_40 43 rfl (S' := [.int u3, .long (4 : Int64), .long u2]) rfl ⟨Nat.zero_le _, Nat.zero_le _⟩ ?_
    refine rn_i2l hX dX10_height_43 44 rfl ?_
    refine rn_lmul hX dX10_height_44 45 rfl ?_
    refine rn_iload hX dX10_height_45 5 rfl 47 rfl ?_
    refine rn_bind (fun u4 hu4 => ?_)
    refine rn_callS0 hX gX10_height_X10_lowest rfl hdS_X10_lowest rfl rfl ⟨Nat.le_of_ble_eq_true rfl, Nat.le_of_ble_eq_true rfl⟩ (c_X10_lowest (zl Z) (zG Z) u2 ((4 : Int64) * u3.toInt64) x4 hu4) rfl [] rfl rfl rfl (Nat.le_of_ble_eq_true rfl) dX10_height_47 50 rfl (S' := [.long u4]) rfl ⟨Nat.zero_le _, Nat.zero_le _⟩ ?_
    exact rn_lret hX hr (by rw [henc]; rfl) dX10_height_50
  refine rn_lload hX dX10_height_18 0 rfl 20 rfl ?_
  exact rn_lret hX hr (by rw [henc]; rfl) dX10_height_20
abbrev rmX10_round : Room := { frames := 4, cells := 0, slots := 0, locals := 97 }
theorem hdV_X10_round : yX10_round.cls = RX10 ∧ yX10_round.cls ≠ "java/lang/invoke/MethodHandle" ∧ yX10_round.cls ≠ "java/lang/invoke/VarHandle" ∧ (parseMethodDescriptor yX10_round.desc).map (fun d => d.parameters.length) = some 4 := by decide +kernel
set_option maxHeartbeats 4000000 in
set_option maxRecDepth 100000 in
theorem c_X10_round (l : Launch) (G : GT) (a_this a_table a_table_squares a_tape a_reader a_way a_images a_sheets a_flaws a_sixthOf a_drawing a_naming : Nat) (g_lastFault : Int32) (g_lastTear : Int32) (g_table_places : Int32) (g_table_squares : (Nat → Int32)) (x1 : Int32) (x2 : Int32) (x3 : Int32) (x4 : Int32) {u : Int64} (hu : X10_round x1 x2 x3 x4 g_table_places g_table_squares = some u) : Ctr l G yX10_round wsX10_round rmX10_round [.ref a_this, .int x1, .int x2, .int x3, .int x4] [(a_this, .inr (10, [.ref a_tape, .ref a_reader, .ref a_table, .ref a_way, .ref a_images, .ref a_sheets, .ref a_flaws, .ref a_sixthOf, .ref a_drawing, .ref a_naming, .int g_lastFault, .int g_lastTear])), (a_table, .inr (8, [.int g_table_places, .ref a_table_squares])), (a_table_squares, .inl (G.2.1 1, 49, .inl g_table_squares))] (some (.long u)) [(a_this, .inr (10, [.ref a_tape, .ref a_reader, .ref a_table, .ref a_way, .ref a_images, .ref a_sheets, .ref a_flaws, .ref a_sixthOf, .ref a_drawing, .ref a_naming, .int g_lastFault, .int g_lastTear])), (a_table, .inr (8, [.int g_table_places, .ref a_table_squares])), (a_table_squares, .inl (G.2.1 1, 49, .inl g_table_squares))] := by
  obtain ⟨enc, henc⟩ : ∃ enc : (Int64) → Option Value × va_W, enc = fun u => (((some (.long u)) : Option Value), ([(a_this, .inr (10, [.ref a_tape, .ref a_reader, .ref a_table, .ref a_way, .ref a_images, .ref a_sheets, .ref a_flaws, .ref a_sixthOf, .ref a_drawing, .ref a_naming, .int g_lastFault, .int g_lastTear])), (a_table, .inr (8, [.int g_table_places, .ref a_table_squares])), (a_table_squares, .inl (G.2.1 1, 49, .inl g_table_squares))] : va_W)) := ⟨_, rfl⟩
  refine ctr_of (cc := cX10_round) (own := RX10) (E := Option.map enc) (o := X10_round x1 x2 x3 x4 g_table_places g_table_squares) (by decide) rfl rfl (L := [(0, .ref a_this), (1, .int x1), (2, .int x2), (3, .int x3), (4, .int x4)]) rfl (Nat.le_of_ble_eq_true rfl) (by rw [hu, henc]; rfl) ?_
  intro Z hX hl hG hr
  subst hl; subst hG
  have fl28 : (Cond.fieldLink RX10 28 "OnlyFar" "table" "LOnlyFar$Table;").before (za Z) (zs Z) = true := hX.wd (List.mem_of_getElem? (i := 1) rfl)
  have kl154 : (Cond.constantLong RX10 154 (-9000000001)).before (za Z) (zs Z) = true := hX.wd (List.mem_of_getElem? (i := 2) rfl)
  have inX10 : ∀ w ∈ u_ws RX10 TX10 12, w ∈ wsX10_round := fun _ h => List.mem_cons_of_mem _ (List.mem_append_left _ ((List.mem_append_right _ h)))
  unfold X10_round
  refine rn_aload_n hX dX10_round_0 0 rfl 1 rfl ?_
  refine rn_iload_n hX dX10_round_1 1 rfl 2 rfl ?_
  refine rn_iload_n hX dX10_round_2 2 rfl 3 rfl ?_
  refine rn_iload_n hX dX10_round_3 3 rfl 4 rfl ?_
  refine rn_iload hX dX10_round_4 4 rfl 6 rfl ?_
  refine rn_bind (fun u1 hu1 => ?_)
  refine rn_callV0 hX gX10_round_X10_refusalOfThree rfl hdV_X10_refusalOfThree rfl rfl ⟨Nat.le_of_ble_eq_true rfl, Nat.le_of_ble_eq_true rfl⟩ (c_X10_refusalOfThree (zl Z) (zG Z) a_this a_table a_table_squares a_tape a_reader a_way a_images a_sheets a_flaws a_sixthOf a_drawing a_naming g_lastFault g_lastTear g_table_places g_table_squares x1 x2 x3 x4 hu1) rfl [0, 1, 2] rfl rfl (ci := 10) rfl rfl rfl (Nat.le_of_ble_eq_true rfl) dX10_round_6 9 rfl (S' := [.long u1]) rfl ⟨Nat.zero_le _, Nat.zero_le _⟩ ?_
  refine rn_lstore hX dX10_round_9 (by decide) (L' := [(5, .long u1), (0, .ref a_this), (1, .int x1), (2, .int x2), (3, .int x3), (4, .int x4)]) rfl 11 rfl ?_
  refine rn_lload hX dX10_round_11 0 rfl 13 rfl ?_
  refine rn_lconst hX dX10_round_13 14 rfl lc_0 ?_
  refine rn_lcmp_eq hX dX10_round_14 15 rfl dX10_round_15 21 (by decide) 18 rfl ?_ ?_
  · refine rn_aload_n hX dX10_round_21 1 rfl 22 rfl ?_
    refine rn_get hX inX10 0 rfl rfl 2 (by decide) fl28 rfl rfl dX10_round_22 25 rfl ?_
    refine rn_iload_n hX dX10_round_25 2 rfl 26 rfl ?_
    refine rn_iload_n hX dX10_round_26 3 rfl 27 rfl ?_
    refine rn_iload_n hX dX10_round_27 4 rfl 28 rfl ?_
    refine rn_bind (fun u2 hu2 => ?_)
    refine rn_callV0 hX gX10_round_X8_wideOf rfl hdV_X8_wideOf rfl rfl ⟨Nat.le_of_ble_eq_true rfl, Nat.le_of_ble_eq_true rfl⟩ (c_X8_wideOf (zl Z) (zG Z) a_table a_table_squares g_table_places g_table_squares x1 x2 x3 hu2) rfl [1, 2] rfl rfl (ci := 8) rfl rfl rfl (Nat.le_of_ble_eq_true rfl) dX10_round_28 31 rfl (S' := [.long u2]) rfl ⟨Nat.zero_le _, Nat.zero_le _⟩ ?_
    refine rn_lstore hX dX10_round_31 (by decide) (L' := [(7, .long u2), (5, .long u1), (0, .ref a_this), (1, .int x1), (2, .int x2), (3, .int x3), (4, .int x4)]) rfl 33 rfl ?_
    refine rn_lload hX dX10_round_33 0 rfl 35 rfl ?_
    refine rn_lconst hX dX10_round_35 36 rfl lc_0 ?_
    refine rn_lcmp_ne hX dX10_round_36 37 rfl dX10_round_37 44 (by decide) 40 rfl ?_ ?_
    · refine rn_aload_n hX dX10_round_44 2 rfl 45 rfl ?_
      refine rn_get hX inX10 0 rfl rfl 2 (by decide) fl28 rfl rfl dX10_round_45 48 rfl ?_
      refine rn_iload_n hX dX10_round_48 3 rfl 49 rfl ?_
      refine rn_iload_n hX dX10_round_49 4 rfl 50 rfl ?_
      refine rn_bind (fun u3 hu3 => ?_)
      refine rn_callV0 hX gX10_round_X8_square rfl hdV_X8_square rfl rfl ⟨Nat.le_of_ble_eq_true rfl, Nat.le_of_ble_eq_true rfl⟩ (c_X8_square (zl Z) (zG Z) a_table a_table_squares g_table_places g_table_squares x1 x2 hu3) rfl [1, 2] rfl rfl (ci := 8) rfl rfl rfl (Nat.le_of_ble_eq_true rfl) dX10_round_50 53 rfl (S' := [.int u3]) rfl ⟨Nat.zero_le _, Nat.zero_le _⟩ ?_
      refine rn_i2l hX dX10_round_53 54 rfl ?_
      refine rn_aload_n hX dX10_round_54 2 rfl 55 rfl ?_
      refine rn_get hX inX10 0 rfl rfl 2 (by decide) fl28 rfl rfl dX10_round_55 58 rfl ?_
      refine rn_iload_n hX dX10_round_58 3 rfl 59 rfl ?_
      refine rn_iload_n hX dX10_round_59 5 rfl 60 rfl ?_
      refine rn_bind (fun u4 hu4 => ?_)
      refine rn_callV0 hX gX10_round_X8_square rfl hdV_X8_square rfl rfl ⟨Nat.le_of_ble_eq_true rfl, Nat.le_of_ble_eq_true rfl⟩ (c_X8_square (zl Z) (zG Z) a_table a_table_squares g_table_places g_table_squares x1 x3 hu4) rfl [1, 2] rfl rfl (ci := 8) rfl rfl rfl (Nat.le_of_ble_eq_true rfl) dX10_round_60 63 rfl (S' := [.int u4, .long u3.toInt64]) rfl ⟨Nat.zero_le _, Nat.zero_le _⟩ ?_
      refine rn_i2l hX dX10_round_63 64 rfl ?_
      refine rn_lmul hX dX10_round_64 65 rfl ?_
      refine rn_aload_n hX dX10_round_65 2 rfl 66 rfl ?_
      refine rn_get hX inX10 0 rfl rfl 2 (by decide) fl28 rfl rfl dX10_round_66 69 rfl ?_
      refine rn_iload_n hX dX10_round_69 4 rfl 70 rfl ?_
      refine rn_iload_n hX dX10_round_70 5 rfl 71 rfl ?_
      refine rn_bind (fun u5 hu5 => ?_)
      refine rn_callV0 hX gX10_round_X8_square rfl hdV_X8_square rfl rfl ⟨Nat.le_of_ble_eq_true rfl, Nat.le_of_ble_eq_true rfl⟩ (c_X8_square (zl Z) (zG Z) a_table a_table_squares g_table_places g_table_squares x2 x3 hu5) rfl [1, 2] rfl rfl (ci := 8) rfl rfl rfl (Nat.le_of_ble_eq_true rfl) dX10_round_71 74 rfl (S' := [.int u5, .long (u3.toInt64 * u4.toInt64)]) rfl ⟨Nat.zero_le _, Nat.zero_le _⟩ ?_
      refine rn_i2l hX dX10_round_74 75 rfl ?_
      refine rn_lmul hX dX10_round_75 76 rfl ?_
      refine rn_latl (fun v6 => ?_)
      refine rn_lstore hX dX10_round_76 (by decide) (L' := [(9, .long v6), (7, .long u2), (5, .long u1), (0, .ref a_this), (1, .int x1), (2, .int x2), (3, .int x3), (4, .int x4)]) rfl 78 rfl ?_
      refine rn_lload hX dX10_round_78 0 rfl 80 rfl ?_
      refine rn_lload hX dX10_round_80 1 rfl 82 rfl ?_
      refine rn_iload hX dX10_round_82 7 rfl 84 rfl ?_
      refine rn_bind (fun u7 hu7 => ?_)
      refine rn_callS0 hX gX10_round_X10_lowest rfl hdS_X10_lowest rfl rfl ⟨Nat.le_of_ble_eq_true rfl, Nat.le_of_ble_eq_true rfl⟩ (c_X10_lowest (zl Z) (zG Z) v6 u2 x4 hu7) rfl [] rfl rfl rfl (Nat.le_of_ble_eq_true rfl) dX10_round_84 87 rfl (S' := [.long u7]) rfl ⟨Nat.zero_le _, Nat.zero_le _⟩ ?_
      exact rn_lret hX hr (by rw [henc]; rfl) dX10_round_87
    refine rn_ldc2 hX kl154 dX10_round_40 43 rfl ?_
    exact rn_lret hX hr (by rw [henc]; rfl) dX10_round_43
  refine rn_lload hX dX10_round_18 0 rfl 20 rfl ?_
  exact rn_lret hX hr (by rw [henc]; rfl) dX10_round_20
