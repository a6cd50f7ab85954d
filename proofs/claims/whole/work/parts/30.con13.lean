abbrev rmX11_areTwo : Room := { frames := 2, cells := 0, slots := 0, locals := 46 }
theorem hdV_X11_areTwo : yX11_areTwo.cls = RX11 ∧ yX11_areTwo.cls ≠ "java/lang/invoke/MethodHandle" ∧ yX11_areTwo.cls ≠ "java/lang/invoke/VarHandle" ∧ (parseMethodDescriptor yX11_areTwo.desc).map (fun d => d.parameters.length) = some 2 := by decide +kernel
set_option maxHeartbeats 4000000 in
set_option maxRecDepth 100000 in
theorem c_X11_areTwo (l : Launch) (G : GT) (a_this a_state a_readPage a_tape a_letters a_sums a_aside a_groups a_sides a_names a_firstNames a_isKept a_lanes a_lengths a_cells a_had : Nat) (g_isAwake : Int32) (g_taped : Int32) (g_fault : Int32) (g_broken : Int32) (g_brokenAt : Int32) (g_spot : Int32) (g_here : Int32) (g_token : Int32) (g_value : Int32) (g_hasPlaces : Int32) (g_highest : Int32) (g_laid : Int32) (g_groupMany : Int32) (g_isDrawn : Int32) (g_torn : Int32) (g_state : (Nat → Int32)) (x1 : Int32) (x2 : Int32) {u : Int32 × Int32 × (Nat → Int32)} (hu : X11_areTwo x1 x2 g_isAwake g_state = some u) : Ctr l G yX11_areTwo wsX11_areTwo rmX11_areTwo [.ref a_this, .int x1, .int x2] [(a_this, .inr (11, [.ref a_state, .ref a_readPage, .int g_isAwake, .ref a_tape, .int g_taped, .int g_fault, .int g_broken, .int g_brokenAt, .int g_spot, .int g_here, .int g_token, .int g_value, .ref a_letters, .int g_hasPlaces, .int g_highest, .ref a_sums, .ref a_aside, .ref a_groups, .ref a_sides, .int g_laid, .int g_groupMany, .int g_isDrawn, .ref a_names, .ref a_firstNames, .ref a_isKept, .ref a_lanes, .ref a_lengths, .ref a_cells, .int g_torn, .ref a_had])), (a_state, .inl (G.2.1 1, 96, .inl g_state))] (some (.int u.1)) [(a_this, .inr (11, [.ref a_state, .ref a_readPage, .int u.2.1, .ref a_tape, .int g_taped, .int g_fault, .int g_broken, .int g_brokenAt, .int g_spot, .int g_here, .int g_token, .int g_value, .ref a_letters, .int g_hasPlaces, .int g_highest, .ref a_sums, .ref a_aside, .ref a_groups, .ref a_sides, .int g_laid, .int g_groupMany, .int g_isDrawn, .ref a_names, .ref a_firstNames, .ref a_isKept, .ref a_lanes, .ref a_lengths, .ref a_cells, .int g_torn, .ref a_had])), (a_state, .inl (G.2.1 1, 96, .inl u.2.2))] := by
  obtain ⟨enc, henc⟩ : ∃ enc : (Int32 × Int32 × (Nat → Int32)) → Option Value × va_W, enc = fun u => (((some (.int u.1)) : Option Value), ([(a_this, .inr (11, [.ref a_state, .ref a_readPage, .int u.2.1, .ref a_tape, .int g_taped, .int g_fault, .int g_broken, .int g_brokenAt, .int g_spot, .int g_here, .int g_token, .int g_value, .ref a_letters, .int g_hasPlaces, .int g_highest, .ref a_sums, .ref a_aside, .ref a_groups, .ref a_sides, .int g_laid, .int g_groupMany, .int g_isDrawn, .ref a_names, .ref a_firstNames, .ref a_isKept, .ref a_lanes, .ref a_lengths, .ref a_cells, .int g_torn, .ref a_had])), (a_state, .inl (G.2.1 1, 96, .inl u.2.2))] : va_W)) := ⟨_, rfl⟩
  refine ctr_of (cc := cX11_areTwo) (own := RX11) (E := Option.map enc) (o := X11_areTwo x1 x2 g_isAwake g_state) (by decide) rfl rfl (L := [(0, .ref a_this), (1, .int x1), (2, .int x2)]) rfl (Nat.le_of_ble_eq_true rfl) (by rw [hu, henc]; rfl) ?_
  intro Z hX hl hG hr
  subst hl; subst hG
  unfold X11_areTwo
  refine rn_aload_n hX dX11_areTwo_0 0 rfl 1 rfl ?_
  refine rn_iload_n hX dX11_areTwo_1 1 rfl 2 rfl ?_
  refine rn_bind (fun u1 hu1 => ?_)
  refine rn_callV hX (gV mcC wd_1148 wd_1150 wd_34 wd_81 wd_1151) rfl hdV_X11_isPlace rfl rfl ⟨Nat.le_of_ble_eq_true rfl, Nat.le_of_ble_eq_true rfl⟩ (c_X11_isPlace (zl Z) (zG Z) a_this a_state a_readPage a_tape a_letters a_sums a_aside a_groups a_sides a_names a_firstNames a_isKept a_lanes a_lengths a_cells a_had g_isAwake g_taped g_fault g_broken g_brokenAt g_spot g_here g_token g_value g_hasPlaces g_highest g_laid g_groupMany g_isDrawn g_torn g_state x1 hu1) rfl [0, 1] rfl rfl rfl (ci := 11) rfl rfl rfl (Nat.le_of_ble_eq_true rfl) dX11_areTwo_2 5 rfl (wn := [(a_this, .inr (11, [.ref a_state, .ref a_readPage, .int u1.2.1, .ref a_tape, .int g_taped, .int g_fault, .int g_broken, .int g_brokenAt, .int g_spot, .int g_here, .int g_token, .int g_value, .ref a_letters, .int g_hasPlaces, .int g_highest, .ref a_sums, .ref a_aside, .ref a_groups, .ref a_sides, .int g_laid, .int g_groupMany, .int g_isDrawn, .ref a_names, .ref a_firstNames, .ref a_isKept, .ref a_lanes, .ref a_lengths, .ref a_cells, .int g_torn, .ref a_had])), (a_state, .inl ((zG Z).2.1 1, 96, .inl u1.2.2))]) rfl (S' := [.int u1.1]) rfl ⟨Nat.zero_le _, Nat.zero_le _⟩ ?_
  refine rn_if_eq hX dX11_areTwo_5 25 (by decide) 8 rfl ?_ ?_
  · refine rn_iconst hX dX11_areTwo_25 26 rfl ic_0 ?_
    exact rn_zret hX rfl hr (by rw [henc]; rfl) dX11_areTwo_26
  refine rn_aload_n hX dX11_areTwo_8 0 rfl 9 rfl ?_
  refine rn_iload_n hX dX11_areTwo_9 2 rfl 10 rfl ?_
  refine rn_bind (fun u2 hu2 => ?_)
  refine rn_callV hX (gV mcC wd_1148 wd_1150 wd_34 wd_81 wd_1151) rfl hdV_X11_isPlace rfl rfl ⟨Nat.le_of_ble_eq_true rfl, Nat.le_of_ble_eq_true rfl⟩ (c_X11_isPlace (zl Z) (zG Z) a_this a_state a_readPage a_tape a_letters a_sums a_aside a_groups a_sides a_names a_firstNames a_isKept a_lanes a_lengths a_cells a_had u1.2.1 g_taped g_fault g_broken g_brokenAt g_spot g_here g_token g_value g_hasPlaces g_highest g_laid g_groupMany g_isDrawn g_torn u1.2.2 x2 hu2) rfl [0, 1] rfl rfl rfl (ci := 11) rfl rfl rfl (Nat.le_of_ble_eq_true rfl) dX11_areTwo_10 13 rfl (wn := [(a_this, .inr (11, [.ref a_state, .ref a_readPage, .int u2.2.1, .ref a_tape, .int g_taped, .int g_fault, .int g_broken, .int g_brokenAt, .int g_spot, .int g_here, .int g_token, .int g_value, .ref a_letters, .int g_hasPlaces, .int g_highest, .ref a_sums, .ref a_aside, .ref a_groups, .ref a_sides, .int g_laid, .int g_groupMany, .int g_isDrawn, .ref a_names, .ref a_firstNames, .ref a_isKept, .ref a_lanes, .ref a_lengths, .ref a_cells, .int g_torn, .ref a_had])), (a_state, .inl ((zG Z).2.1 1, 96, .inl u2.2.2))]) rfl (S' := [.int u2.1]) rfl ⟨Nat.zero_le _, Nat.zero_le _⟩ ?_
  refine rn_if_eq hX dX11_areTwo_13 25 (by decide) 16 rfl ?_ ?_
  · refine rn_iconst hX dX11_areTwo_25 26 rfl ic_0 ?_
    exact rn_zret hX rfl hr (by rw [henc]; rfl) dX11_areTwo_26
  refine rn_iload_n hX dX11_areTwo_16 1 rfl 17 rfl ?_
  refine rn_iload_n hX dX11_areTwo_17 2 rfl 18 rfl ?_
  refine rn_icmp_eq hX dX11_areTwo_18 25 (by decide) 21 rfl ?_ ?_
  · refine rn_iconst hX dX11_areTwo_25 26 rfl ic_0 ?_
    exact rn_zret hX rfl hr (by rw [henc]; rfl) dX11_areTwo_26
  refine rn_iconst hX dX11_areTwo_21 22 rfl ic_1 ?_
  refine rn_goto hX dX11_areTwo_22 26 (by decide) ?_
  exact rn_zret hX rfl hr (by rw [henc]; rfl) dX11_areTwo_26
abbrev rmX11_areThree : Room := { frames := 3, cells := 0, slots := 0, locals := 68 }
theorem hdV_X11_areThree : yX11_areThree.cls = RX11 ∧ yX11_areThree.cls ≠ "java/lang/invoke/MethodHandle" ∧ yX11_areThree.cls ≠ "java/lang/invoke/VarHandle" ∧ (parseMethodDescriptor yX11_areThree.desc).map (fun d => d.parameters.length) = some 3 := by decide +kernel
set_option maxHeartbeats 4000000 in
set_option maxRecDepth 100000 in
theorem c_X11_areThree (l : Launch) (G : GT) (a_this a_state a_readPage a_tape a_letters a_sums a_aside a_groups a_sides a_names a_firstNames a_isKept a_lanes a_lengths a_cells a_had : Nat) (g_isAwake : Int32) (g_taped : Int32) (g_fault : Int32) (g_broken : Int32) (g_brokenAt : Int32) (g_spot : Int32) (g_here : Int32) (g_token : Int32) (g_value : Int32) (g_hasPlaces : Int32) (g_highest : Int32) (g_laid : Int32) (g_groupMany : Int32) (g_isDrawn : Int32) (g_torn : Int32) (g_state : (Nat → Int32)) (x1 : Int32) (x2 : Int32) (x3 : Int32) {u : Int32 × Int32 × (Nat → Int32)} (hu : X11_areThree x1 x2 x3 g_isAwake g_state = some u) : Ctr l G yX11_areThree wsX11_areThree rmX11_areThree [.ref a_this, .int x1, .int x2, .int x3] [(a_this, .inr (11, [.ref a_state, .ref a_readPage, .int g_isAwake, .ref a_tape, .int g_taped, .int g_fault, .int g_broken, .int g_brokenAt, .int g_spot, .int g_here, .int g_token, .int g_value, .ref a_letters, .int g_hasPlaces, .int g_highest, .ref a_sums, .ref a_aside, .ref a_groups, .ref a_sides, .int g_laid, .int g_groupMany, .int g_isDrawn, .ref a_names, .ref a_firstNames, .ref a_isKept, .ref a_lanes, .ref a_lengths, .ref a_cells, .int g_torn, .ref a_had])), (a_state, .inl (G.2.1 1, 96, .inl g_state))] (some (.int u.1)) [(a_this, .inr (11, [.ref a_state, .ref a_readPage, .int u.2.1, .ref a_tape, .int g_taped, .int g_fault, .int g_broken, .int g_brokenAt, .int g_spot, .int g_here, .int g_token, .int g_value, .ref a_letters, .int g_hasPlaces, .int g_highest, .ref a_sums, .ref a_aside, .ref a_groups, .ref a_sides, .int g_laid, .int g_groupMany, .int g_isDrawn, .ref a_names, .ref a_firstNames, .ref a_isKept, .ref a_lanes, .ref a_lengths, .ref a_cells, .int g_torn, .ref a_had])), (a_state, .inl (G.2.1 1, 96, .inl u.2.2))] := by
  obtain ⟨enc, henc⟩ : ∃ enc : (Int32 × Int32 × (Nat → Int32)) → Option Value × va_W, enc = fun u => (((some (.int u.1)) : Option Value), ([(a_this, .inr (11, [.ref a_state, .ref a_readPage, .int u.2.1, .ref a_tape, .int g_taped, .int g_fault, .int g_broken, .int g_brokenAt, .int g_spot, .int g_here, .int g_token, .int g_value, .ref a_letters, .int g_hasPlaces, .int g_highest, .ref a_sums, .ref a_aside, .ref a_groups, .ref a_sides, .int g_laid, .int g_groupMany, .int g_isDrawn, .ref a_names, .ref a_firstNames, .ref a_isKept, .ref a_lanes, .ref a_lengths, .ref a_cells, .int g_torn, .ref a_had])), (a_state, .inl (G.2.1 1, 96, .inl u.2.2))] : va_W)) := ⟨_, rfl⟩
  refine ctr_of (cc := cX11_areThree) (own := RX11) (E := Option.map enc) (o := X11_areThree x1 x2 x3 g_isAwake g_state) (by decide) rfl rfl (L := [(0, .ref a_this), (1, .int x1), (2, .int x2), (3, .int x3)]) rfl (Nat.le_of_ble_eq_true rfl) (by rw [hu, henc]; rfl) ?_
  intro Z hX hl hG hr
  subst hl; subst hG
  unfold X11_areThree
  refine rn_aload_n hX dX11_areThree_0 0 rfl 1 rfl ?_
  refine rn_iload_n hX dX11_areThree_1 1 rfl 2 rfl ?_
  refine rn_iload_n hX dX11_areThree_2 2 rfl 3 rfl ?_
  refine rn_bind (fun u1 hu1 => ?_)
  refine rn_callV hX (gV mcC wd_1144 wd_1146 wd_33 wd_81 wd_1147) rfl hdV_X11_areTwo rfl rfl ⟨Nat.le_of_ble_eq_true rfl, Nat.le_of_ble_eq_true rfl⟩ (c_X11_areTwo (zl Z) (zG Z) a_this a_state a_readPage a_tape a_letters a_sums a_aside a_groups a_sides a_names a_firstNames a_isKept a_lanes a_lengths a_cells a_had g_isAwake g_taped g_fault g_broken g_brokenAt g_spot g_here g_token g_value g_hasPlaces g_highest g_laid g_groupMany g_isDrawn g_torn g_state x1 x2 hu1) rfl [0, 1] rfl rfl rfl (ci := 11) rfl rfl rfl (Nat.le_of_ble_eq_true rfl) dX11_areThree_3 6 rfl (wn := [(a_this, .inr (11, [.ref a_state, .ref a_readPage, .int u1.2.1, .ref a_tape, .int g_taped, .int g_fault, .int g_broken, .int g_brokenAt, .int g_spot, .int g_here, .int g_token, .int g_value, .ref a_letters, .int g_hasPlaces, .int g_highest, .ref a_sums, .ref a_aside, .ref a_groups, .ref a_sides, .int g_laid, .int g_groupMany, .int g_isDrawn, .ref a_names, .ref a_firstNames, .ref a_isKept, .ref a_lanes, .ref a_lengths, .ref a_cells, .int g_torn, .ref a_had])), (a_state, .inl ((zG Z).2.1 1, 96, .inl u1.2.2))]) rfl (S' := [.int u1.1]) rfl ⟨Nat.zero_le _, Nat.zero_le _⟩ ?_
  refine rn_if_eq hX dX11_areThree_6 27 (by decide) 9 rfl ?_ ?_
  · refine rn_iconst hX dX11_areThree_27 28 rfl ic_0 ?_
    exact rn_zret hX rfl hr (by rw [henc]; rfl) dX11_areThree_28
  refine rn_aload_n hX dX11_areThree_9 0 rfl 10 rfl ?_
  refine rn_iload_n hX dX11_areThree_10 1 rfl 11 rfl ?_
  refine rn_iload_n hX dX11_areThree_11 3 rfl 12 rfl ?_
  refine rn_bind (fun u2 hu2 => ?_)
  refine rn_callV hX (gV mcC wd_1144 wd_1146 wd_33 wd_81 wd_1147) rfl hdV_X11_areTwo rfl rfl ⟨Nat.le_of_ble_eq_true rfl, Nat.le_of_ble_eq_true rfl⟩ (c_X11_areTwo (zl Z) (zG Z) a_this a_state a_readPage a_tape a_letters a_sums a_aside a_groups a_sides a_names a_firstNames a_isKept a_lanes a_lengths a_cells a_had u1.2.1 g_taped g_fault g_broken g_brokenAt g_spot g_here g_token g_value g_hasPlaces g_highest g_laid g_groupMany g_isDrawn g_torn u1.2.2 x1 x3 hu2) rfl [0, 1] rfl rfl rfl (ci := 11) rfl rfl rfl (Nat.le_of_ble_eq_true rfl) dX11_areThree_12 15 rfl (wn := [(a_this, .inr (11, [.ref a_state, .ref a_readPage, .int u2.2.1, .ref a_tape, .int g_taped, .int g_fault, .int g_broken, .int g_brokenAt, .int g_spot, .int g_here, .int g_token, .int g_value, .ref a_letters, .int g_hasPlaces, .int g_highest, .ref a_sums, .ref a_aside, .ref a_groups, .ref a_sides, .int g_laid, .int g_groupMany, .int g_isDrawn, .ref a_names, .ref a_firstNames, .ref a_isKept, .ref a_lanes, .ref a_lengths, .ref a_cells, .int g_torn, .ref a_had])), (a_state, .inl ((zG Z).2.1 1, 96, .inl u2.2.2))]) rfl (S' := [.int u2.1]) rfl ⟨Nat.zero_le _, Nat.zero_le _⟩ ?_
  refine rn_if_eq hX dX11_areThree_15 27 (by decide) 18 rfl ?_ ?_
  · refine rn_iconst hX dX11_areThree_27 28 rfl ic_0 ?_
    exact rn_zret hX rfl hr (by rw [henc]; rfl) dX11_areThree_28
  refine rn_iload_n hX dX11_areThree_18 2 rfl 19 rfl ?_
  refine rn_iload_n hX dX11_areThree_19 3 rfl 20 rfl ?_
  refine rn_icmp_eq hX dX11_areThree_20 27 (by decide) 23 rfl ?_ ?_
  · refine rn_iconst hX dX11_areThree_27 28 rfl ic_0 ?_
    exact rn_zret hX rfl hr (by rw [henc]; rfl) dX11_areThree_28
  refine rn_iconst hX dX11_areThree_23 24 rfl ic_1 ?_
  refine rn_goto hX dX11_areThree_24 28 (by decide) ?_
  exact rn_zret hX rfl hr (by rw [henc]; rfl) dX11_areThree_28
abbrev rmX11_areFour : Room := { frames := 4, cells := 0, slots := 0, locals := 91 }
theorem hdV_X11_areFour : yX11_areFour.cls = RX11 ∧ yX11_areFour.cls ≠ "java/lang/invoke/MethodHandle" ∧ yX11_areFour.cls ≠ "java/lang/invoke/VarHandle" ∧ (parseMethodDescriptor yX11_areFour.desc).map (fun d => d.parameters.length) = some 4 := by decide +kernel
set_option maxHeartbeats 4000000 in
set_option maxRecDepth 100000 in
theorem c_X11_areFour (l : Launch) (G : GT) (a_this a_state a_readPage a_tape a_letters a_sums a_aside a_groups a_sides a_names a_firstNames a_isKept a_lanes a_lengths a_cells a_had : Nat) (g_isAwake : Int32) (g_taped : Int32) (g_fault : Int32) (g_broken : Int32) (g_brokenAt : Int32) (g_spot : Int32) (g_here : Int32) (g_token : Int32) (g_value : Int32) (g_hasPlaces : Int32) (g_highest : Int32) (g_laid : Int32) (g_groupMany : Int32) (g_isDrawn : Int32) (g_torn : Int32) (g_state : (Nat → Int32)) (x1 : Int32) (x2 : Int32) (x3 : Int32) (x4 : Int32) {u : Int32 × Int32 × (Nat → Int32)} (hu : X11_areFour x1 x2 x3 x4 g_isAwake g_state = some u) : Ctr l G yX11_areFour wsX11_areFour rmX11_areFour [.ref a_this, .int x1, .int x2, .int x3, .int x4] [(a_this, .inr (11, [.ref a_state, .ref a_readPage, .int g_isAwake, .ref a_tape, .int g_taped, .int g_fault, .int g_broken, .int g_brokenAt, .int g_spot, .int g_here, .int g_token, .int g_value, .ref a_letters, .int g_hasPlaces, .int g_highest, .ref a_sums, .ref a_aside, .ref a_groups, .ref a_sides, .int g_laid, .int g_groupMany, .int g_isDrawn, .ref a_names, .ref a_firstNames, .ref a_isKept, .ref a_lanes, .ref a_lengths, .ref a_cells, .int g_torn, .ref a_had])), (a_state, .inl (G.2.1 1, 96, .inl g_state))] (some (.int u.1)) [(a_this, .inr (11, [.ref a_state, .ref a_readPage, .int u.2.1, .ref a_tape, .int g_taped, .int g_fault, .int g_broken, .int g_brokenAt, .int g_spot, .int g_here, .int g_token, .int g_value, .ref a_letters, .int g_hasPlaces, .int g_highest, .ref a_sums, .ref a_aside, .ref a_groups, .ref a_sides, .int g_laid, .int g_groupMany, .int g_isDrawn, .ref a_names, .ref a_firstNames, .ref a_isKept, .ref a_lanes, .ref a_lengths, .ref a_cells, .int g_torn, .ref a_had])), (a_state, .inl (G.2.1 1, 96, .inl u.2.2))] := by
  obtain ⟨enc, henc⟩ : ∃ enc : (Int32 × Int32 × (Nat → Int32)) → Option Value × va_W, enc = fun u => (((some (.int u.1)) : Option Value), ([(a_this, .inr (11, [.ref a_state, .ref a_readPage, .int u.2.1, .ref a_tape, .int g_taped, .int g_fault, .int g_broken, .int g_brokenAt, .int g_spot, .int g_here, .int g_token, .int g_value, .ref a_letters, .int g_hasPlaces, .int g_highest, .ref a_sums, .ref a_aside, .ref a_groups, .ref a_sides, .int g_laid, .int g_groupMany, .int g_isDrawn, .ref a_names, .ref a_firstNames, .ref a_isKept, .ref a_lanes, .ref a_lengths, .ref a_cells, .int g_torn, .ref a_had])), (a_state, .inl (G.2.1 1, 96, .inl u.2.2))] : va_W)) := ⟨_, rfl⟩
  refine ctr_of (cc := cX11_areFour) (own := RX11) (E := Option.map enc) (o := X11_areFour x1 x2 x3 x4 g_isAwake g_state) (by decide) rfl rfl (L := [(0, .ref a_this), (1, .int x1), (2, .int x2), (3, .int x3), (4, .int x4)]) rfl (Nat.le_of_ble_eq_true rfl) (by rw [hu, henc]; rfl) ?_
  intro Z hX hl hG hr
  subst hl; subst hG
  unfold X11_areFour
  refine rn_aload_n hX dX11_areFour_0 0 rfl 1 rfl ?_
  refine rn_iload_n hX dX11_areFour_1 1 rfl 2 rfl ?_
  refine rn_iload_n hX dX11_areFour_2 2 rfl 3 rfl ?_
  refine rn_iload_n hX dX11_areFour_3 3 rfl 4 rfl ?_
  refine rn_bind (fun u1 hu1 => ?_)
  refine rn_callV hX (gV mcC wd_1177 wd_1179 wd_38 wd_81 wd_1180) rfl hdV_X11_areThree rfl rfl ⟨Nat.le_of_ble_eq_true rfl, Nat.le_of_ble_eq_true rfl⟩ (c_X11_areThree (zl Z) (zG Z) a_this a_state a_readPage a_tape a_letters a_sums a_aside a_groups a_sides a_names a_firstNames a_isKept a_lanes a_lengths a_cells a_had g_isAwake g_taped g_fault g_broken g_brokenAt g_spot g_here g_token g_value g_hasPlaces g_highest g_laid g_groupMany g_isDrawn g_torn g_state x1 x2 x3 hu1) rfl [0, 1] rfl rfl rfl (ci := 11) rfl rfl rfl (Nat.le_of_ble_eq_true rfl) dX11_areFour_4 7 rfl (wn := [(a_this, .inr (11, [.ref a_state, .ref a_readPage, .int u1.2.1, .ref a_tape, .int g_taped, .int g_fault, .int g_broken, .int g_brokenAt, .int g_spot, .int g_here, .int g_token, .int g_value, .ref a_letters, .int g_hasPlaces, .int g_highest, .ref a_sums, .ref a_aside, .ref a_groups, .ref a_sides, .int g_laid, .int g_groupMany, .int g_isDrawn, .ref a_names, .ref a_firstNames, .ref a_isKept, .ref a_lanes, .ref a_lengths, .ref a_cells, .int g_torn, .ref a_had])), (a_state, .inl ((zG Z).2.1 1, 96, .inl u1.2.2))]) rfl (S' := [.int u1.1]) rfl ⟨Nat.zero_le _, Nat.zero_le _⟩ ?_
  refine rn_if_eq hX dX11_areFour_7 31 (by decide) 10 rfl ?_ ?_
  · refine rn_iconst hX dX11_areFour_31 32 rfl ic_0 ?_
    exact rn_zret hX rfl hr (by rw [henc]; rfl) dX11_areFour_32
  refine rn_aload_n hX dX11_areFour_10 0 rfl 11 rfl ?_
  refine rn_iload_n hX dX11_areFour_11 1 rfl 12 rfl ?_
  refine rn_iload_n hX dX11_areFour_12 2 rfl 13 rfl ?_
  refine rn_iload hX dX11_areFour_13 4 rfl 15 rfl ?_
  refine rn_bind (fun u2 hu2 => ?_)
  refine rn_callV hX (gV mcC wd_1177 wd_1179 wd_38 wd_81 wd_1180) rfl hdV_X11_areThree rfl rfl ⟨Nat.le_of_ble_eq_true rfl, Nat.le_of_ble_eq_true rfl⟩ (c_X11_areThree (zl Z) (zG Z) a_this a_state a_readPage a_tape a_letters a_sums a_aside a_groups a_sides a_names a_firstNames a_isKept a_lanes a_lengths a_cells a_had u1.2.1 g_taped g_fault g_broken g_brokenAt g_spot g_here g_token g_value g_hasPlaces g_highest g_laid g_groupMany g_isDrawn g_torn u1.2.2 x1 x2 x4 hu2) rfl [0, 1] rfl rfl rfl (ci := 11) rfl rfl rfl (Nat.le_of_ble_eq_true rfl) dX11_areFour_15 18 rfl (wn := [(a_this, .inr (11, [.ref a_state, .ref a_readPage, .int u2.2.1, .ref a_tape, .int g_taped, .int g_fault, .int g_broken, .int g_brokenAt, .int g_spot, .int g_here, .int g_token, .int g_value, .ref a_letters, .int g_hasPlaces, .int g_highest, .ref a_sums, .ref a_aside, .ref a_groups, .ref a_sides, .int g_laid, .int g_groupMany, .int g_isDrawn, .ref a_names, .ref a_firstNames, .ref a_isKept, .ref a_lanes, .ref a_lengths, .ref a_cells, .int g_torn, .ref a_had])), (a_state, .inl ((zG Z).2.1 1, 96, .inl u2.2.2))]) rfl (S' := [.int u2.1]) rfl ⟨Nat.zero_le _, Nat.zero_le _⟩ ?_
  refine rn_if_eq hX dX11_areFour_18 31 (by decide) 21 rfl ?_ ?_
  · refine rn_iconst hX dX11_areFour_31 32 rfl ic_0 ?_
    exact rn_zret hX rfl hr (by rw [henc]; rfl) dX11_areFour_32
  refine rn_iload_n hX dX11_areFour_21 3 rfl 22 rfl ?_
  refine rn_iload hX dX11_areFour_22 4 rfl 24 rfl ?_
  refine rn_icmp_eq hX dX11_areFour_24 31 (by decide) 27 rfl ?_ ?_
  · refine rn_iconst hX dX11_areFour_31 32 rfl ic_0 ?_
    exact rn_zret hX rfl hr (by rw [henc]; rfl) dX11_areFour_32
  refine rn_iconst hX dX11_areFour_27 28 rfl ic_1 ?_
  refine rn_goto hX dX11_areFour_28 32 (by decide) ?_
  exact rn_zret hX rfl hr (by rw [henc]; rfl) dX11_areFour_32
abbrev rmX11_sq : Room := { frames := 1, cells := 0, slots := 0, locals := 23 }
theorem hdV_X11_sq : yX11_sq.cls = RX11 ∧ yX11_sq.cls ≠ "java/lang/invoke/MethodHandle" ∧ yX11_sq.cls ≠ "java/lang/invoke/VarHandle" ∧ (parseMethodDescriptor yX11_sq.desc).map (fun d => d.parameters.length) = some 2 := by decide +kernel
set_option maxHeartbeats 4000000 in
set_option maxRecDepth 100000 in
theorem c_X11_sq (l : Launch) (G : GT) (a_this a_state a_readPage a_tape a_letters a_sums a_aside a_groups a_sides a_names a_firstNames a_isKept a_lanes a_lengths a_cells a_had : Nat) (g_isAwake : Int32) (g_taped : Int32) (g_fault : Int32) (g_broken : Int32) (g_brokenAt : Int32) (g_spot : Int32) (g_here : Int32) (g_token : Int32) (g_value : Int32) (g_hasPlaces : Int32) (g_highest : Int32) (g_laid : Int32) (g_groupMany : Int32) (g_isDrawn : Int32) (g_torn : Int32) (g_state : (Nat → Int32)) (x1 : Int32) (x2 : Int32) {u : Int64} (hu : X11_sq x1 x2 g_state = some u) : Ctr l G yX11_sq wsX11_sq rmX11_sq [.ref a_this, .int x1, .int x2] [(a_this, .inr (11, [.ref a_state, .ref a_readPage, .int g_isAwake, .ref a_tape, .int g_taped, .int g_fault, .int g_broken, .int g_brokenAt, .int g_spot, .int g_here, .int g_token, .int g_value, .ref a_letters, .int g_hasPlaces, .int g_highest, .ref a_sums, .ref a_aside, .ref a_groups, .ref a_sides, .int g_laid, .int g_groupMany, .int g_isDrawn, .ref a_names, .ref a_firstNames, .ref a_isKept, .ref a_lanes, .ref a_lengths, .ref a_cells, .int g_torn, .ref a_had])), (a_state, .inl (G.2.1 1, 96, .inl g_state))] (some (.long u)) [(a_this, .inr (11, [.ref a_state, .ref a_readPage, .int g_isAwake, .ref a_tape, .int g_taped, .int g_fault, .int g_broken, .int g_brokenAt, .int g_spot, .int g_here, .int g_token, .int g_value, .ref a_letters, .int g_hasPlaces, .int g_highest, .ref a_sums, .ref a_aside, .ref a_groups, .ref a_sides, .int g_laid, .int g_groupMany, .int g_isDrawn, .ref a_names, .ref a_firstNames, .ref a_isKept, .ref a_lanes, .ref a_lengths, .ref a_cells, .int g_torn, .ref a_had])), (a_state, .inl (G.2.1 1, 96, .inl g_state))] := by
  obtain ⟨enc, henc⟩ : ∃ enc : (Int64) → Option Value × va_W, enc = fun u => (((some (.long u)) : Option Value), ([(a_this, .inr (11, [.ref a_state, .ref a_readPage, .int g_isAwake, .ref a_tape, .int g_taped, .int g_fault, .int g_broken, .int g_brokenAt, .int g_spot, .int g_here, .int g_token, .int g_value, .ref a_letters, .int g_hasPlaces, .int g_highest, .ref a_sums, .ref a_aside, .ref a_groups, .ref a_sides, .int g_laid, .int g_groupMany, .int g_isDrawn, .ref a_names, .ref a_firstNames, .ref a_isKept, .ref a_lanes, .ref a_lengths, .ref a_cells, .int g_torn, .ref a_had])), (a_state, .inl (G.2.1 1, 96, .inl g_state))] : va_W)) := ⟨_, rfl⟩
  refine ctr_of (cc := cX11_sq) (own := RX11) (E := Option.map enc) (o := X11_sq x1 x2 g_state) (by decide) rfl rfl (L := [(0, .ref a_this), (1, .int x1), (2, .int x2)]) rfl (Nat.le_of_ble_eq_true rfl) (by rw [hu, henc]; rfl) ?_
  intro Z hX hl hG hr
  subst hl; subst hG
  have fl7 : (Cond.fieldLink RX11 7 "OnlyFarModel" "state" "[I").before (za Z) (zs Z) = true := hX.wd (mcC _ wd_990)
  have inX11 : ∀ w ∈ u_ws RX11 TX11 30, w ∈ wsX11_sq := fun w h => mcC w (inC_X11 w h)
  unfold X11_sq
  refine rn_iload_n hX dX11_sq_0 1 rfl 1 rfl ?_
  refine rn_iload_n hX dX11_sq_1 2 rfl 2 rfl ?_
  refine rn_icmp_ne hX dX11_sq_2 9 (by decide) 5 rfl ?_ ?_
  · refine rn_aload_n hX dX11_sq_9 0 rfl 10 rfl ?_
    refine rn_get hX inX11 0 rfl rfl 0 (by decide) fl7 rfl rfl dX11_sq_10 13 rfl ?_
    refine rn_iload_n hX dX11_sq_13 1 rfl 14 rfl ?_
    refine rn_iload_n hX dX11_sq_14 2 rfl 15 rfl ?_
    refine rn_callS0 hX (gS mcC wd_1133 wd_1134 wd_81 wd_1135) rfl hdS_X11_pairOf rfl rfl ⟨Nat.le_of_ble_eq_true rfl, Nat.le_of_ble_eq_true rfl⟩ (c_X11_pairOf (zl Z) (zG Z) x1 x2 rfl) rfl [] rfl rfl rfl (Nat.le_of_ble_eq_true rfl) dX11_sq_15 18 rfl (S' := [.int (X11_pairOf x1 x2), .ref a_state]) rfl ⟨Nat.zero_le _, Nat.zero_le _⟩ ?_
    refine rn_gd (fun hi1 => ?_)
    refine rn_iald hX 1 rfl hi1 dX11_sq_18 19 rfl ?_
    refine rn_i2l hX dX11_sq_19 20 rfl ?_
    exact rn_lret hX hr (by rw [henc]; rfl) dX11_sq_20
  refine rn_lconst hX dX11_sq_5 6 rfl lc_0 ?_
  refine rn_goto hX dX11_sq_6 20 (by decide) ?_
  exact rn_lret hX hr (by rw [henc]; rfl) dX11_sq_20
abbrev rmX11_areTold : Room := { frames := 2, cells := 0, slots := 0, locals := 45 }
theorem hdV_X11_areTold : yX11_areTold.cls = RX11 ∧ yX11_areTold.cls ≠ "java/lang/invoke/MethodHandle" ∧ yX11_areTold.cls ≠ "java/lang/invoke/VarHandle" ∧ (parseMethodDescriptor yX11_areTold.desc).map (fun d => d.parameters.length) = some 3 := by decide +kernel
set_option maxHeartbeats 4000000 in
set_option maxRecDepth 100000 in
theorem c_X11_areTold (l : Launch) (G : GT) (a_this a_state a_readPage a_tape a_letters a_sums a_aside a_groups a_sides a_names a_firstNames a_isKept a_lanes a_lengths a_cells a_had : Nat) (g_isAwake : Int32) (g_taped : Int32) (g_fault : Int32) (g_broken : Int32) (g_brokenAt : Int32) (g_spot : Int32) (g_here : Int32) (g_token : Int32) (g_value : Int32) (g_hasPlaces : Int32) (g_highest : Int32) (g_laid : Int32) (g_groupMany : Int32) (g_isDrawn : Int32) (g_torn : Int32) (g_state : (Nat → Int32)) (x1 : Int32) (x2 : Int32) (x3 : Int32) {u : Int32} (hu : X11_areTold x1 x2 x3 g_state = some u) : Ctr l G yX11_areTold wsX11_areTold rmX11_areTold [.ref a_this, .int x1, .int x2, .int x3] [(a_this, .inr (11, [.ref a_state, .ref a_readPage, .int g_isAwake, .ref a_tape, .int g_taped, .int g_fault, .int g_broken, .int g_brokenAt, .int g_spot, .int g_here, .int g_token, .int g_value, .ref a_letters, .int g_hasPlaces, .int g_highest, .ref a_sums, .ref a_aside, .ref a_groups, .ref a_sides, .int g_laid, .int g_groupMany, .int g_isDrawn, .ref a_names, .ref a_firstNames, .ref a_isKept, .ref a_lanes, .ref a_lengths, .ref a_cells, .int g_torn, .ref a_had])), (a_state, .inl (G.2.1 1, 96, .inl g_state))] (some (.int u)) [(a_this, .inr (11, [.ref a_state, .ref a_readPage, .int g_isAwake, .ref a_tape, .int g_taped, .int g_fault, .int g_broken, .int g_brokenAt, .int g_spot, .int g_here, .int g_token, .int g_value, .ref a_letters, .int g_hasPlaces, .int g_highest, .ref a_sums, .ref a_aside, .ref a_groups, .ref a_sides, .int g_laid, .int g_groupMany, .int g_isDrawn, .ref a_names, .ref a_firstNames, .ref a_isKept, .ref a_lanes, .ref a_lengths, .ref a_cells, .int g_torn, .ref a_had])), (a_state, .inl (G.2.1 1, 96, .inl g_state))] := by
  obtain ⟨enc, henc⟩ : ∃ enc : (Int32) → Option Value × va_W, enc = fun u => (((some (.int u)) : Option Value), ([(a_this, .inr (11, [.ref a_state, .ref a_readPage, .int g_isAwake, .ref a_tape, .int g_taped, .int g_fault, .int g_broken, .int g_brokenAt, .int g_spot, .int g_here, .int g_token, .int g_value, .ref a_letters, .int g_hasPlaces, .int g_highest, .ref a_sums, .ref a_aside, .ref a_groups, .ref a_sides, .int g_laid, .int g_groupMany, .int g_isDrawn, .ref a_names, .ref a_firstNames, .ref a_isKept, .ref a_lanes, .ref a_lengths, .ref a_cells, .int g_torn, .ref a_had])), (a_state, .inl (G.2.1 1, 96, .inl g_state))] : va_W)) := ⟨_, rfl⟩
  refine ctr_of (cc := cX11_areTold) (own := RX11) (E := Option.map enc) (o := X11_areTold x1 x2 x3 g_state) (by decide) rfl rfl (L := [(0, .ref a_this), (1, .int x1), (2, .int x2), (3, .int x3)]) rfl (Nat.le_of_ble_eq_true rfl) (by rw [hu, henc]; rfl) ?_
  intro Z hX hl hG hr
  subst hl; subst hG
  unfold X11_areTold
  refine rn_aload_n hX dX11_areTold_0 0 rfl 1 rfl ?_
  refine rn_iload_n hX dX11_areTold_1 1 rfl 2 rfl ?_
  refine rn_iload_n hX dX11_areTold_2 2 rfl 3 rfl ?_
  refine rn_bind (fun u1 hu1 => ?_)
  refine rn_callV0 hX (gV mcC wd_1156 wd_1158 wd_36 wd_81 wd_1159) rfl hdV_X11_sq rfl rfl ⟨Nat.le_of_ble_eq_true rfl, Nat.le_of_ble_eq_true rfl⟩ (c_X11_sq (zl Z) (zG Z) a_this a_state a_readPage a_tape a_letters a_sums a_aside a_groups a_sides a_names a_firstNames a_isKept a_lanes a_lengths a_cells a_had g_isAwake g_taped g_fault g_broken g_brokenAt g_spot g_here g_token g_value g_hasPlaces g_highest g_laid g_groupMany g_isDrawn g_torn g_state x1 x2 hu1) rfl [0, 1] rfl rfl (ci := 11) rfl rfl rfl (Nat.le_of_ble_eq_true rfl) dX11_areTold_3 6 rfl (S' := [.long u1]) rfl ⟨Nat.zero_le _, Nat.zero_le _⟩ ?_
  refine rn_lconst hX dX11_areTold_6 7 rfl lc_0 ?_
  refine rn_lcmp_le hX dX11_areTold_7 8 rfl dX11_areTold_8 37 (by decide) 11 rfl ?_ ?_
  · refine rn_iconst hX dX11_areTold_37 38 rfl ic_0 ?_
    exact rn_zret hX rfl hr (by rw [henc]; rfl) dX11_areTold_38
  refine rn_aload_n hX dX11_areTold_11 0 rfl 12 rfl ?_
  refine rn_iload_n hX dX11_areTold_12 1 rfl 13 rfl ?_
  refine rn_iload_n hX dX11_areTold_13 3 rfl 14 rfl ?_
  refine rn_bind (fun u2 hu2 => ?_)
  refine rn_callV0 hX (gV mcC wd_1156 wd_1158 wd_36 wd_81 wd_1159) rfl hdV_X11_sq rfl rfl ⟨Nat.le_of_ble_eq_true rfl, Nat.le_of_ble_eq_true rfl⟩ (c_X11_sq (zl Z) (zG Z) a_this a_state a_readPage a_tape a_letters a_sums a_aside a_groups a_sides a_names a_firstNames a_isKept a_lanes a_lengths a_cells a_had g_isAwake g_taped g_fault g_broken g_brokenAt g_spot g_here g_token g_value g_hasPlaces g_highest g_laid g_groupMany g_isDrawn g_torn g_state x1 x3 hu2) rfl [0, 1] rfl rfl (ci := 11) rfl rfl rfl (Nat.le_of_ble_eq_true rfl) dX11_areTold_14 17 rfl (S' := [.long u2]) rfl ⟨Nat.zero_le _, Nat.zero_le _⟩ ?_
  refine rn_lconst hX dX11_areTold_17 18 rfl lc_0 ?_
  refine rn_lcmp_le hX dX11_areTold_18 19 rfl dX11_areTold_19 37 (by decide) 22 rfl ?_ ?_
  · refine rn_iconst hX dX11_areTold_37 38 rfl ic_0 ?_
    exact rn_zret hX rfl hr (by rw [henc]; rfl) dX11_areTold_38
  refine rn_aload_n hX dX11_areTold_22 0 rfl 23 rfl ?_
  refine rn_iload_n hX dX11_areTold_23 2 rfl 24 rfl ?_
  refine rn_iload_n hX dX11_areTold_24 3 rfl 25 rfl ?_
  refine rn_bind (fun u3 hu3 => ?_)
  refine rn_callV0 hX (gV mcC wd_1156 wd_1158 wd_36 wd_81 wd_1159) rfl hdV_X11_sq rfl rfl ⟨Nat.le_of_ble_eq_true rfl, Nat.le_of_ble_eq_true rfl⟩ (c_X11_sq (zl Z) (zG Z) a_this a_state a_readPage a_tape a_letters a_sums a_aside a_groups a_sides a_names a_firstNames a_isKept a_lanes a_lengths a_cells a_had g_isAwake g_taped g_fault g_broken g_brokenAt g_spot g_here g_token g_value g_hasPlaces g_highest g_laid g_groupMany g_isDrawn g_torn g_state x2 x3 hu3) rfl [0, 1] rfl rfl (ci := 11) rfl rfl rfl (Nat.le_of_ble_eq_true rfl) dX11_areTold_25 28 rfl (S' := [.long u3]) rfl ⟨Nat.zero_le _, Nat.zero_le _⟩ ?_
  refine rn_lconst hX dX11_areTold_28 29 rfl lc_0 ?_
  refine rn_lcmp_le hX dX11_areTold_29 30 rfl dX11_areTold_30 37 (by decide) 33 rfl ?_ ?_
  · refine rn_iconst hX dX11_areTold_37 38 rfl ic_0 ?_
    exact rn_zret hX rfl hr (by rw [henc]; rfl) dX11_areTold_38
  refine rn_iconst hX dX11_areTold_33 34 rfl ic_1 ?_
  refine rn_goto hX dX11_areTold_34 38 (by decide) ?_
  exact rn_zret hX rfl hr (by rw [henc]; rfl) dX11_areTold_38
abbrev rmX11_allTold : Room := { frames := 3, cells := 0, slots := 0, locals := 68 }
theorem hdV_X11_allTold : yX11_allTold.cls = RX11 ∧ yX11_allTold.cls ≠ "java/lang/invoke/MethodHandle" ∧ yX11_allTold.cls ≠ "java/lang/invoke/VarHandle" ∧ (parseMethodDescriptor yX11_allTold.desc).map (fun d => d.parameters.length) = some 4 := by decide +kernel
set_option maxHeartbeats 4000000 in
set_option maxRecDepth 100000 in
theorem c_X11_allTold (l : Launch) (G : GT) (a_this a_state a_readPage a_tape a_letters a_sums a_aside a_groups a_sides a_names a_firstNames a_isKept a_lanes a_lengths a_cells a_had : Nat) (g_isAwake : Int32) (g_taped : Int32) (g_fault : Int32) (g_broken : Int32) (g_brokenAt : Int32) (g_spot : Int32) (g_here : Int32) (g_token : Int32) (g_value : Int32) (g_hasPlaces : Int32) (g_highest : Int32) (g_laid : Int32) (g_groupMany : Int32) (g_isDrawn : Int32) (g_torn : Int32) (g_state : (Nat → Int32)) (x1 : Int32) (x2 : Int32) (x3 : Int32) (x4 : Int32) {u : Int32} (hu : X11_allTold x1 x2 x3 x4 g_state = some u) : Ctr l G yX11_allTold wsX11_allTold rmX11_allTold [.ref a_this, .int x1, .int x2, .int x3, .int x4] [(a_this, .inr (11, [.ref a_state, .ref a_readPage, .int g_isAwake, .ref a_tape, .int g_taped, .int g_fault, .int g_broken, .int g_brokenAt, .int g_spot, .int g_here, .int g_token, .int g_value, .ref a_letters, .int g_hasPlaces, .int g_highest, .ref a_sums, .ref a_aside, .ref a_groups, .ref a_sides, .int g_laid, .int g_groupMany, .int g_isDrawn, .ref a_names, .ref a_firstNames, .ref a_isKept, .ref a_lanes, .ref a_lengths, .ref a_cells, .int g_torn, .ref a_had])), (a_state, .inl (G.2.1 1, 96, .inl g_state))] (some (.int u)) [(a_this, .inr (11, [.ref a_state, .ref a_readPage, .int g_isAwake, .ref a_tape, .int g_taped, .int g_fault, .int g_broken, .int g_brokenAt, .int g_spot, .int g_here, .int g_token, .int g_value, .ref a_letters, .int g_hasPlaces, .int g_highest, .ref a_sums, .ref a_aside, .ref a_groups, .ref a_sides, .int g_laid, .int g_groupMany, .int g_isDrawn, .ref a_names, .ref a_firstNames, .ref a_isKept, .ref a_lanes, .ref a_lengths, .ref a_cells, .int g_torn, .ref a_had])), (a_state, .inl (G.2.1 1, 96, .inl g_state))] := by
  obtain ⟨enc, henc⟩ : ∃ enc : (Int32) → Option Value × va_W, enc = fun u => (((some (.int u)) : Option Value), ([(a_this, .inr (11, [.ref a_state, .ref a_readPage, .int g_isAwake, .ref a_tape, .int g_taped, .int g_fault, .int g_broken, .int g_brokenAt, .int g_spot, .int g_here, .int g_token, .int g_value, .ref a_letters, .int g_hasPlaces, .int g_highest, .ref a_sums, .ref a_aside, .ref a_groups, .ref a_sides, .int g_laid, .int g_groupMany, .int g_isDrawn, .ref a_names, .ref a_firstNames, .ref a_isKept, .ref a_lanes, .ref a_lengths, .ref a_cells, .int g_torn, .ref a_had])), (a_state, .inl (G.2.1 1, 96, .inl g_state))] : va_W)) := ⟨_, rfl⟩
  refine ctr_of (cc := cX11_allTold) (own := RX11) (E := Option.map enc) (o := X11_allTold x1 x2 x3 x4 g_state) (by decide) rfl rfl (L := [(0, .ref a_this), (1, .int x1), (2, .int x2), (3, .int x3), (4, .int x4)]) rfl (Nat.le_of_ble_eq_true rfl) (by rw [hu, henc]; rfl) ?_
  intro Z hX hl hG hr
  subst hl; subst hG
  unfold X11_allTold
  refine rn_aload_n hX dX11_allTold_0 0 rfl 1 rfl ?_
  refine rn_iload_n hX dX11_allTold_1 1 rfl 2 rfl ?_
  refine rn_iload_n hX dX11_allTold_2 2 rfl 3 rfl ?_
  refine rn_iload_n hX dX11_allTold_3 3 rfl 4 rfl ?_
  refine rn_bind (fun u1 hu1 => ?_)
  refine rn_callV0 hX (gV mcC wd_1182 wd_1184 wd_39 wd_81 wd_1185) rfl hdV_X11_areTold rfl rfl ⟨Nat.le_of_ble_eq_true rfl, Nat.le_of_ble_eq_true rfl⟩ (c_X11_areTold (zl Z) (zG Z) a_this a_state a_readPage a_tape a_letters a_sums a_aside a_groups a_sides a_names a_firstNames a_isKept a_lanes a_lengths a_cells a_had g_isAwake g_taped g_fault g_broken g_brokenAt g_spot g_here g_token g_value g_hasPlaces g_highest g_laid g_groupMany g_isDrawn g_torn g_state x1 x2 x3 hu1) rfl [0, 1] rfl rfl (ci := 11) rfl rfl rfl (Nat.le_of_ble_eq_true rfl) dX11_allTold_4 7 rfl (S' := [.int u1]) rfl ⟨Nat.zero_le _, Nat.zero_le _⟩ ?_
  refine rn_if_eq hX dX11_allTold_7 37 (by decide) 10 rfl ?_ ?_
  · refine rn_iconst hX dX11_allTold_37 38 rfl ic_0 ?_
    exact rn_zret hX rfl hr (by rw [henc]; rfl) dX11_allTold_38
  refine rn_aload_n hX dX11_allTold_10 0 rfl 11 rfl ?_
  refine rn_iload_n hX dX11_allTold_11 1 rfl 12 rfl ?_
  refine rn_iload_n hX dX11_allTold_12 2 rfl 13 rfl ?_
  refine rn_iload hX dX11_allTold_13 4 rfl 15 rfl ?_
  refine rn_bind (fun u2 hu2 => ?_)
  refine rn_callV0 hX (gV mcC wd_1182 wd_1184 wd_39 wd_81 wd_1185) rfl hdV_X11_areTold rfl rfl ⟨Nat.le_of_ble_eq_true rfl, Nat.le_of_ble_eq_true rfl⟩ (c_X11_areTold (zl Z) (zG Z) a_this a_state a_readPage a_tape a_letters a_sums a_aside a_groups a_sides a_names a_firstNames a_isKept a_lanes a_lengths a_cells a_had g_isAwake g_taped g_fault g_broken g_brokenAt g_spot g_here g_token g_value g_hasPlaces g_highest g_laid g_groupMany g_isDrawn g_torn g_state x1 x2 x4 hu2) rfl [0, 1] rfl rfl (ci := 11) rfl rfl rfl (Nat.le_of_ble_eq_true rfl) dX11_allTold_15 18 rfl (S' := [.int u2]) rfl ⟨Nat.zero_le _, Nat.zero_le _⟩ ?_
  refine rn_if_eq hX dX11_allTold_18 37 (by decide) 21 rfl ?_ ?_
  · refine rn_iconst hX dX11_allTold_37 38 rfl ic_0 ?_
    exact rn_zret hX rfl hr (by rw [henc]; rfl) dX11_allTold_38
  refine rn_aload_n hX dX11_allTold_21 0 rfl 22 rfl ?_
  refine rn_iload_n hX dX11_allTold_22 3 rfl 23 rfl ?_
  refine rn_iload hX dX11_allTold_23 4 rfl 25 rfl ?_
  refine rn_bind (fun u3 hu3 => ?_)
  refine rn_callV0 hX (gV mcC wd_1156 wd_1158 wd_36 wd_81 wd_1159) rfl hdV_X11_sq rfl rfl ⟨Nat.le_of_ble_eq_true rfl, Nat.le_of_ble_eq_true rfl⟩ (c_X11_sq (zl Z) (zG Z) a_this a_state a_readPage a_tape a_letters a_sums a_aside a_groups a_sides a_names a_firstNames a_isKept a_lanes a_lengths a_cells a_had g_isAwake g_taped g_fault g_broken g_brokenAt g_spot g_here g_token g_value g_hasPlaces g_highest g_laid g_groupMany g_isDrawn g_torn g_state x3 x4 hu3) rfl [0, 1] rfl rfl (ci := 11) rfl rfl rfl (Nat.le_of_ble_eq_true rfl) dX11_allTold_25 28 rfl (S' := [.long u3]) rfl ⟨Nat.zero_le _, Nat.zero_le _⟩ ?_
  refine rn_lconst hX dX11_allTold_28 29 rfl lc_0 ?_
  refine rn_lcmp_le hX dX11_allTold_29 30 rfl dX11_allTold_30 37 (by decide) 33 rfl ?_ ?_
  · refine rn_iconst hX dX11_allTold_37 38 rfl ic_0 ?_
    exact rn_zret hX rfl hr (by rw [henc]; rfl) dX11_allTold_38
  refine rn_iconst hX dX11_allTold_33 34 rfl ic_1 ?_
  refine rn_goto hX dX11_allTold_34 38 (by decide) ?_
  exact rn_zret hX rfl hr (by rw [henc]; rfl) dX11_allTold_38
abbrev rmX11_far : Room := { frames := 3, cells := 0, slots := 0, locals := 68 }
theorem hdV_X11_far : yX11_far.cls = RX11 ∧ yX11_far.cls ≠ "java/lang/invoke/MethodHandle" ∧ yX11_far.cls ≠ "java/lang/invoke/VarHandle" ∧ (parseMethodDescriptor yX11_far.desc).map (fun d => d.parameters.length) = some 2 := by decide +kernel
set_option maxHeartbeats 4000000 in
set_option maxRecDepth 100000 in
theorem c_X11_far (l : Launch) (G : GT) (a_this a_state a_readPage a_tape a_letters a_sums a_aside a_groups a_sides a_names a_firstNames a_isKept a_lanes a_lengths a_cells a_had : Nat) (g_isAwake : Int32) (g_taped : Int32) (g_fault : Int32) (g_broken : Int32) (g_brokenAt : Int32) (g_spot : Int32) (g_here : Int32) (g_token : Int32) (g_value : Int32) (g_hasPlaces : Int32) (g_highest : Int32) (g_laid : Int32) (g_groupMany : Int32) (g_isDrawn : Int32) (g_torn : Int32) (g_state : (Nat → Int32)) (x1 : Int32) (x2 : Int32) {u : Int32 × Int32 × (Nat → Int32)} (hu : X11_far x1 x2 g_isAwake g_state = some u) : Ctr l G yX11_far wsX11_far rmX11_far [.ref a_this, .int x1, .int x2] [(a_this, .inr (11, [.ref a_state, .ref a_readPage, .int g_isAwake, .ref a_tape, .int g_taped, .int g_fault, .int g_broken, .int g_brokenAt, .int g_spot, .int g_here, .int g_token, .int g_value, .ref a_letters, .int g_hasPlaces, .int g_highest, .ref a_sums, .ref a_aside, .ref a_groups, .ref a_sides, .int g_laid, .int g_groupMany, .int g_isDrawn, .ref a_names, .ref a_firstNames, .ref a_isKept, .ref a_lanes, .ref a_lengths, .ref a_cells, .int g_torn, .ref a_had])), (a_state, .inl (G.2.1 1, 96, .inl g_state))] (some (.int u.1)) [(a_this, .inr (11, [.ref a_state, .ref a_readPage, .int u.2.1, .ref a_tape, .int g_taped, .int g_fault, .int g_broken, .int g_brokenAt, .int g_spot, .int g_here, .int g_token, .int g_value, .ref a_letters, .int g_hasPlaces, .int g_highest, .ref a_sums, .ref a_aside, .ref a_groups, .ref a_sides, .int g_laid, .int g_groupMany, .int g_isDrawn, .ref a_names, .ref a_firstNames, .ref a_isKept, .ref a_lanes, .ref a_lengths, .ref a_cells, .int g_torn, .ref a_had])), (a_state, .inl (G.2.1 1, 96, .inl u.2.2))] := by
  obtain ⟨enc, henc⟩ : ∃ enc : (Int32 × Int32 × (Nat → Int32)) → Option Value × va_W, enc = fun u => (((some (.int u.1)) : Option Value), ([(a_this, .inr (11, [.ref a_state, .ref a_readPage, .int u.2.1, .ref a_tape, .int g_taped, .int g_fault, .int g_broken, .int g_brokenAt, .int g_spot, .int g_here, .int g_token, .int g_value, .ref a_letters, .int g_hasPlaces, .int g_highest, .ref a_sums, .ref a_aside, .ref a_groups, .ref a_sides, .int g_laid, .int g_groupMany, .int g_isDrawn, .ref a_names, .ref a_firstNames, .ref a_isKept, .ref a_lanes, .ref a_lengths, .ref a_cells, .int g_torn, .ref a_had])), (a_state, .inl (G.2.1 1, 96, .inl u.2.2))] : va_W)) := ⟨_, rfl⟩
  refine ctr_of (cc := cX11_far) (own := RX11) (E := Option.map enc) (o := X11_far x1 x2 g_isAwake g_state) (by decide) rfl rfl (L := [(0, .ref a_this), (1, .int x1), (2, .int x2)]) rfl (Nat.le_of_ble_eq_true rfl) (by rw [hu, henc]; rfl) ?_
  intro Z hX hl hG hr
  subst hl; subst hG
  unfold X11_far
  refine rn_aload_n hX dX11_far_0 0 rfl 1 rfl ?_
  refine rn_iload_n hX dX11_far_1 1 rfl 2 rfl ?_
  refine rn_iload_n hX dX11_far_2 2 rfl 3 rfl ?_
  refine rn_bind (fun u1 hu1 => ?_)
  refine rn_callV hX (gV mcC wd_1144 wd_1146 wd_33 wd_81 wd_1147) rfl hdV_X11_areTwo rfl rfl ⟨Nat.le_of_ble_eq_true rfl, Nat.le_of_ble_eq_true rfl⟩ (c_X11_areTwo (zl Z) (zG Z) a_this a_state a_readPage a_tape a_letters a_sums a_aside a_groups a_sides a_names a_firstNames a_isKept a_lanes a_lengths a_cells a_had g_isAwake g_taped g_fault g_broken g_brokenAt g_spot g_here g_token g_value g_hasPlaces g_highest g_laid g_groupMany g_isDrawn g_torn g_state x1 x2 hu1) rfl [0, 1] rfl rfl rfl (ci := 11) rfl rfl rfl (Nat.le_of_ble_eq_true rfl) dX11_far_3 6 rfl (wn := [(a_this, .inr (11, [.ref a_state, .ref a_readPage, .int u1.2.1, .ref a_tape, .int g_taped, .int g_fault, .int g_broken, .int g_brokenAt, .int g_spot, .int g_here, .int g_token, .int g_value, .ref a_letters, .int g_hasPlaces, .int g_highest, .ref a_sums, .ref a_aside, .ref a_groups, .ref a_sides, .int g_laid, .int g_groupMany, .int g_isDrawn, .ref a_names, .ref a_firstNames, .ref a_isKept, .ref a_lanes, .ref a_lengths, .ref a_cells, .int g_torn, .ref a_had])), (a_state, .inl ((zG Z).2.1 1, 96, .inl u1.2.2))]) rfl (S' := [.int u1.1]) rfl ⟨Nat.zero_le _, Nat.zero_le _⟩ ?_
  refine rn_if_ne hX dX11_far_6 11 (by decide) 9 rfl ?_ ?_
  · refine rn_aload_n hX dX11_far_11 0 rfl 12 rfl ?_
    refine rn_iload_n hX dX11_far_12 1 rfl 13 rfl ?_
    refine rn_iload_n hX dX11_far_13 2 rfl 14 rfl ?_
    refine rn_bind (fun u2 hu2 => ?_)
    refine rn_callV0 hX (gV mcC wd_1156 wd_1158 wd_36 wd_81 wd_1159) rfl hdV_X11_sq rfl rfl ⟨Nat.le_of_ble_eq_true rfl, Nat.le_of_ble_eq_true rfl⟩ (c_X11_sq (zl Z) (zG Z) a_this a_state a_readPage a_tape a_letters a_sums a_aside a_groups a_sides a_names a_firstNames a_isKept a_lanes a_lengths a_cells a_had u1.2.1 g_taped g_fault g_broken g_brokenAt g_spot g_here g_token g_value g_hasPlaces g_highest g_laid g_groupMany g_isDrawn g_torn u1.2.2 x1 x2 hu2) rfl [0, 1] rfl rfl (ci := 11) rfl rfl rfl (Nat.le_of_ble_eq_true rfl) dX11_far_14 17 rfl (S' := [.long u2]) rfl ⟨Nat.zero_le _, Nat.zero_le _⟩ ?_
    refine rn_lconst hX dX11_far_17 18 rfl lc_0 ?_
    refine rn_lcmp_ne hX dX11_far_18 19 rfl dX11_far_19 27 (by decide) 22 rfl ?_ ?_
    · refine rn_aload_n hX dX11_far_27 0 rfl 28 rfl ?_
      refine rn_iload_n hX dX11_far_28 1 rfl 29 rfl ?_
      refine rn_iload_n hX dX11_far_29 2 rfl 30 rfl ?_
      refine rn_bind (fun u3 hu3 => ?_)
      refine rn_callV0 hX (gV mcC wd_1156 wd_1158 wd_36 wd_81 wd_1159) rfl hdV_X11_sq rfl rfl ⟨Nat.le_of_ble_eq_true rfl, Nat.le_of_ble_eq_true rfl⟩ (c_X11_sq (zl Z) (zG Z) a_this a_state a_readPage a_tape a_letters a_sums a_aside a_groups a_sides a_names a_firstNames a_isKept a_lanes a_lengths a_cells a_had u1.2.1 g_taped g_fault g_broken g_brokenAt g_spot g_here g_token g_value g_hasPlaces g_highest g_laid g_groupMany g_isDrawn g_torn u1.2.2 x1 x2 hu3) rfl [0, 1] rfl rfl (ci := 11) rfl rfl rfl (Nat.le_of_ble_eq_true rfl) dX11_far_30 33 rfl (S' := [.long u3]) rfl ⟨Nat.zero_le _, Nat.zero_le _⟩ ?_
      refine rn_l2i hX dX11_far_33 34 rfl ?_
      exact rn_iret hX hr (by rw [henc]; rfl) dX11_far_34
    refine rn_bipush hX dX11_far_22 24 rfl bp_m4 ?_
    refine rn_goto hX dX11_far_24 34 (by decide) ?_
    exact rn_iret hX hr (by rw [henc]; rfl) dX11_far_34
  refine rn_iconst hX dX11_far_9 10 rfl ic_m1 ?_
  exact rn_iret hX hr (by rw [henc]; rfl) dX11_far_10
abbrev rmX11_tells2 : Room := { frames := 3, cells := 0, slots := 0, locals := 68 }
theorem hdV_X11_tells2 : yX11_tells2.cls = RX11 ∧ yX11_tells2.cls ≠ "java/lang/invoke/MethodHandle" ∧ yX11_tells2.cls ≠ "java/lang/invoke/VarHandle" ∧ (parseMethodDescriptor yX11_tells2.desc).map (fun d => d.parameters.length) = some 3 := by decide +kernel
set_option maxHeartbeats 4000000 in
set_option maxRecDepth 100000 in
theorem c_X11_tells2 (l : Launch) (G : GT) (a_this a_state a_readPage a_tape a_letters a_sums a_aside a_groups a_sides a_names a_firstNames a_isKept a_lanes a_lengths a_cells a_had : Nat) (g_isAwake : Int32) (g_taped : Int32) (g_fault : Int32) (g_broken : Int32) (g_brokenAt : Int32) (g_spot : Int32) (g_here : Int32) (g_token : Int32) (g_value : Int32) (g_hasPlaces : Int32) (g_highest : Int32) (g_laid : Int32) (g_groupMany : Int32) (g_isDrawn : Int32) (g_torn : Int32) (g_state : (Nat → Int32)) (x1 : Int32) (x2 : Int32) (x3 : Int32) {u : Int32 × Int32 × (Nat → Int32)} (hu : X11_tells2 x1 x2 x3 g_isAwake g_state = some u) : Ctr l G yX11_tells2 wsX11_tells2 rmX11_tells2 [.ref a_this, .int x1, .int x2, .int x3] [(a_this, .inr (11, [.ref a_state, .ref a_readPage, .int g_isAwake, .ref a_tape, .int g_taped, .int g_fault, .int g_broken, .int g_brokenAt, .int g_spot, .int g_here, .int g_token, .int g_value, .ref a_letters, .int g_hasPlaces, .int g_highest, .ref a_sums, .ref a_aside, .ref a_groups, .ref a_sides, .int g_laid, .int g_groupMany, .int g_isDrawn, .ref a_names, .ref a_firstNames, .ref a_isKept, .ref a_lanes, .ref a_lengths, .ref a_cells, .int g_torn, .ref a_had])), (a_state, .inl (G.2.1 1, 96, .inl g_state))] (some (.int u.1)) [(a_this, .inr (11, [.ref a_state, .ref a_readPage, .int u.2.1, .ref a_tape, .int g_taped, .int g_fault, .int g_broken, .int g_brokenAt, .int g_spot, .int g_here, .int g_token, .int g_value, .ref a_letters, .int g_hasPlaces, .int g_highest, .ref a_sums, .ref a_aside, .ref a_groups, .ref a_sides, .int g_laid, .int g_groupMany, .int g_isDrawn, .ref a_names, .ref a_firstNames, .ref a_isKept, .ref a_lanes, .ref a_lengths, .ref a_cells, .int g_torn, .ref a_had])), (a_state, .inl (G.2.1 1, 96, .inl u.2.2))] := by
  obtain ⟨enc, henc⟩ : ∃ enc : (Int32 × Int32 × (Nat → Int32)) → Option Value × va_W, enc = fun u => (((some (.int u.1)) : Option Value), ([(a_this, .inr (11, [.ref a_state, .ref a_readPage, .int u.2.1, .ref a_tape, .int g_taped, .int g_fault, .int g_broken, .int g_brokenAt, .int g_spot, .int g_here, .int g_token, .int g_value, .ref a_letters, .int g_hasPlaces, .int g_highest, .ref a_sums, .ref a_aside, .ref a_groups, .ref a_sides, .int g_laid, .int g_groupMany, .int g_isDrawn, .ref a_names, .ref a_firstNames, .ref a_isKept, .ref a_lanes, .ref a_lengths, .ref a_cells, .int g_torn, .ref a_had])), (a_state, .inl (G.2.1 1, 96, .inl u.2.2))] : va_W)) := ⟨_, rfl⟩
  refine ctr_of (cc := cX11_tells2) (own := RX11) (E := Option.map enc) (o := X11_tells2 x1 x2 x3 g_isAwake g_state) (by decide) rfl rfl (L := [(0, .ref a_this), (1, .int x1), (2, .int x2), (3, .int x3)]) rfl (Nat.le_of_ble_eq_true rfl) (by rw [hu, henc]; rfl) ?_
  intro Z hX hl hG hr
  subst hl; subst hG
  have fl7 : (Cond.fieldLink RX11 7 "OnlyFarModel" "state" "[I").before (za Z) (zs Z) = true := hX.wd (mcC _ wd_990)
  have kl156 : (Cond.constantLong RX11 156 (9999)).before (za Z) (zs Z) = true := hX.wd (mcC _ wd_1168)
  have inX11 : ∀ w ∈ u_ws RX11 TX11 30, w ∈ wsX11_tells2 := fun w h => mcC w (inC_X11 w h)
  have hJ52 : ∀ (x1 : Int32) (x2 : Int32) (x3 : Int32) (s0 : Int32) (g_isAwake : Int32) (g_state : (Nat → Int32)), Rn Z 5 (Option.map enc) 0 0 52 [(0, .ref a_this), (1, .int x1), (2, .int x2), (3, .int x3)] [.int s0] [(a_this, .inr (11, [.ref a_state, .ref a_readPage, .int g_isAwake, .ref a_tape, .int g_taped, .int g_fault, .int g_broken, .int g_brokenAt, .int g_spot, .int g_here, .int g_token, .int g_value, .ref a_letters, .int g_hasPlaces, .int g_highest, .ref a_sums, .ref a_aside, .ref a_groups, .ref a_sides, .int g_laid, .int g_groupMany, .int g_isDrawn, .ref a_names, .ref a_firstNames, .ref a_isKept, .ref a_lanes, .ref a_lengths, .ref a_cells, .int g_torn, .ref a_had])), (a_state, .inl ((zG Z).2.1 1, 96, .inl g_state))] (X11_tells2_J52 x1 x2 x3 s0 g_isAwake g_state) := by
    intro x1 x2 x3 s0 g_isAwake g_state
    unfold X11_tells2_J52
    refine rn_istore hX dX11_tells2_52 (by decide) (L' := [(4, .int s0), (0, .ref a_this), (1, .int x1), (2, .int x2), (3, .int x3)]) rfl 54 rfl ?_
    refine rn_aload_n hX dX11_tells2_54 1 rfl 55 rfl ?_
    refine rn_get hX inX11 0 rfl rfl 0 (by decide) fl7 rfl rfl dX11_tells2_55 58 rfl ?_
    refine rn_iload_n hX dX11_tells2_58 2 rfl 59 rfl ?_
    refine rn_iload_n hX dX11_tells2_59 3 rfl 60 rfl ?_
    refine rn_callS0 hX (gS mcC wd_1133 wd_1134 wd_81 wd_1135) rfl hdS_X11_pairOf rfl rfl ⟨Nat.le_of_ble_eq_true rfl, Nat.le_of_ble_eq_true rfl⟩ (c_X11_pairOf (zl Z) (zG Z) x1 x2 rfl) rfl [] rfl rfl rfl (Nat.le_of_ble_eq_true rfl) dX11_tells2_60 63 rfl (S' := [.int (X11_pairOf x1 x2), .ref a_state]) rfl ⟨Nat.zero_le _, Nat.zero_le _⟩ ?_
    refine rn_iload_n hX dX11_tells2_63 4 rfl 64 rfl ?_
    refine rn_bipush hX dX11_tells2_64 66 rfl bp_m4 ?_
    refine rn_icmp_ne hX dX11_tells2_66 73 (by decide) 69 rfl ?_ ?_
    · refine rn_iload_n hX dX11_tells2_73 4 rfl 74 rfl ?_
      refine rn_gd (fun hi1 => ?_)
      refine rn_iast hX 1 rfl hi1 dX11_tells2_74 75 rfl (w1 := fun m2 => [(a_this, .inr (11, [.ref a_state, .ref a_readPage, .int g_isAwake, .ref a_tape, .int g_taped, .int g_fault, .int g_broken, .int g_brokenAt, .int g_spot, .int g_here, .int g_token, .int g_value, .ref a_letters, .int g_hasPlaces, .int g_highest, .ref a_sums, .ref a_aside, .ref a_groups, .ref a_sides, .int g_laid, .int g_groupMany, .int g_isDrawn, .ref a_names, .ref a_firstNames, .ref a_isKept, .ref a_lanes, .ref a_lengths, .ref a_cells, .int g_torn, .ref a_had])), (a_state, .inl ((zG Z).2.1 1, 96, .inl m2))]) (fun _ => rfl) (fun m2 => ?_)
      refine rn_iload hX dX11_tells2_75 0 rfl 77 rfl ?_
      exact rn_iret hX hr (by rw [henc]; rfl) dX11_tells2_77
    refine rn_iconst hX dX11_tells2_69 70 rfl ic_0 ?_
    refine rn_goto hX dX11_tells2_70 74 (by decide) ?_
    refine rn_gd (fun hi3 => ?_)
    refine rn_iast hX 1 rfl hi3 dX11_tells2_74 75 rfl (w1 := fun m4 => [(a_this, .inr (11, [.ref a_state, .ref a_readPage, .int g_isAwake, .ref a_tape, .int g_taped, .int g_fault, .int g_broken, .int g_brokenAt, .int g_spot, .int g_here, .int g_token, .int g_value, .ref a_letters, .int g_hasPlaces, .int g_highest, .ref a_sums, .ref a_aside, .ref a_groups, .ref a_sides, .int g_laid, .int g_groupMany, .int g_isDrawn, .ref a_names, .ref a_firstNames, .ref a_isKept, .ref a_lanes, .ref a_lengths, .ref a_cells, .int g_torn, .ref a_had])), (a_state, .inl ((zG Z).2.1 1, 96, .inl m4))]) (fun _ => rfl) (fun m4 => ?_)
    refine rn_iload hX dX11_tells2_75 0 rfl 77 rfl ?_
    exact rn_iret hX hr (by rw [henc]; rfl) dX11_tells2_77
  have hJ29 : ∀ (x1 : Int32) (x2 : Int32) (x3 : Int32) (g_isAwake : Int32) (g_state : (Nat → Int32)), Rn Z 5 (Option.map enc) 0 0 29 [(0, .ref a_this), (1, .int x1), (2, .int x2), (3, .int x3)] [] [(a_this, .inr (11, [.ref a_state, .ref a_readPage, .int g_isAwake, .ref a_tape, .int g_taped, .int g_fault, .int g_broken, .int g_brokenAt, .int g_spot, .int g_here, .int g_token, .int g_value, .ref a_letters, .int g_hasPlaces, .int g_highest, .ref a_sums, .ref a_aside, .ref a_groups, .ref a_sides, .int g_laid, .int g_groupMany, .int g_isDrawn, .ref a_names, .ref a_firstNames, .ref a_isKept, .ref a_lanes, .ref a_lengths, .ref a_cells, .int g_torn, .ref a_had])), (a_state, .inl ((zG Z).2.1 1, 96, .inl g_state))] (X11_tells2_J29 x1 x2 x3 g_isAwake g_state) := by
    intro x1 x2 x3 g_isAwake g_state
    unfold X11_tells2_J29
    refine rn_aload_n hX dX11_tells2_29 0 rfl 30 rfl ?_
    refine rn_iload_n hX dX11_tells2_30 1 rfl 31 rfl ?_
    refine rn_iload_n hX dX11_tells2_31 2 rfl 32 rfl ?_
    refine rn_bind (fun u5 hu5 => ?_)
    refine rn_callV0 hX (gV mcC wd_1156 wd_1158 wd_36 wd_81 wd_1159) rfl hdV_X11_sq rfl rfl ⟨Nat.le_of_ble_eq_true rfl, Nat.le_of_ble_eq_true rfl⟩ (c_X11_sq (zl Z) (zG Z) a_this a_state a_readPage a_tape a_letters a_sums a_aside a_groups a_sides a_names a_firstNames a_isKept a_lanes a_lengths a_cells a_had g_isAwake g_taped g_fault g_broken g_brokenAt g_spot g_here g_token g_value g_hasPlaces g_highest g_laid g_groupMany g_isDrawn g_torn g_state x1 x2 hu5) rfl [0, 1] rfl rfl (ci := 11) rfl rfl rfl (Nat.le_of_ble_eq_true rfl) dX11_tells2_32 35 rfl (S' := [.long u5]) rfl ⟨Nat.zero_le _, Nat.zero_le _⟩ ?_
    refine rn_lconst hX dX11_tells2_35 36 rfl lc_0 ?_
    refine rn_lcmp_ne hX dX11_tells2_36 37 rfl dX11_tells2_37 45 (by decide) 40 rfl ?_ ?_
    · refine rn_aload_n hX dX11_tells2_45 0 rfl 46 rfl ?_
      refine rn_iload_n hX dX11_tells2_46 1 rfl 47 rfl ?_
      refine rn_iload_n hX dX11_tells2_47 2 rfl 48 rfl ?_
      refine rn_bind (fun u6 hu6 => ?_)
      refine rn_callV0 hX (gV mcC wd_1156 wd_1158 wd_36 wd_81 wd_1159) rfl hdV_X11_sq rfl rfl ⟨Nat.le_of_ble_eq_true rfl, Nat.le_of_ble_eq_true rfl⟩ (c_X11_sq (zl Z) (zG Z) a_this a_state a_readPage a_tape a_letters a_sums a_aside a_groups a_sides a_names a_firstNames a_isKept a_lanes a_lengths a_cells a_had g_isAwake g_taped g_fault g_broken g_brokenAt g_spot g_here g_token g_value g_hasPlaces g_highest g_laid g_groupMany g_isDrawn g_torn g_state x1 x2 hu6) rfl [0, 1] rfl rfl (ci := 11) rfl rfl rfl (Nat.le_of_ble_eq_true rfl) dX11_tells2_48 51 rfl (S' := [.long u6]) rfl ⟨Nat.zero_le _, Nat.zero_le _⟩ ?_
      refine rn_l2i hX dX11_tells2_51 52 rfl ?_
      exact hJ52 x1 x2 x3 u6.toInt32 g_isAwake g_state
    refine rn_bipush hX dX11_tells2_40 42 rfl bp_m4 ?_
    refine rn_goto hX dX11_tells2_42 52 (by decide) ?_
    exact hJ52 x1 x2 x3 (-4 : Int32) g_isAwake g_state
  unfold X11_tells2
  refine rn_aload_n hX dX11_tells2_0 0 rfl 1 rfl ?_
  refine rn_iload_n hX dX11_tells2_1 1 rfl 2 rfl ?_
  refine rn_iload_n hX dX11_tells2_2 2 rfl 3 rfl ?_
  refine rn_bind (fun u7 hu7 => ?_)
  refine rn_callV hX (gV mcC wd_1144 wd_1146 wd_33 wd_81 wd_1147) rfl hdV_X11_areTwo rfl rfl ⟨Nat.le_of_ble_eq_true rfl, Nat.le_of_ble_eq_true rfl⟩ (c_X11_areTwo (zl Z) (zG Z) a_this a_state a_readPage a_tape a_letters a_sums a_aside a_groups a_sides a_names a_firstNames a_isKept a_lanes a_lengths a_cells a_had g_isAwake g_taped g_fault g_broken g_brokenAt g_spot g_here g_token g_value g_hasPlaces g_highest g_laid g_groupMany g_isDrawn g_torn g_state x1 x2 hu7) rfl [0, 1] rfl rfl rfl (ci := 11) rfl rfl rfl (Nat.le_of_ble_eq_true rfl) dX11_tells2_3 6 rfl (wn := [(a_this, .inr (11, [.ref a_state, .ref a_readPage, .int u7.2.1, .ref a_tape, .int g_taped, .int g_fault, .int g_broken, .int g_brokenAt, .int g_spot, .int g_here, .int g_token, .int g_value, .ref a_letters, .int g_hasPlaces, .int g_highest, .ref a_sums, .ref a_aside, .ref a_groups, .ref a_sides, .int g_laid, .int g_groupMany, .int g_isDrawn, .ref a_names, .ref a_firstNames, .ref a_isKept, .ref a_lanes, .ref a_lengths, .ref a_cells, .int g_torn, .ref a_had])), (a_state, .inl ((zG Z).2.1 1, 96, .inl u7.2.2))]) rfl (S' := [.int u7.1]) rfl ⟨Nat.zero_le _, Nat.zero_le _⟩ ?_
  refine rn_if_eq hX dX11_tells2_6 27 (by decide) 9 rfl ?_ ?_
  · refine rn_iconst hX dX11_tells2_27 28 rfl ic_m1 ?_
    exact rn_iret hX hr (by rw [henc]; rfl) dX11_tells2_28
  refine rn_iload_n hX dX11_tells2_9 3 rfl 10 rfl ?_
  refine rn_i2l hX dX11_tells2_10 11 rfl ?_
  refine rn_lconst hX dX11_tells2_11 12 rfl lc_1 ?_
  refine rn_ldc2 hX kl156 dX11_tells2_12 15 rfl ?_
  refine rn_callS0 hX (gS mcC wd_1090 wd_1091 wd_81 wd_1092) rfl hdS_X11_in rfl rfl ⟨Nat.le_of_ble_eq_true rfl, Nat.le_of_ble_eq_true rfl⟩ (c_X11_in (zl Z) (zG Z) x3.toInt64 (1 : Int64) (9999 : Int64) rfl) rfl [] rfl rfl rfl (Nat.le_of_ble_eq_true rfl) dX11_tells2_15 18 rfl (S' := [.int (X11_in x3.toInt64 (1 : Int64) (9999 : Int64))]) rfl ⟨Nat.zero_le _, Nat.zero_le _⟩ ?_
  refine rn_if_ne hX dX11_tells2_18 29 (by decide) 21 rfl ?_ ?_
  · exact hJ29 x1 x2 x3 u7.2.1 u7.2.2
  refine rn_iload_n hX dX11_tells2_21 3 rfl 22 rfl ?_
  refine rn_bipush hX dX11_tells2_22 24 rfl bp_m4 ?_
  refine rn_icmp_eq hX dX11_tells2_24 29 (by decide) 27 rfl ?_ ?_
  · exact hJ29 x1 x2 x3 u7.2.1 u7.2.2
  refine rn_iconst hX dX11_tells2_27 28 rfl ic_m1 ?_
  exact rn_iret hX hr (by rw [henc]; rfl) dX11_tells2_28
abbrev rmX11_tell : Room := { frames := 4, cells := 0, slots := 0, locals := 92 }
theorem hdV_X11_tell : yX11_tell.cls = RX11 ∧ yX11_tell.cls ≠ "java/lang/invoke/MethodHandle" ∧ yX11_tell.cls ≠ "java/lang/invoke/VarHandle" ∧ (parseMethodDescriptor yX11_tell.desc).map (fun d => d.parameters.length) = some 3 := by decide +kernel
set_option maxHeartbeats 4000000 in
set_option maxRecDepth 100000 in
theorem c_X11_tell (l : Launch) (G : GT) (a_this a_state a_readPage a_tape a_letters a_sums a_aside a_groups a_sides a_names a_firstNames a_isKept a_lanes a_lengths a_cells a_had : Nat) (g_isAwake : Int32) (g_taped : Int32) (g_fault : Int32) (g_broken : Int32) (g_brokenAt : Int32) (g_spot : Int32) (g_here : Int32) (g_token : Int32) (g_value : Int32) (g_hasPlaces : Int32) (g_highest : Int32) (g_laid : Int32) (g_groupMany : Int32) (g_isDrawn : Int32) (g_torn : Int32) (g_state : (Nat → Int32)) (x1 : Int32) (x2 : Int32) (x3 : Int32) {u : Int32 × Int32 × (Nat → Int32)} (hu : X11_tell x1 x2 x3 g_isAwake g_state = some u) : Ctr l G yX11_tell wsX11_tell rmX11_tell [.ref a_this, .int x1, .int x2, .int x3] [(a_this, .inr (11, [.ref a_state, .ref a_readPage, .int g_isAwake, .ref a_tape, .int g_taped, .int g_fault, .int g_broken, .int g_brokenAt, .int g_spot, .int g_here, .int g_token, .int g_value, .ref a_letters, .int g_hasPlaces, .int g_highest, .ref a_sums, .ref a_aside, .ref a_groups, .ref a_sides, .int g_laid, .int g_groupMany, .int g_isDrawn, .ref a_names, .ref a_firstNames, .ref a_isKept, .ref a_lanes, .ref a_lengths, .ref a_cells, .int g_torn, .ref a_had])), (a_state, .inl (G.2.1 1, 96, .inl g_state))] (some (.int u.1)) [(a_this, .inr (11, [.ref a_state, .ref a_readPage, .int u.2.1, .ref a_tape, .int g_taped, .int g_fault, .int g_broken, .int g_brokenAt, .int g_spot, .int g_here, .int g_token, .int g_value, .ref a_letters, .int g_hasPlaces, .int g_highest, .ref a_sums, .ref a_aside, .ref a_groups, .ref a_sides, .int g_laid, .int g_groupMany, .int g_isDrawn, .ref a_names, .ref a_firstNames, .ref a_isKept, .ref a_lanes, .ref a_lengths, .ref a_cells, .int g_torn, .ref a_had])), (a_state, .inl (G.2.1 1, 96, .inl u.2.2))] := by
  obtain ⟨enc, henc⟩ : ∃ enc : (Int32 × Int32 × (Nat → Int32)) → Option Value × va_W, enc = fun u => (((some (.int u.1)) : Option Value), ([(a_this, .inr (11, [.ref a_state, .ref a_readPage, .int u.2.1, .ref a_tape, .int g_taped, .int g_fault, .int g_broken, .int g_brokenAt, .int g_spot, .int g_here, .int g_token, .int g_value, .ref a_letters, .int g_hasPlaces, .int g_highest, .ref a_sums, .ref a_aside, .ref a_groups, .ref a_sides, .int g_laid, .int g_groupMany, .int g_isDrawn, .ref a_names, .ref a_firstNames, .ref a_isKept, .ref a_lanes, .ref a_lengths, .ref a_cells, .int g_torn, .ref a_had])), (a_state, .inl (G.2.1 1, 96, .inl u.2.2))] : va_W)) := ⟨_, rfl⟩
  refine ctr_of (cc := cX11_tell) (own := RX11) (E := Option.map enc) (o := X11_tell x1 x2 x3 g_isAwake g_state) (by decide) rfl rfl (L := [(0, .ref a_this), (1, .int x1), (2, .int x2), (3, .int x3)]) rfl (Nat.le_of_ble_eq_true rfl) (by rw [hu, henc]; rfl) ?_
  intro Z hX hl hG hr
  subst hl; subst hG
  unfold X11_tell
  refine rn_aload_n hX dX11_tell_0 0 rfl 1 rfl ?_
  refine rn_iload_n hX dX11_tell_1 1 rfl 2 rfl ?_
  refine rn_iload_n hX dX11_tell_2 2 rfl 3 rfl ?_
  refine rn_iload_n hX dX11_tell_3 3 rfl 4 rfl ?_
  refine rn_bind (fun u1 hu1 => ?_)
  refine rn_callV hX (gV mcC wd_1164 wd_1166 wd_37 wd_81 wd_1167) rfl hdV_X11_tells2 rfl rfl ⟨Nat.le_of_ble_eq_true rfl, Nat.le_of_ble_eq_true rfl⟩ (c_X11_tells2 (zl Z) (zG Z) a_this a_state a_readPage a_tape a_letters a_sums a_aside a_groups a_sides a_names a_firstNames a_isKept a_lanes a_lengths a_cells a_had g_isAwake g_taped g_fault g_broken g_brokenAt g_spot g_here g_token g_value g_hasPlaces g_highest g_laid g_groupMany g_isDrawn g_torn g_state x1 x2 x3 hu1) rfl [0, 1] rfl rfl rfl (ci := 11) rfl rfl rfl (Nat.le_of_ble_eq_true rfl) dX11_tell_4 7 rfl (wn := [(a_this, .inr (11, [.ref a_state, .ref a_readPage, .int u1.2.1, .ref a_tape, .int g_taped, .int g_fault, .int g_broken, .int g_brokenAt, .int g_spot, .int g_here, .int g_token, .int g_value, .ref a_letters, .int g_hasPlaces, .int g_highest, .ref a_sums, .ref a_aside, .ref a_groups, .ref a_sides, .int g_laid, .int g_groupMany, .int g_isDrawn, .ref a_names, .ref a_firstNames, .ref a_isKept, .ref a_lanes, .ref a_lengths, .ref a_cells, .int g_torn, .ref a_had])), (a_state, .inl ((zG Z).2.1 1, 96, .inl u1.2.2))]) rfl (S' := [.int u1.1]) rfl ⟨Nat.zero_le _, Nat.zero_le _⟩ ?_
  exact rn_iret hX hr (by rw [henc]; rfl) dX11_tell_7
abbrev rmX11_pair : Room := { frames := 3, cells := 0, slots := 0, locals := 68 }
theorem hdV_X11_pair : yX11_pair.cls = RX11 ∧ yX11_pair.cls ≠ "java/lang/invoke/MethodHandle" ∧ yX11_pair.cls ≠ "java/lang/invoke/VarHandle" ∧ (parseMethodDescriptor yX11_pair.desc).map (fun d => d.parameters.length) = some 2 := by decide +kernel
set_option maxHeartbeats 4000000 in
set_option maxRecDepth 100000 in
theorem c_X11_pair (l : Launch) (G : GT) (a_this a_state a_readPage a_tape a_letters a_sums a_aside a_groups a_sides a_names a_firstNames a_isKept a_lanes a_lengths a_cells a_had : Nat) (g_isAwake : Int32) (g_taped : Int32) (g_fault : Int32) (g_broken : Int32) (g_brokenAt : Int32) (g_spot : Int32) (g_here : Int32) (g_token : Int32) (g_value : Int32) (g_hasPlaces : Int32) (g_highest : Int32) (g_laid : Int32) (g_groupMany : Int32) (g_isDrawn : Int32) (g_torn : Int32) (g_state : (Nat → Int32)) (x1 : Int32) (x2 : Int32) {u : Int32 × Int32 × (Nat → Int32)} (hu : X11_pair x1 x2 g_isAwake g_state = some u) : Ctr l G yX11_pair wsX11_pair rmX11_pair [.ref a_this, .int x1, .int x2] [(a_this, .inr (11, [.ref a_state, .ref a_readPage, .int g_isAwake, .ref a_tape, .int g_taped, .int g_fault, .int g_broken, .int g_brokenAt, .int g_spot, .int g_here, .int g_token, .int g_value, .ref a_letters, .int g_hasPlaces, .int g_highest, .ref a_sums, .ref a_aside, .ref a_groups, .ref a_sides, .int g_laid, .int g_groupMany, .int g_isDrawn, .ref a_names, .ref a_firstNames, .ref a_isKept, .ref a_lanes, .ref a_lengths, .ref a_cells, .int g_torn, .ref a_had])), (a_state, .inl (G.2.1 1, 96, .inl g_state))] (some (.int u.1)) [(a_this, .inr (11, [.ref a_state, .ref a_readPage, .int u.2.1, .ref a_tape, .int g_taped, .int g_fault, .int g_broken, .int g_brokenAt, .int g_spot, .int g_here, .int g_token, .int g_value, .ref a_letters, .int g_hasPlaces, .int g_highest, .ref a_sums, .ref a_aside, .ref a_groups, .ref a_sides, .int g_laid, .int g_groupMany, .int g_isDrawn, .ref a_names, .ref a_firstNames, .ref a_isKept, .ref a_lanes, .ref a_lengths, .ref a_cells, .int g_torn, .ref a_had])), (a_state, .inl (G.2.1 1, 96, .inl u.2.2))] := by
  obtain ⟨enc, henc⟩ : ∃ enc : (Int32 × Int32 × (Nat → Int32)) → Option Value × va_W, enc = fun u => (((some (.int u.1)) : Option Value), ([(a_this, .inr (11, [.ref a_state, .ref a_readPage, .int u.2.1, .ref a_tape, .int g_taped, .int g_fault, .int g_broken, .int g_brokenAt, .int g_spot, .int g_here, .int g_token, .int g_value, .ref a_letters, .int g_hasPlaces, .int g_highest, .ref a_sums, .ref a_aside, .ref a_groups, .ref a_sides, .int g_laid, .int g_groupMany, .int g_isDrawn, .ref a_names, .ref a_firstNames, .ref a_isKept, .ref a_lanes, .ref a_lengths, .ref a_cells, .int g_torn, .ref a_had])), (a_state, .inl (G.2.1 1, 96, .inl u.2.2))] : va_W)) := ⟨_, rfl⟩
  refine ctr_of (cc := cX11_pair) (own := RX11) (E := Option.map enc) (o := X11_pair x1 x2 g_isAwake g_state) (by decide) rfl rfl (L := [(0, .ref a_this), (1, .int x1), (2, .int x2)]) rfl (Nat.le_of_ble_eq_true rfl) (by rw [hu, henc]; rfl) ?_
  intro Z hX hl hG hr
  subst hl; subst hG
  unfold X11_pair
  refine rn_aload_n hX dX11_pair_0 0 rfl 1 rfl ?_
  refine rn_iload_n hX dX11_pair_1 1 rfl 2 rfl ?_
  refine rn_iload_n hX dX11_pair_2 2 rfl 3 rfl ?_
  refine rn_bind (fun u1 hu1 => ?_)
  refine rn_callV hX (gV mcC wd_1144 wd_1146 wd_33 wd_81 wd_1147) rfl hdV_X11_areTwo rfl rfl ⟨Nat.le_of_ble_eq_true rfl, Nat.le_of_ble_eq_true rfl⟩ (c_X11_areTwo (zl Z) (zG Z) a_this a_state a_readPage a_tape a_letters a_sums a_aside a_groups a_sides a_names a_firstNames a_isKept a_lanes a_lengths a_cells a_had g_isAwake g_taped g_fault g_broken g_brokenAt g_spot g_here g_token g_value g_hasPlaces g_highest g_laid g_groupMany g_isDrawn g_torn g_state x1 x2 hu1) rfl [0, 1] rfl rfl rfl (ci := 11) rfl rfl rfl (Nat.le_of_ble_eq_true rfl) dX11_pair_3 6 rfl (wn := [(a_this, .inr (11, [.ref a_state, .ref a_readPage, .int u1.2.1, .ref a_tape, .int g_taped, .int g_fault, .int g_broken, .int g_brokenAt, .int g_spot, .int g_here, .int g_token, .int g_value, .ref a_letters, .int g_hasPlaces, .int g_highest, .ref a_sums, .ref a_aside, .ref a_groups, .ref a_sides, .int g_laid, .int g_groupMany, .int g_isDrawn, .ref a_names, .ref a_firstNames, .ref a_isKept, .ref a_lanes, .ref a_lengths, .ref a_cells, .int g_torn, .ref a_had])), (a_state, .inl ((zG Z).2.1 1, 96, .inl u1.2.2))]) rfl (S' := [.int u1.1]) rfl ⟨Nat.zero_le _, Nat.zero_le _⟩ ?_
  refine rn_if_eq hX dX11_pair_6 17 (by decide) 9 rfl ?_ ?_
  · refine rn_iconst hX dX11_pair_17 18 rfl ic_m1 ?_
    exact rn_iret hX hr (by rw [henc]; rfl) dX11_pair_18
  refine rn_iload_n hX dX11_pair_9 1 rfl 10 rfl ?_
  refine rn_iload_n hX dX11_pair_10 2 rfl 11 rfl ?_
  refine rn_callS0 hX (gS mcC wd_1133 wd_1134 wd_81 wd_1135) rfl hdS_X11_pairOf rfl rfl ⟨Nat.le_of_ble_eq_true rfl, Nat.le_of_ble_eq_true rfl⟩ (c_X11_pairOf (zl Z) (zG Z) x1 x2 rfl) rfl [] rfl rfl rfl (Nat.le_of_ble_eq_true rfl) dX11_pair_11 14 rfl (S' := [.int (X11_pairOf x1 x2)]) rfl ⟨Nat.zero_le _, Nat.zero_le _⟩ ?_
  refine rn_goto hX dX11_pair_14 18 (by decide) ?_
  exact rn_iret hX hr (by rw [henc]; rfl) dX11_pair_18
abbrev rmX11_wideBy : Room := { frames := 0, cells := 0, slots := 0, locals := 0 }
theorem hdS_X11_wideBy : yX11_wideBy.cls ≠ "java/lang/invoke/MethodHandle" ∧ yX11_wideBy.cls ≠ "java/lang/invoke/VarHandle" ∧ (parseMethodDescriptor yX11_wideBy.desc).map (fun d => d.parameters.length) = some 3 := by decide +kernel
set_option maxHeartbeats 4000000 in
set_option maxRecDepth 100000 in
theorem c_X11_wideBy (l : Launch) (G : GT) (x0 : Int64) (x2 : Int64) (x4 : Int64) {u : Int64} (hu : X11_wideBy x0 x2 x4 = u) : Ctr l G yX11_wideBy wsX11_wideBy rmX11_wideBy [.long x0, .long x2, .long x4] [] (some (.long u)) [] := by
  obtain ⟨enc, henc⟩ : ∃ enc : (Int64) → Option Value × va_W, enc = fun u => (((some (.long u)) : Option Value), ([] : va_W)) := ⟨_, rfl⟩
  refine ctr_of (cc := cX11_wideBy) (own := RX11) (E := fun o => some (enc o)) (o := X11_wideBy x0 x2 x4) (by decide) rfl rfl (L := [(0, .long x0), (2, .long x2), (4, .long x4)]) rfl (Nat.le_of_ble_eq_true rfl) (by rw [hu, henc]) ?_
  intro Z hX hl hG hr
  subst hl; subst hG
  have kl162 : (Cond.constantLong RX11 162 (4)).before (za Z) (zs Z) = true := hX.wd (mcC _ wd_1193)
  unfold X11_wideBy
  refine rn_lload_n hX dX11_wideBy_0 0 rfl 1 rfl ?_
  refine rn_lload_n hX dX11_wideBy_1 1 rfl 2 rfl ?_
  refine rn_ladd hX dX11_wideBy_2 3 rfl ?_
  refine rn_lload hX dX11_wideBy_3 2 rfl 5 rfl ?_
  refine rn_lsub hX dX11_wideBy_5 6 rfl ?_
  refine rn_latl (fun v1 => ?_)
  refine rn_lstore hX dX11_wideBy_6 (by decide) (L' := [(6, .long v1), (0, .long x0), (2, .long x2), (4, .long x4)]) rfl 8 rfl ?_
  refine rn_ldc2 hX kl162 dX11_wideBy_8 11 rfl ?_
  refine rn_lload_n hX dX11_wideBy_11 1 rfl 12 rfl ?_
  refine rn_lmul hX dX11_wideBy_12 13 rfl ?_
  refine rn_lload_n hX dX11_wideBy_13 2 rfl 14 rfl ?_
  refine rn_lmul hX dX11_wideBy_14 15 rfl ?_
  refine rn_lload hX dX11_wideBy_15 0 rfl 17 rfl ?_
  refine rn_lload hX dX11_wideBy_17 0 rfl 19 rfl ?_
  refine rn_lmul hX dX11_wideBy_19 20 rfl ?_
  refine rn_lsub hX dX11_wideBy_20 21 rfl ?_
  exact rn_lret hX hr (by rw [henc]) dX11_wideBy_21
abbrev rmX11_wideOf : Room := { frames := 2, cells := 0, slots := 0, locals := 45 }
theorem hdV_X11_wideOf : yX11_wideOf.cls = RX11 ∧ yX11_wideOf.cls ≠ "java/lang/invoke/MethodHandle" ∧ yX11_wideOf.cls ≠ "java/lang/invoke/VarHandle" ∧ (parseMethodDescriptor yX11_wideOf.desc).map (fun d => d.parameters.length) = some 3 := by decide +kernel
set_option maxHeartbeats 4000000 in
set_option maxRecDepth 100000 in
theorem c_X11_wideOf (l : Launch) (G : GT) (a_this a_state a_readPage a_tape a_letters a_sums a_aside a_groups a_sides a_names a_firstNames a_isKept a_lanes a_lengths a_cells a_had : Nat) (g_isAwake : Int32) (g_taped : Int32) (g_fault : Int32) (g_broken : Int32) (g_brokenAt : Int32) (g_spot : Int32) (g_here : Int32) (g_token : Int32) (g_value : Int32) (g_hasPlaces : Int32) (g_highest : Int32) (g_laid : Int32) (g_groupMany : Int32) (g_isDrawn : Int32) (g_torn : Int32) (g_state : (Nat → Int32)) (x1 : Int32) (x2 : Int32) (x3 : Int32) {u : Int64} (hu : X11_wideOf x1 x2 x3 g_state = some u) : Ctr l G yX11_wideOf wsX11_wideOf rmX11_wideOf [.ref a_this, .int x1, .int x2, .int x3] [(a_this, .inr (11, [.ref a_state, .ref a_readPage, .int g_isAwake, .ref a_tape, .int g_taped, .int g_fault, .int g_broken, .int g_brokenAt, .int g_spot, .int g_here, .int g_token, .int g_value, .ref a_letters, .int g_hasPlaces, .int g_highest, .ref a_sums, .ref a_aside, .ref a_groups, .ref a_sides, .int g_laid, .int g_groupMany, .int g_isDrawn, .ref a_names, .ref a_firstNames, .ref a_isKept, .ref a_lanes, .ref a_lengths, .ref a_cells, .int g_torn, .ref a_had])), (a_state, .inl (G.2.1 1, 96, .inl g_state))] (some (.long u)) [(a_this, .inr (11, [.ref a_state, .ref a_readPage, .int g_isAwake, .ref a_tape, .int g_taped, .int g_fault, .int g_broken, .int g_brokenAt, .int g_spot, .int g_here, .int g_token, .int g_value, .ref a_letters, .int g_hasPlaces, .int g_highest, .ref a_sums, .ref a_aside, .ref a_groups, .ref a_sides, .int g_laid, .int g_groupMany, .int g_isDrawn, .ref a_names, .ref a_firstNames, .ref a_isKept, .ref a_lanes, .ref a_lengths, .ref a_cells, .int g_torn, .ref a_had])), (a_state, .inl (G.2.1 1, 96, .inl g_state))] := by
  obtain ⟨enc, henc⟩ : ∃ enc : (Int64) → Option Value × va_W, enc = fun u => (((some (.long u)) : Option Value), ([(a_this, .inr (11, [.ref a_state, .ref a_readPage, .int g_isAwake, .ref a_tape, .int g_taped, .int g_fault, .int g_broken, .int g_brokenAt, .int g_spot, .int g_here, .int g_token, .int g_value, .ref a_letters, .int g_hasPlaces, .int g_highest, .ref a_sums, .ref a_aside, .ref a_groups, .ref a_sides, .int g_laid, .int g_groupMany, .int g_isDrawn, .ref a_names, .ref a_firstNames, .ref a_isKept, .ref a_lanes, .ref a_lengths, .ref a_cells, .int g_torn, .ref a_had])), (a_state, .inl (G.2.1 1, 96, .inl g_state))] : va_W)) := ⟨_, rfl⟩
  refine ctr_of (cc := cX11_wideOf) (own := RX11) (E := Option.map enc) (o := X11_wideOf x1 x2 x3 g_state) (by decide) rfl rfl (L := [(0, .ref a_this), (1, .int x1), (2, .int x2), (3, .int x3)]) rfl (Nat.le_of_ble_eq_true rfl) (by rw [hu, henc]; rfl) ?_
  intro Z hX hl hG hr
  subst hl; subst hG
  unfold X11_wideOf
  refine rn_aload_n hX dX11_wideOf_0 0 rfl 1 rfl ?_
  refine rn_iload_n hX dX11_wideOf_1 1 rfl 2 rfl ?_
  refine rn_iload_n hX dX11_wideOf_2 2 rfl 3 rfl ?_
  refine rn_bind (fun u1 hu1 => ?_)
  refine rn_callV0 hX (gV mcC wd_1156 wd_1158 wd_36 wd_81 wd_1159) rfl hdV_X11_sq rfl rfl ⟨Nat.le_of_ble_eq_true rfl, Nat.le_of_ble_eq_true rfl⟩ (c_X11_sq (zl Z) (zG Z) a_this a_state a_readPage a_tape a_letters a_sums a_aside a_groups a_sides a_names a_firstNames a_isKept a_lanes a_lengths a_cells a_had g_isAwake g_taped g_fault g_broken g_brokenAt g_spot g_here g_token g_value g_hasPlaces g_highest g_laid g_groupMany g_isDrawn g_torn g_state x1 x2 hu1) rfl [0, 1] rfl rfl (ci := 11) rfl rfl rfl (Nat.le_of_ble_eq_true rfl) dX11_wideOf_3 6 rfl (S' := [.long u1]) rfl ⟨Nat.zero_le _, Nat.zero_le _⟩ ?_
  refine rn_aload_n hX dX11_wideOf_6 0 rfl 7 rfl ?_
  refine rn_iload_n hX dX11_wideOf_7 1 rfl 8 rfl ?_
  refine rn_iload_n hX dX11_wideOf_8 3 rfl 9 rfl ?_
  refine rn_bind (fun u2 hu2 => ?_)
  refine rn_callV0 hX (gV mcC wd_1156 wd_1158 wd_36 wd_81 wd_1159) rfl hdV_X11_sq rfl rfl ⟨Nat.le_of_ble_eq_true rfl, Nat.le_of_ble_eq_true rfl⟩ (c_X11_sq (zl Z) (zG Z) a_this a_state a_readPage a_tape a_letters a_sums a_aside a_groups a_sides a_names a_firstNames a_isKept a_lanes a_lengths a_cells a_had g_isAwake g_taped g_fault g_broken g_brokenAt g_spot g_here g_token g_value g_hasPlaces g_highest g_laid g_groupMany g_isDrawn g_torn g_state x1 x3 hu2) rfl [0, 1] rfl rfl (ci := 11) rfl rfl rfl (Nat.le_of_ble_eq_true rfl) dX11_wideOf_9 12 rfl (S' := [.long u2, .long u1]) rfl ⟨Nat.zero_le _, Nat.zero_le _⟩ ?_
  refine rn_aload_n hX dX11_wideOf_12 0 rfl 13 rfl ?_
  refine rn_iload_n hX dX11_wideOf_13 2 rfl 14 rfl ?_
  refine rn_iload_n hX dX11_wideOf_14 3 rfl 15 rfl ?_
  refine rn_bind (fun u3 hu3 => ?_)
  refine rn_callV0 hX (gV mcC wd_1156 wd_1158 wd_36 wd_81 wd_1159) rfl hdV_X11_sq rfl rfl ⟨Nat.le_of_ble_eq_true rfl, Nat.le_of_ble_eq_true rfl⟩ (c_X11_sq (zl Z) (zG Z) a_this a_state a_readPage a_tape a_letters a_sums a_aside a_groups a_sides a_names a_firstNames a_isKept a_lanes a_lengths a_cells a_had g_isAwake g_taped g_fault g_broken g_brokenAt g_spot g_here g_token g_value g_hasPlaces g_highest g_laid g_groupMany g_isDrawn g_torn g_state x2 x3 hu3) rfl [0, 1] rfl rfl (ci := 11) rfl rfl rfl (Nat.le_of_ble_eq_true rfl) dX11_wideOf_15 18 rfl (S' := [.long u3, .long u2, .long u1]) rfl ⟨Nat.zero_le _, Nat.zero_le _⟩ ?_
  refine rn_callS0 hX (gS mcC wd_1190 wd_1191 wd_81 wd_1192) rfl hdS_X11_wideBy rfl rfl ⟨Nat.le_of_ble_eq_true rfl, Nat.le_of_ble_eq_true rfl⟩ (c_X11_wideBy (zl Z) (zG Z) u1 u2 u3 rfl) rfl [] rfl rfl rfl (Nat.le_of_ble_eq_true rfl) dX11_wideOf_18 21 rfl (S' := [.long (X11_wideBy u1 u2 u3)]) rfl ⟨Nat.zero_le _, Nat.zero_le _⟩ ?_
  exact rn_lret hX hr (by rw [henc]; rfl) dX11_wideOf_21
abbrev rmX11_canBe : Room := { frames := 3, cells := 0, slots := 0, locals := 68 }
theorem hdV_X11_canBe : yX11_canBe.cls = RX11 ∧ yX11_canBe.cls ≠ "java/lang/invoke/MethodHandle" ∧ yX11_canBe.cls ≠ "java/lang/invoke/VarHandle" ∧ (parseMethodDescriptor yX11_canBe.desc).map (fun d => d.parameters.length) = some 3 := by decide +kernel
set_option maxHeartbeats 4000000 in
set_option maxRecDepth 100000 in
theorem c_X11_canBe (l : Launch) (G : GT) (a_this a_state a_readPage a_tape a_letters a_sums a_aside a_groups a_sides a_names a_firstNames a_isKept a_lanes a_lengths a_cells a_had : Nat) (g_isAwake : Int32) (g_taped : Int32) (g_fault : Int32) (g_broken : Int32) (g_brokenAt : Int32) (g_spot : Int32) (g_here : Int32) (g_token : Int32) (g_value : Int32) (g_hasPlaces : Int32) (g_highest : Int32) (g_laid : Int32) (g_groupMany : Int32) (g_isDrawn : Int32) (g_torn : Int32) (g_state : (Nat → Int32)) (x1 : Int32) (x2 : Int32) (x3 : Int32) {u : Int32} (hu : X11_canBe x1 x2 x3 g_state = some u) : Ctr l G yX11_canBe wsX11_canBe rmX11_canBe [.ref a_this, .int x1, .int x2, .int x3] [(a_this, .inr (11, [.ref a_state, .ref a_readPage, .int g_isAwake, .ref a_tape, .int g_taped, .int g_fault, .int g_broken, .int g_brokenAt, .int g_spot, .int g_here, .int g_token, .int g_value, .ref a_letters, .int g_hasPlaces, .int g_highest, .ref a_sums, .ref a_aside, .ref a_groups, .ref a_sides, .int g_laid, .int g_groupMany, .int g_isDrawn, .ref a_names, .ref a_firstNames, .ref a_isKept, .ref a_lanes, .ref a_lengths, .ref a_cells, .int g_torn, .ref a_had])), (a_state, .inl (G.2.1 1, 96, .inl g_state))] (some (.int u)) [(a_this, .inr (11, [.ref a_state, .ref a_readPage, .int g_isAwake, .ref a_tape, .int g_taped, .int g_fault, .int g_broken, .int g_brokenAt, .int g_spot, .int g_here, .int g_token, .int g_value, .ref a_letters, .int g_hasPlaces, .int g_highest, .ref a_sums, .ref a_aside, .ref a_groups, .ref a_sides, .int g_laid, .int g_groupMany, .int g_isDrawn, .ref a_names, .ref a_firstNames, .ref a_isKept, .ref a_lanes, .ref a_lengths, .ref a_cells, .int g_torn, .ref a_had])), (a_state, .inl (G.2.1 1, 96, .inl g_state))] := by
  obtain ⟨enc, henc⟩ : ∃ enc : (Int32) → Option Value × va_W, enc = fun u => (((some (.int u)) : Option Value), ([(a_this, .inr (11, [.ref a_state, .ref a_readPage, .int g_isAwake, .ref a_tape, .int g_taped, .int g_fault, .int g_broken, .int g_brokenAt, .int g_spot, .int g_here, .int g_token, .int g_value, .ref a_letters, .int g_hasPlaces, .int g_highest, .ref a_sums, .ref a_aside, .ref a_groups, .ref a_sides, .int g_laid, .int g_groupMany, .int g_isDrawn, .ref a_names, .ref a_firstNames, .ref a_isKept, .ref a_lanes, .ref a_lengths, .ref a_cells, .int g_torn, .ref a_had])), (a_state, .inl (G.2.1 1, 96, .inl g_state))] : va_W)) := ⟨_, rfl⟩
  refine ctr_of (cc := cX11_canBe) (own := RX11) (E := Option.map enc) (o := X11_canBe x1 x2 x3 g_state) (by decide) rfl rfl (L := [(0, .ref a_this), (1, .int x1), (2, .int x2), (3, .int x3)]) rfl (Nat.le_of_ble_eq_true rfl) (by rw [hu, henc]; rfl) ?_
  intro Z hX hl hG hr
  subst hl; subst hG
  unfold X11_canBe
  refine rn_aload_n hX dX11_canBe_0 0 rfl 1 rfl ?_
  refine rn_iload_n hX dX11_canBe_1 1 rfl 2 rfl ?_
  refine rn_iload_n hX dX11_canBe_2 2 rfl 3 rfl ?_
  refine rn_iload_n hX dX11_canBe_3 3 rfl 4 rfl ?_
  refine rn_bind (fun u1 hu1 => ?_)
  refine rn_callV0 hX (gV mcC wd_1186 wd_1188 wd_40 wd_81 wd_1189) rfl hdV_X11_wideOf rfl rfl ⟨Nat.le_of_ble_eq_true rfl, Nat.le_of_ble_eq_true rfl⟩ (c_X11_wideOf (zl Z) (zG Z) a_this a_state a_readPage a_tape a_letters a_sums a_aside a_groups a_sides a_names a_firstNames a_isKept a_lanes a_lengths a_cells a_had g_isAwake g_taped g_fault g_broken g_brokenAt g_spot g_here g_token g_value g_hasPlaces g_highest g_laid g_groupMany g_isDrawn g_torn g_state x1 x2 x3 hu1) rfl [0, 1] rfl rfl (ci := 11) rfl rfl rfl (Nat.le_of_ble_eq_true rfl) dX11_canBe_4 7 rfl (S' := [.long u1]) rfl ⟨Nat.zero_le _, Nat.zero_le _⟩ ?_
  refine rn_lconst hX dX11_canBe_7 8 rfl lc_0 ?_
  refine rn_lcmp_lt hX dX11_canBe_8 9 rfl dX11_canBe_9 16 (by decide) 12 rfl ?_ ?_
  · refine rn_iconst hX dX11_canBe_16 17 rfl ic_0 ?_
    exact rn_zret hX rfl hr (by rw [henc]; rfl) dX11_canBe_17
  refine rn_iconst hX dX11_canBe_12 13 rfl ic_1 ?_
  refine rn_goto hX dX11_canBe_13 17 (by decide) ?_
  exact rn_zret hX rfl hr (by rw [henc]; rfl) dX11_canBe_17
abbrev rmX11_wide : Room := { frames := 4, cells := 0, slots := 0, locals := 91 }
theorem hdV_X11_wide : yX11_wide.cls = RX11 ∧ yX11_wide.cls ≠ "java/lang/invoke/MethodHandle" ∧ yX11_wide.cls ≠ "java/lang/invoke/VarHandle" ∧ (parseMethodDescriptor yX11_wide.desc).map (fun d => d.parameters.length) = some 3 := by decide +kernel
set_option maxHeartbeats 4000000 in
set_option maxRecDepth 100000 in
theorem c_X11_wide (l : Launch) (G : GT) (a_this a_state a_readPage a_tape a_letters a_sums a_aside a_groups a_sides a_names a_firstNames a_isKept a_lanes a_lengths a_cells a_had : Nat) (g_isAwake : Int32) (g_taped : Int32) (g_fault : Int32) (g_broken : Int32) (g_brokenAt : Int32) (g_spot : Int32) (g_here : Int32) (g_token : Int32) (g_value : Int32) (g_hasPlaces : Int32) (g_highest : Int32) (g_laid : Int32) (g_groupMany : Int32) (g_isDrawn : Int32) (g_torn : Int32) (g_state : (Nat → Int32)) (x1 : Int32) (x2 : Int32) (x3 : Int32) {u : Int64 × Int32 × (Nat → Int32)} (hu : X11_wide x1 x2 x3 g_isAwake g_state = some u) : Ctr l G yX11_wide wsX11_wide rmX11_wide [.ref a_this, .int x1, .int x2, .int x3] [(a_this, .inr (11, [.ref a_state, .ref a_readPage, .int g_isAwake, .ref a_tape, .int g_taped, .int g_fault, .int g_broken, .int g_brokenAt, .int g_spot, .int g_here, .int g_token, .int g_value, .ref a_letters, .int g_hasPlaces, .int g_highest, .ref a_sums, .ref a_aside, .ref a_groups, .ref a_sides, .int g_laid, .int g_groupMany, .int g_isDrawn, .ref a_names, .ref a_firstNames, .ref a_isKept, .ref a_lanes, .ref a_lengths, .ref a_cells, .int g_torn, .ref a_had])), (a_state, .inl (G.2.1 1, 96, .inl g_state))] (some (.long u.1)) [(a_this, .inr (11, [.ref a_state, .ref a_readPage, .int u.2.1, .ref a_tape, .int g_taped, .int g_fault, .int g_broken, .int g_brokenAt, .int g_spot, .int g_here, .int g_token, .int g_value, .ref a_letters, .int g_hasPlaces, .int g_highest, .ref a_sums, .ref a_aside, .ref a_groups, .ref a_sides, .int g_laid, .int g_groupMany, .int g_isDrawn, .ref a_names, .ref a_firstNames, .ref a_isKept, .ref a_lanes, .ref a_lengths, .ref a_cells, .int g_torn, .ref a_had])), (a_state, .inl (G.2.1 1, 96, .inl u.2.2))] := by
  obtain ⟨enc, henc⟩ : ∃ enc : (Int64 × Int32 × (Nat → Int32)) → Option Value × va_W, enc = fun u => (((some (.long u.1)) : Option Value), ([(a_this, .inr (11, [.ref a_state, .ref a_readPage, .int u.2.1, .ref a_tape, .int g_taped, .int g_fault, .int g_broken, .int g_brokenAt, .int g_spot, .int g_here, .int g_token, .int g_value, .ref a_letters, .int g_hasPlaces, .int g_highest, .ref a_sums, .ref a_aside, .ref a_groups, .ref a_sides, .int g_laid, .int g_groupMany, .int g_isDrawn, .ref a_names, .ref a_firstNames, .ref a_isKept, .ref a_lanes, .ref a_lengths, .ref a_cells, .int g_torn, .ref a_had])), (a_state, .inl (G.2.1 1, 96, .inl u.2.2))] : va_W)) := ⟨_, rfl⟩
  refine ctr_of (cc := cX11_wide) (own := RX11) (E := Option.map enc) (o := X11_wide x1 x2 x3 g_isAwake g_state) (by decide) rfl rfl (L := [(0, .ref a_this), (1, .int x1), (2, .int x2), (3, .int x3)]) rfl (Nat.le_of_ble_eq_true rfl) (by rw [hu, henc]; rfl) ?_
  intro Z hX hl hG hr
  subst hl; subst hG
  have kl172 : (Cond.constantLong RX11 172 (-9000000000)).before (za Z) (zs Z) = true := hX.wd (mcC _ wd_1181)
  have kl174 : (Cond.constantLong RX11 174 (-9000000001)).before (za Z) (zs Z) = true := hX.wd (mcC _ wd_1194)
  unfold X11_wide
  refine rn_aload_n hX dX11_wide_0 0 rfl 1 rfl ?_
  refine rn_iload_n hX dX11_wide_1 1 rfl 2 rfl ?_
  refine rn_iload_n hX dX11_wide_2 2 rfl 3 rfl ?_
  refine rn_iload_n hX dX11_wide_3 3 rfl 4 rfl ?_
  refine rn_bind (fun u1 hu1 => ?_)
  refine rn_callV hX (gV mcC wd_1177 wd_1179 wd_38 wd_81 wd_1180) rfl hdV_X11_areThree rfl rfl ⟨Nat.le_of_ble_eq_true rfl, Nat.le_of_ble_eq_true rfl⟩ (c_X11_areThree (zl Z) (zG Z) a_this a_state a_readPage a_tape a_letters a_sums a_aside a_groups a_sides a_names a_firstNames a_isKept a_lanes a_lengths a_cells a_had g_isAwake g_taped g_fault g_broken g_brokenAt g_spot g_here g_token g_value g_hasPlaces g_highest g_laid g_groupMany g_isDrawn g_torn g_state x1 x2 x3 hu1) rfl [0, 1] rfl rfl rfl (ci := 11) rfl rfl rfl (Nat.le_of_ble_eq_true rfl) dX11_wide_4 7 rfl (wn := [(a_this, .inr (11, [.ref a_state, .ref a_readPage, .int u1.2.1, .ref a_tape, .int g_taped, .int g_fault, .int g_broken, .int g_brokenAt, .int g_spot, .int g_here, .int g_token, .int g_value, .ref a_letters, .int g_hasPlaces, .int g_highest, .ref a_sums, .ref a_aside, .ref a_groups, .ref a_sides, .int g_laid, .int g_groupMany, .int g_isDrawn, .ref a_names, .ref a_firstNames, .ref a_isKept, .ref a_lanes, .ref a_lengths, .ref a_cells, .int g_torn, .ref a_had])), (a_state, .inl ((zG Z).2.1 1, 96, .inl u1.2.2))]) rfl (S' := [.int u1.1]) rfl ⟨Nat.zero_le _, Nat.zero_le _⟩ ?_
  refine rn_if_ne hX dX11_wide_7 14 (by decide) 10 rfl ?_ ?_
  · refine rn_aload_n hX dX11_wide_14 0 rfl 15 rfl ?_
    refine rn_iload_n hX dX11_wide_15 1 rfl 16 rfl ?_
    refine rn_iload_n hX dX11_wide_16 2 rfl 17 rfl ?_
    refine rn_iload_n hX dX11_wide_17 3 rfl 18 rfl ?_
    refine rn_bind (fun u2 hu2 => ?_)
    refine rn_callV0 hX (gV mcC wd_1182 wd_1184 wd_39 wd_81 wd_1185) rfl hdV_X11_areTold rfl rfl ⟨Nat.le_of_ble_eq_true rfl, Nat.le_of_ble_eq_true rfl⟩ (c_X11_areTold (zl Z) (zG Z) a_this a_state a_readPage a_tape a_letters a_sums a_aside a_groups a_sides a_names a_firstNames a_isKept a_lanes a_lengths a_cells a_had u1.2.1 g_taped g_fault g_broken g_brokenAt g_spot g_here g_token g_value g_hasPlaces g_highest g_laid g_groupMany g_isDrawn g_torn u1.2.2 x1 x2 x3 hu2) rfl [0, 1] rfl rfl (ci := 11) rfl rfl rfl (Nat.le_of_ble_eq_true rfl) dX11_wide_18 21 rfl (S' := [.int u2]) rfl ⟨Nat.zero_le _, Nat.zero_le _⟩ ?_
    refine rn_if_eq hX dX11_wide_21 34 (by decide) 24 rfl ?_ ?_
    · refine rn_ldc2 hX kl174 dX11_wide_34 37 rfl ?_
      exact rn_lret hX hr (by rw [henc]; rfl) dX11_wide_37
    refine rn_aload_n hX dX11_wide_24 0 rfl 25 rfl ?_
    refine rn_iload_n hX dX11_wide_25 1 rfl 26 rfl ?_
    refine rn_iload_n hX dX11_wide_26 2 rfl 27 rfl ?_
    refine rn_iload_n hX dX11_wide_27 3 rfl 28 rfl ?_
    refine rn_bind (fun u3 hu3 => ?_)
    refine rn_callV0 hX (gV mcC wd_1186 wd_1188 wd_40 wd_81 wd_1189) rfl hdV_X11_wideOf rfl rfl ⟨Nat.le_of_ble_eq_true rfl, Nat.le_of_ble_eq_true rfl⟩ (c_X11_wideOf (zl Z) (zG Z) a_this a_state a_readPage a_tape a_letters a_sums a_aside a_groups a_sides a_names a_firstNames a_isKept a_lanes a_lengths a_cells a_had u1.2.1 g_taped g_fault g_broken g_brokenAt g_spot g_here g_token g_value g_hasPlaces g_highest g_laid g_groupMany g_isDrawn g_torn u1.2.2 x1 x2 x3 hu3) rfl [0, 1] rfl rfl (ci := 11) rfl rfl rfl (Nat.le_of_ble_eq_true rfl) dX11_wide_28 31 rfl (S' := [.long u3]) rfl ⟨Nat.zero_le _, Nat.zero_le _⟩ ?_
    refine rn_goto hX dX11_wide_31 37 (by decide) ?_
    exact rn_lret hX hr (by rw [henc]; rfl) dX11_wide_37
  refine rn_ldc2 hX kl172 dX11_wide_10 13 rfl ?_
  exact rn_lret hX hr (by rw [henc]; rfl) dX11_wide_13
abbrev rmX11_three : Room := { frames := 4, cells := 0, slots := 0, locals := 91 }
theorem hdV_X11_three : yX11_three.cls = RX11 ∧ yX11_three.cls ≠ "java/lang/invoke/MethodHandle" ∧ yX11_three.cls ≠ "java/lang/invoke/VarHandle" ∧ (parseMethodDescriptor yX11_three.desc).map (fun d => d.parameters.length) = some 3 := by decide +kernel
set_option maxHeartbeats 4000000 in
set_option maxRecDepth 100000 in
theorem c_X11_three (l : Launch) (G : GT) (a_this a_state a_readPage a_tape a_letters a_sums a_aside a_groups a_sides a_names a_firstNames a_isKept a_lanes a_lengths a_cells a_had : Nat) (g_isAwake : Int32) (g_taped : Int32) (g_fault : Int32) (g_broken : Int32) (g_brokenAt : Int32) (g_spot : Int32) (g_here : Int32) (g_token : Int32) (g_value : Int32) (g_hasPlaces : Int32) (g_highest : Int32) (g_laid : Int32) (g_groupMany : Int32) (g_isDrawn : Int32) (g_torn : Int32) (g_state : (Nat → Int32)) (x1 : Int32) (x2 : Int32) (x3 : Int32) {u : Int32 × Int32 × (Nat → Int32)} (hu : X11_three x1 x2 x3 g_isAwake g_state = some u) : Ctr l G yX11_three wsX11_three rmX11_three [.ref a_this, .int x1, .int x2, .int x3] [(a_this, .inr (11, [.ref a_state, .ref a_readPage, .int g_isAwake, .ref a_tape, .int g_taped, .int g_fault, .int g_broken, .int g_brokenAt, .int g_spot, .int g_here, .int g_token, .int g_value, .ref a_letters, .int g_hasPlaces, .int g_highest, .ref a_sums, .ref a_aside, .ref a_groups, .ref a_sides, .int g_laid, .int g_groupMany, .int g_isDrawn, .ref a_names, .ref a_firstNames, .ref a_isKept, .ref a_lanes, .ref a_lengths, .ref a_cells, .int g_torn, .ref a_had])), (a_state, .inl (G.2.1 1, 96, .inl g_state))] (some (.int u.1)) [(a_this, .inr (11, [.ref a_state, .ref a_readPage, .int u.2.1, .ref a_tape, .int g_taped, .int g_fault, .int g_broken, .int g_brokenAt, .int g_spot, .int g_here, .int g_token, .int g_value, .ref a_letters, .int g_hasPlaces, .int g_highest, .ref a_sums, .ref a_aside, .ref a_groups, .ref a_sides, .int g_laid, .int g_groupMany, .int g_isDrawn, .ref a_names, .ref a_firstNames, .ref a_isKept, .ref a_lanes, .ref a_lengths, .ref a_cells, .int g_torn, .ref a_had])), (a_state, .inl (G.2.1 1, 96, .inl u.2.2))] := by
  obtain ⟨enc, henc⟩ : ∃ enc : (Int32 × Int32 × (Nat → Int32)) → Option Value × va_W, enc = fun u => (((some (.int u.1)) : Option Value), ([(a_this, .inr (11, [.ref a_state, .ref a_readPage, .int u.2.1, .ref a_tape, .int g_taped, .int g_fault, .int g_broken, .int g_brokenAt, .int g_spot, .int g_here, .int g_token, .int g_value, .ref a_letters, .int g_hasPlaces, .int g_highest, .ref a_sums, .ref a_aside, .ref a_groups, .ref a_sides, .int g_laid, .int g_groupMany, .int g_isDrawn, .ref a_names, .ref a_firstNames, .ref a_isKept, .ref a_lanes, .ref a_lengths, .ref a_cells, .int g_torn, .ref a_had])), (a_state, .inl (G.2.1 1, 96, .inl u.2.2))] : va_W)) := ⟨_, rfl⟩
  refine ctr_of (cc := cX11_three) (own := RX11) (E := Option.map enc) (o := X11_three x1 x2 x3 g_isAwake g_state) (by decide) rfl rfl (L := [(0, .ref a_this), (1, .int x1), (2, .int x2), (3, .int x3)]) rfl (Nat.le_of_ble_eq_true rfl) (by rw [hu, henc]; rfl) ?_
  intro Z hX hl hG hr
  subst hl; subst hG
  unfold X11_three
  refine rn_aload_n hX dX11_three_0 0 rfl 1 rfl ?_
  refine rn_iload_n hX dX11_three_1 1 rfl 2 rfl ?_
  refine rn_iload_n hX dX11_three_2 2 rfl 3 rfl ?_
  refine rn_iload_n hX dX11_three_3 3 rfl 4 rfl ?_
  refine rn_bind (fun u1 hu1 => ?_)
  refine rn_callV hX (gV mcC wd_1177 wd_1179 wd_38 wd_81 wd_1180) rfl hdV_X11_areThree rfl rfl ⟨Nat.le_of_ble_eq_true rfl, Nat.le_of_ble_eq_true rfl⟩ (c_X11_areThree (zl Z) (zG Z) a_this a_state a_readPage a_tape a_letters a_sums a_aside a_groups a_sides a_names a_firstNames a_isKept a_lanes a_lengths a_cells a_had g_isAwake g_taped g_fault g_broken g_brokenAt g_spot g_here g_token g_value g_hasPlaces g_highest g_laid g_groupMany g_isDrawn g_torn g_state x1 x2 x3 hu1) rfl [0, 1] rfl rfl rfl (ci := 11) rfl rfl rfl (Nat.le_of_ble_eq_true rfl) dX11_three_4 7 rfl (wn := [(a_this, .inr (11, [.ref a_state, .ref a_readPage, .int u1.2.1, .ref a_tape, .int g_taped, .int g_fault, .int g_broken, .int g_brokenAt, .int g_spot, .int g_here, .int g_token, .int g_value, .ref a_letters, .int g_hasPlaces, .int g_highest, .ref a_sums, .ref a_aside, .ref a_groups, .ref a_sides, .int g_laid, .int g_groupMany, .int g_isDrawn, .ref a_names, .ref a_firstNames, .ref a_isKept, .ref a_lanes, .ref a_lengths, .ref a_cells, .int g_torn, .ref a_had])), (a_state, .inl ((zG Z).2.1 1, 96, .inl u1.2.2))]) rfl (S' := [.int u1.1]) rfl ⟨Nat.zero_le _, Nat.zero_le _⟩ ?_
  refine rn_if_ne hX dX11_three_7 12 (by decide) 10 rfl ?_ ?_
  · refine rn_aload_n hX dX11_three_12 0 rfl 13 rfl ?_
    refine rn_iload_n hX dX11_three_13 1 rfl 14 rfl ?_
    refine rn_iload_n hX dX11_three_14 2 rfl 15 rfl ?_
    refine rn_iload_n hX dX11_three_15 3 rfl 16 rfl ?_
    refine rn_bind (fun u2 hu2 => ?_)
    refine rn_callV0 hX (gV mcC wd_1182 wd_1184 wd_39 wd_81 wd_1185) rfl hdV_X11_areTold rfl rfl ⟨Nat.le_of_ble_eq_true rfl, Nat.le_of_ble_eq_true rfl⟩ (c_X11_areTold (zl Z) (zG Z) a_this a_state a_readPage a_tape a_letters a_sums a_aside a_groups a_sides a_names a_firstNames a_isKept a_lanes a_lengths a_cells a_had u1.2.1 g_taped g_fault g_broken g_brokenAt g_spot g_here g_token g_value g_hasPlaces g_highest g_laid g_groupMany g_isDrawn g_torn u1.2.2 x1 x2 x3 hu2) rfl [0, 1] rfl rfl (ci := 11) rfl rfl rfl (Nat.le_of_ble_eq_true rfl) dX11_three_16 19 rfl (S' := [.int u2]) rfl ⟨Nat.zero_le _, Nat.zero_le _⟩ ?_
    refine rn_if_ne hX dX11_three_19 27 (by decide) 22 rfl ?_ ?_
    · refine rn_aload_n hX dX11_three_27 0 rfl 28 rfl ?_
      refine rn_iload_n hX dX11_three_28 1 rfl 29 rfl ?_
      refine rn_iload_n hX dX11_three_29 2 rfl 30 rfl ?_
      refine rn_iload_n hX dX11_three_30 3 rfl 31 rfl ?_
      refine rn_bind (fun u3 hu3 => ?_)
      refine rn_callV0 hX (gV mcC wd_1199 wd_1201 wd_41 wd_81 wd_1202) rfl hdV_X11_canBe rfl rfl ⟨Nat.le_of_ble_eq_true rfl, Nat.le_of_ble_eq_true rfl⟩ (c_X11_canBe (zl Z) (zG Z) a_this a_state a_readPage a_tape a_letters a_sums a_aside a_groups a_sides a_names a_firstNames a_isKept a_lanes a_lengths a_cells a_had u1.2.1 g_taped g_fault g_broken g_brokenAt g_spot g_here g_token g_value g_hasPlaces g_highest g_laid g_groupMany g_isDrawn g_torn u1.2.2 x1 x2 x3 hu3) rfl [0, 1] rfl rfl (ci := 11) rfl rfl rfl (Nat.le_of_ble_eq_true rfl) dX11_three_31 34 rfl (S' := [.int u3]) rfl ⟨Nat.zero_le _, Nat.zero_le _⟩ ?_
      refine rn_if_eq hX dX11_three_34 41 (by decide) 37 rfl ?_ ?_
      · refine rn_iconst hX dX11_three_41 42 rfl ic_0 ?_
        exact rn_iret hX hr (by rw [henc]; rfl) dX11_three_42
      refine rn_iconst hX dX11_three_37 38 rfl ic_1 ?_
      refine rn_goto hX dX11_three_38 42 (by decide) ?_
      exact rn_iret hX hr (by rw [henc]; rfl) dX11_three_42
    refine rn_bipush hX dX11_three_22 24 rfl bp_m4 ?_
    refine rn_goto hX dX11_three_24 42 (by decide) ?_
    exact rn_iret hX hr (by rw [henc]; rfl) dX11_three_42
  refine rn_iconst hX dX11_three_10 11 rfl ic_m1 ?_
  exact rn_iret hX hr (by rw [henc]; rfl) dX11_three_11
abbrev rmX11_dot : Room := { frames := 2, cells := 0, slots := 0, locals := 45 }
theorem hdV_X11_dot : yX11_dot.cls = RX11 ∧ yX11_dot.cls ≠ "java/lang/invoke/MethodHandle" ∧ yX11_dot.cls ≠ "java/lang/invoke/VarHandle" ∧ (parseMethodDescriptor yX11_dot.desc).map (fun d => d.parameters.length) = some 3 := by decide +kernel
set_option maxHeartbeats 4000000 in
set_option maxRecDepth 100000 in
theorem c_X11_dot (l : Launch) (G : GT) (a_this a_state a_readPage a_tape a_letters a_sums a_aside a_groups a_sides a_names a_firstNames a_isKept a_lanes a_lengths a_cells a_had : Nat) (g_isAwake : Int32) (g_taped : Int32) (g_fault : Int32) (g_broken : Int32) (g_brokenAt : Int32) (g_spot : Int32) (g_here : Int32) (g_token : Int32) (g_value : Int32) (g_hasPlaces : Int32) (g_highest : Int32) (g_laid : Int32) (g_groupMany : Int32) (g_isDrawn : Int32) (g_torn : Int32) (g_state : (Nat → Int32)) (x1 : Int32) (x2 : Int32) (x3 : Int32) {u : Int64} (hu : X11_dot x1 x2 x3 g_state = some u) : Ctr l G yX11_dot wsX11_dot rmX11_dot [.ref a_this, .int x1, .int x2, .int x3] [(a_this, .inr (11, [.ref a_state, .ref a_readPage, .int g_isAwake, .ref a_tape, .int g_taped, .int g_fault, .int g_broken, .int g_brokenAt, .int g_spot, .int g_here, .int g_token, .int g_value, .ref a_letters, .int g_hasPlaces, .int g_highest, .ref a_sums, .ref a_aside, .ref a_groups, .ref a_sides, .int g_laid, .int g_groupMany, .int g_isDrawn, .ref a_names, .ref a_firstNames, .ref a_isKept, .ref a_lanes, .ref a_lengths, .ref a_cells, .int g_torn, .ref a_had])), (a_state, .inl (G.2.1 1, 96, .inl g_state))] (some (.long u)) [(a_this, .inr (11, [.ref a_state, .ref a_readPage, .int g_isAwake, .ref a_tape, .int g_taped, .int g_fault, .int g_broken, .int g_brokenAt, .int g_spot, .int g_here, .int g_token, .int g_value, .ref a_letters, .int g_hasPlaces, .int g_highest, .ref a_sums, .ref a_aside, .ref a_groups, .ref a_sides, .int g_laid, .int g_groupMany, .int g_isDrawn, .ref a_names, .ref a_firstNames, .ref a_isKept, .ref a_lanes, .ref a_lengths, .ref a_cells, .int g_torn, .ref a_had])), (a_state, .inl (G.2.1 1, 96, .inl g_state))] := by
  obtain ⟨enc, henc⟩ : ∃ enc : (Int64) → Option Value × va_W, enc = fun u => (((some (.long u)) : Option Value), ([(a_this, .inr (11, [.ref a_state, .ref a_readPage, .int g_isAwake, .ref a_tape, .int g_taped, .int g_fault, .int g_broken, .int g_brokenAt, .int g_spot, .int g_here, .int g_token, .int g_value, .ref a_letters, .int g_hasPlaces, .int g_highest, .ref a_sums, .ref a_aside, .ref a_groups, .ref a_sides, .int g_laid, .int g_groupMany, .int g_isDrawn, .ref a_names, .ref a_firstNames, .ref a_isKept, .ref a_lanes, .ref a_lengths, .ref a_cells, .int g_torn, .ref a_had])), (a_state, .inl (G.2.1 1, 96, .inl g_state))] : va_W)) := ⟨_, rfl⟩
  refine ctr_of (cc := cX11_dot) (own := RX11) (E := Option.map enc) (o := X11_dot x1 x2 x3 g_state) (by decide) rfl rfl (L := [(0, .ref a_this), (1, .int x1), (2, .int x2), (3, .int x3)]) rfl (Nat.le_of_ble_eq_true rfl) (by rw [hu, henc]; rfl) ?_
  intro Z hX hl hG hr
  subst hl; subst hG
  unfold X11_dot
  refine rn_aload_n hX dX11_dot_0 0 rfl 1 rfl ?_
  refine rn_iload_n hX dX11_dot_1 1 rfl 2 rfl ?_
  refine rn_iload_n hX dX11_dot_2 2 rfl 3 rfl ?_
  refine rn_bind (fun u1 hu1 => ?_)
  refine rn_callV0 hX (gV mcC wd_1156 wd_1158 wd_36 wd_81 wd_1159) rfl hdV_X11_sq rfl rfl ⟨Nat.le_of_ble_eq_true rfl, Nat.le_of_ble_eq_true rfl⟩ (c_X11_sq (zl Z) (zG Z) a_this a_state a_readPage a_tape a_letters a_sums a_aside a_groups a_sides a_names a_firstNames a_isKept a_lanes a_lengths a_cells a_had g_isAwake g_taped g_fault g_broken g_brokenAt g_spot g_here g_token g_value g_hasPlaces g_highest g_laid g_groupMany g_isDrawn g_torn g_state x1 x2 hu1) rfl [0, 1] rfl rfl (ci := 11) rfl rfl rfl (Nat.le_of_ble_eq_true rfl) dX11_dot_3 6 rfl (S' := [.long u1]) rfl ⟨Nat.zero_le _, Nat.zero_le _⟩ ?_
  refine rn_aload_n hX dX11_dot_6 0 rfl 7 rfl ?_
  refine rn_iload_n hX dX11_dot_7 1 rfl 8 rfl ?_
  refine rn_iload_n hX dX11_dot_8 3 rfl 9 rfl ?_
  refine rn_bind (fun u2 hu2 => ?_)
  refine rn_callV0 hX (gV mcC wd_1156 wd_1158 wd_36 wd_81 wd_1159) rfl hdV_X11_sq rfl rfl ⟨Nat.le_of_ble_eq_true rfl, Nat.le_of_ble_eq_true rfl⟩ (c_X11_sq (zl Z) (zG Z) a_this a_state a_readPage a_tape a_letters a_sums a_aside a_groups a_sides a_names a_firstNames a_isKept a_lanes a_lengths a_cells a_had g_isAwake g_taped g_fault g_broken g_brokenAt g_spot g_here g_token g_value g_hasPlaces g_highest g_laid g_groupMany g_isDrawn g_torn g_state x1 x3 hu2) rfl [0, 1] rfl rfl (ci := 11) rfl rfl rfl (Nat.le_of_ble_eq_true rfl) dX11_dot_9 12 rfl (S' := [.long u2, .long u1]) rfl ⟨Nat.zero_le _, Nat.zero_le _⟩ ?_
  refine rn_ladd hX dX11_dot_12 13 rfl ?_
  refine rn_aload_n hX dX11_dot_13 0 rfl 14 rfl ?_
  refine rn_iload_n hX dX11_dot_14 2 rfl 15 rfl ?_
  refine rn_iload_n hX dX11_dot_15 3 rfl 16 rfl ?_
  refine rn_bind (fun u3 hu3 => ?_)
  refine rn_callV0 hX (gV mcC wd_1156 wd_1158 wd_36 wd_81 wd_1159) rfl hdV_X11_sq rfl rfl ⟨Nat.le_of_ble_eq_true rfl, Nat.le_of_ble_eq_true rfl⟩ (c_X11_sq (zl Z) (zG Z) a_this a_state a_readPage a_tape a_letters a_sums a_aside a_groups a_sides a_names a_firstNames a_isKept a_lanes a_lengths a_cells a_had g_isAwake g_taped g_fault g_broken g_brokenAt g_spot g_here g_token g_value g_hasPlaces g_highest g_laid g_groupMany g_isDrawn g_torn g_state x2 x3 hu3) rfl [0, 1] rfl rfl (ci := 11) rfl rfl rfl (Nat.le_of_ble_eq_true rfl) dX11_dot_16 19 rfl (S' := [.long u3, .long (u1 + u2)]) rfl ⟨Nat.zero_le _, Nat.zero_le _⟩ ?_
  refine rn_lsub hX dX11_dot_19 20 rfl ?_
  exact rn_lret hX hr (by rw [henc]; rfl) dX11_dot_20
abbrev rmX11_canFour : Room := { frames := 4, cells := 0, slots := 0, locals := 91 }
theorem hdV_X11_canFour : yX11_canFour.cls = RX11 ∧ yX11_canFour.cls ≠ "java/lang/invoke/MethodHandle" ∧ yX11_canFour.cls ≠ "java/lang/invoke/VarHandle" ∧ (parseMethodDescriptor yX11_canFour.desc).map (fun d => d.parameters.length) = some 4 := by decide +kernel
set_option maxHeartbeats 4000000 in
set_option maxRecDepth 100000 in
theorem c_X11_canFour (l : Launch) (G : GT) (a_this a_state a_readPage a_tape a_letters a_sums a_aside a_groups a_sides a_names a_firstNames a_isKept a_lanes a_lengths a_cells a_had : Nat) (g_isAwake : Int32) (g_taped : Int32) (g_fault : Int32) (g_broken : Int32) (g_brokenAt : Int32) (g_spot : Int32) (g_here : Int32) (g_token : Int32) (g_value : Int32) (g_hasPlaces : Int32) (g_highest : Int32) (g_laid : Int32) (g_groupMany : Int32) (g_isDrawn : Int32) (g_torn : Int32) (g_state : (Nat → Int32)) (x1 : Int32) (x2 : Int32) (x3 : Int32) (x4 : Int32) {u : Int32} (hu : X11_canFour x1 x2 x3 x4 g_state = some u) : Ctr l G yX11_canFour wsX11_canFour rmX11_canFour [.ref a_this, .int x1, .int x2, .int x3, .int x4] [(a_this, .inr (11, [.ref a_state, .ref a_readPage, .int g_isAwake, .ref a_tape, .int g_taped, .int g_fault, .int g_broken, .int g_brokenAt, .int g_spot, .int g_here, .int g_token, .int g_value, .ref a_letters, .int g_hasPlaces, .int g_highest, .ref a_sums, .ref a_aside, .ref a_groups, .ref a_sides, .int g_laid, .int g_groupMany, .int g_isDrawn, .ref a_names, .ref a_firstNames, .ref a_isKept, .ref a_lanes, .ref a_lengths, .ref a_cells, .int g_torn, .ref a_had])), (a_state, .inl (G.2.1 1, 96, .inl g_state))] (some (.int u)) [(a_this, .inr (11, [.ref a_state, .ref a_readPage, .int g_isAwake, .ref a_tape, .int g_taped, .int g_fault, .int g_broken, .int g_brokenAt, .int g_spot, .int g_here, .int g_token, .int g_value, .ref a_letters, .int g_hasPlaces, .int g_highest, .ref a_sums, .ref a_aside, .ref a_groups, .ref a_sides, .int g_laid, .int g_groupMany, .int g_isDrawn, .ref a_names, .ref a_firstNames, .ref a_isKept, .ref a_lanes, .ref a_lengths, .ref a_cells, .int g_torn, .ref a_had])), (a_state, .inl (G.2.1 1, 96, .inl g_state))] := by
  obtain ⟨enc, henc⟩ : ∃ enc : (Int32) → Option Value × va_W, enc = fun u => (((some (.int u)) : Option Value), ([(a_this, .inr (11, [.ref a_state, .ref a_readPage, .int g_isAwake, .ref a_tape, .int g_taped, .int g_fault, .int g_broken, .int g_brokenAt, .int g_spot, .int g_here, .int g_token, .int g_value, .ref a_letters, .int g_hasPlaces, .int g_highest, .ref a_sums, .ref a_aside, .ref a_groups, .ref a_sides, .int g_laid, .int g_groupMany, .int g_isDrawn, .ref a_names, .ref a_firstNames, .ref a_isKept, .ref a_lanes, .ref a_lengths, .ref a_cells, .int g_torn, .ref a_had])), (a_state, .inl (G.2.1 1, 96, .inl g_state))] : va_W)) := ⟨_, rfl⟩
  refine ctr_of (cc := cX11_canFour) (own := RX11) (E := Option.map enc) (o := X11_canFour x1 x2 x3 x4 g_state) (by decide) rfl rfl (L := [(0, .ref a_this), (1, .int x1), (2, .int x2), (3, .int x3), (4, .int x4)]) rfl (Nat.le_of_ble_eq_true rfl) (by rw [hu, henc]; rfl) ?_
  intro Z hX hl hG hr
  subst hl; subst hG
  have kl179 : (Cond.constantLong RX11 179 (2)).before (za Z) (zs Z) = true := hX.wd (mcC _ wd_1219)
  unfold X11_canFour
  refine rn_aload_n hX dX11_canFour_0 0 rfl 1 rfl ?_
  refine rn_iload_n hX dX11_canFour_1 1 rfl 2 rfl ?_
  refine rn_iload_n hX dX11_canFour_2 2 rfl 3 rfl ?_
  refine rn_iload_n hX dX11_canFour_3 3 rfl 4 rfl ?_
  refine rn_bind (fun u1 hu1 => ?_)
  refine rn_callV0 hX (gV mcC wd_1199 wd_1201 wd_41 wd_81 wd_1202) rfl hdV_X11_canBe rfl rfl ⟨Nat.le_of_ble_eq_true rfl, Nat.le_of_ble_eq_true rfl⟩ (c_X11_canBe (zl Z) (zG Z) a_this a_state a_readPage a_tape a_letters a_sums a_aside a_groups a_sides a_names a_firstNames a_isKept a_lanes a_lengths a_cells a_had g_isAwake g_taped g_fault g_broken g_brokenAt g_spot g_here g_token g_value g_hasPlaces g_highest g_laid g_groupMany g_isDrawn g_torn g_state x1 x2 x3 hu1) rfl [0, 1] rfl rfl (ci := 11) rfl rfl rfl (Nat.le_of_ble_eq_true rfl) dX11_canFour_4 7 rfl (S' := [.int u1]) rfl ⟨Nat.zero_le _, Nat.zero_le _⟩ ?_
  refine rn_if_eq hX dX11_canFour_7 43 (by decide) 10 rfl ?_ ?_
  · refine rn_iconst hX dX11_canFour_43 44 rfl ic_0 ?_
    exact rn_zret hX rfl hr (by rw [henc]; rfl) dX11_canFour_44
  refine rn_aload_n hX dX11_canFour_10 0 rfl 11 rfl ?_
  refine rn_iload_n hX dX11_canFour_11 1 rfl 12 rfl ?_
  refine rn_iload_n hX dX11_canFour_12 2 rfl 13 rfl ?_
  refine rn_iload hX dX11_canFour_13 4 rfl 15 rfl ?_
  refine rn_bind (fun u2 hu2 => ?_)
  refine rn_callV0 hX (gV mcC wd_1199 wd_1201 wd_41 wd_81 wd_1202) rfl hdV_X11_canBe rfl rfl ⟨Nat.le_of_ble_eq_true rfl, Nat.le_of_ble_eq_true rfl⟩ (c_X11_canBe (zl Z) (zG Z) a_this a_state a_readPage a_tape a_letters a_sums a_aside a_groups a_sides a_names a_firstNames a_isKept a_lanes a_lengths a_cells a_had g_isAwake g_taped g_fault g_broken g_brokenAt g_spot g_here g_token g_value g_hasPlaces g_highest g_laid g_groupMany g_isDrawn g_torn g_state x1 x2 x4 hu2) rfl [0, 1] rfl rfl (ci := 11) rfl rfl rfl (Nat.le_of_ble_eq_true rfl) dX11_canFour_15 18 rfl (S' := [.int u2]) rfl ⟨Nat.zero_le _, Nat.zero_le _⟩ ?_
  refine rn_if_eq hX dX11_canFour_18 43 (by decide) 21 rfl ?_ ?_
  · refine rn_iconst hX dX11_canFour_43 44 rfl ic_0 ?_
    exact rn_zret hX rfl hr (by rw [henc]; rfl) dX11_canFour_44
  refine rn_aload_n hX dX11_canFour_21 0 rfl 22 rfl ?_
  refine rn_iload_n hX dX11_canFour_22 1 rfl 23 rfl ?_
  refine rn_iload_n hX dX11_canFour_23 3 rfl 24 rfl ?_
  refine rn_iload hX dX11_canFour_24 4 rfl 26 rfl ?_
  refine rn_bind (fun u3 hu3 => ?_)
  refine rn_callV0 hX (gV mcC wd_1199 wd_1201 wd_41 wd_81 wd_1202) rfl hdV_X11_canBe rfl rfl ⟨Nat.le_of_ble_eq_true rfl, Nat.le_of_ble_eq_true rfl⟩ (c_X11_canBe (zl Z) (zG Z) a_this a_state a_readPage a_tape a_letters a_sums a_aside a_groups a_sides a_names a_firstNames a_isKept a_lanes a_lengths a_cells a_had g_isAwake g_taped g_fault g_broken g_brokenAt g_spot g_here g_token g_value g_hasPlaces g_highest g_laid g_groupMany g_isDrawn g_torn g_state x1 x3 x4 hu3) rfl [0, 1] rfl rfl (ci := 11) rfl rfl rfl (Nat.le_of_ble_eq_true rfl) dX11_canFour_26 29 rfl (S' := [.int u3]) rfl ⟨Nat.zero_le _, Nat.zero_le _⟩ ?_
  refine rn_if_eq hX dX11_canFour_29 43 (by decide) 32 rfl ?_ ?_
  · refine rn_iconst hX dX11_canFour_43 44 rfl ic_0 ?_
    exact rn_zret hX rfl hr (by rw [henc]; rfl) dX11_canFour_44
  refine rn_aload_n hX dX11_canFour_32 0 rfl 33 rfl ?_
  refine rn_iload_n hX dX11_canFour_33 2 rfl 34 rfl ?_
  refine rn_iload_n hX dX11_canFour_34 3 rfl 35 rfl ?_
  refine rn_iload hX dX11_canFour_35 4 rfl 37 rfl ?_
  refine rn_bind (fun u4 hu4 => ?_)
  refine rn_callV0 hX (gV mcC wd_1199 wd_1201 wd_41 wd_81 wd_1202) rfl hdV_X11_canBe rfl rfl ⟨Nat.le_of_ble_eq_true rfl, Nat.le_of_ble_eq_true rfl⟩ (c_X11_canBe (zl Z) (zG Z) a_this a_state a_readPage a_tape a_letters a_sums a_aside a_groups a_sides a_names a_firstNames a_isKept a_lanes a_lengths a_cells a_had g_isAwake g_taped g_fault g_broken g_brokenAt g_spot g_here g_token g_value g_hasPlaces g_highest g_laid g_groupMany g_isDrawn g_torn g_state x2 x3 x4 hu4) rfl [0, 1] rfl rfl (ci := 11) rfl rfl rfl (Nat.le_of_ble_eq_true rfl) dX11_canFour_37 40 rfl (S' := [.int u4]) rfl ⟨Nat.zero_le _, Nat.zero_le _⟩ ?_
  refine rn_if_ne hX dX11_canFour_40 45 (by decide) 43 rfl ?_ ?_
  · refine rn_ldc2 hX kl179 dX11_canFour_45 48 rfl ?_
    refine rn_aload_n hX dX11_canFour_48 0 rfl 49 rfl ?_
    refine rn_iload_n hX dX11_canFour_49 1 rfl 50 rfl ?_
    refine rn_iload_n hX dX11_canFour_50 2 rfl 51 rfl ?_
    refine rn_bind (fun u5 hu5 => ?_)
    refine rn_callV0 hX (gV mcC wd_1156 wd_1158 wd_36 wd_81 wd_1159) rfl hdV_X11_sq rfl rfl ⟨Nat.le_of_ble_eq_true rfl, Nat.le_of_ble_eq_true rfl⟩ (c_X11_sq (zl Z) (zG Z) a_this a_state a_readPage a_tape a_letters a_sums a_aside a_groups a_sides a_names a_firstNames a_isKept a_lanes a_lengths a_cells a_had g_isAwake g_taped g_fault g_broken g_brokenAt g_spot g_here g_token g_value g_hasPlaces g_highest g_laid g_groupMany g_isDrawn g_torn g_state x1 x2 hu5) rfl [0, 1] rfl rfl (ci := 11) rfl rfl rfl (Nat.le_of_ble_eq_true rfl) dX11_canFour_51 54 rfl (S' := [.long u5, .long (2 : Int64)]) rfl ⟨Nat.zero_le _, Nat.zero_le _⟩ ?_
    refine rn_lmul hX dX11_canFour_54 55 rfl ?_
    refine rn_latl (fun v6 => ?_)
    refine rn_lstore hX dX11_canFour_55 (by decide) (L' := [(5, .long v6), (0, .ref a_this), (1, .int x1), (2, .int x2), (3, .int x3), (4, .int x4)]) rfl 57 rfl ?_
    refine rn_aload_n hX dX11_canFour_57 1 rfl 58 rfl ?_
    refine rn_iload_n hX dX11_canFour_58 2 rfl 59 rfl ?_
    refine rn_iload_n hX dX11_canFour_59 3 rfl 60 rfl ?_
    refine rn_iload_n hX dX11_canFour_60 4 rfl 61 rfl ?_
    refine rn_bind (fun u7 hu7 => ?_)
    refine rn_callV0 hX (gV mcC wd_1220 wd_1222 wd_45 wd_81 wd_1223) rfl hdV_X11_dot rfl rfl ⟨Nat.le_of_ble_eq_true rfl, Nat.le_of_ble_eq_true rfl⟩ (c_X11_dot (zl Z) (zG Z) a_this a_state a_readPage a_tape a_letters a_sums a_aside a_groups a_sides a_names a_firstNames a_isKept a_lanes a_lengths a_cells a_had g_isAwake g_taped g_fault g_broken g_brokenAt g_spot g_here g_token g_value g_hasPlaces g_highest g_laid g_groupMany g_isDrawn g_torn g_state x1 x2 x3 hu7) rfl [0, 1] rfl rfl (ci := 11) rfl rfl rfl (Nat.le_of_ble_eq_true rfl) dX11_canFour_61 64 rfl (S' := [.long u7]) rfl ⟨Nat.zero_le _, Nat.zero_le _⟩ ?_
    refine rn_lstore hX dX11_canFour_64 (by decide) (L' := [(7, .long u7), (5, .long v6), (0, .ref a_this), (1, .int x1), (2, .int x2), (3, .int x3), (4, .int x4)]) rfl 66 rfl ?_
    refine rn_aload_n hX dX11_canFour_66 2 rfl 67 rfl ?_
    refine rn_iload_n hX dX11_canFour_67 3 rfl 68 rfl ?_
    refine rn_iload_n hX dX11_canFour_68 4 rfl 69 rfl ?_
    refine rn_iload hX dX11_canFour_69 6 rfl 71 rfl ?_
    refine rn_bind (fun u8 hu8 => ?_)
    refine rn_callV0 hX (gV mcC wd_1220 wd_1222 wd_45 wd_81 wd_1223) rfl hdV_X11_dot rfl rfl ⟨Nat.le_of_ble_eq_true rfl, Nat.le_of_ble_eq_true rfl⟩ (c_X11_dot (zl Z) (zG Z) a_this a_state a_readPage a_tape a_letters a_sums a_aside a_groups a_sides a_names a_firstNames a_isKept a_lanes a_lengths a_cells a_had g_isAwake g_taped g_fault g_broken g_brokenAt g_spot g_here g_token g_value g_hasPlaces g_highest g_laid g_groupMany g_isDrawn g_torn g_state x1 x2 x4 hu8) rfl [0, 1] rfl rfl (ci := 11) rfl rfl rfl (Nat.le_of_ble_eq_true rfl) dX11_canFour_71 74 rfl (S' := [.long u8]) rfl ⟨Nat.zero_le _, Nat.zero_le _⟩ ?_
    refine rn_lstore hX dX11_canFour_74 (by decide) (L' := [(9, .long u8), (7, .long u7), (5, .long v6), (0, .ref a_this), (1, .int x1), (2, .int x2), (3, .int x3), (4, .int x4)]) rfl 76 rfl ?_
    refine rn_ldc2 hX kl179 dX11_canFour_76 79 rfl ?_
    refine rn_aload_n hX dX11_canFour_79 3 rfl 80 rfl ?_
    refine rn_iload_n hX dX11_canFour_80 4 rfl 81 rfl ?_
    refine rn_iload_n hX dX11_canFour_81 6 rfl 82 rfl ?_
    refine rn_bind (fun u9 hu9 => ?_)
    refine rn_callV0 hX (gV mcC wd_1156 wd_1158 wd_36 wd_81 wd_1159) rfl hdV_X11_sq rfl rfl ⟨Nat.le_of_ble_eq_true rfl, Nat.le_of_ble_eq_true rfl⟩ (c_X11_sq (zl Z) (zG Z) a_this a_state a_readPage a_tape a_letters a_sums a_aside a_groups a_sides a_names a_firstNames a_isKept a_lanes a_lengths a_cells a_had g_isAwake g_taped g_fault g_broken g_brokenAt g_spot g_here g_token g_value g_hasPlaces g_highest g_laid g_groupMany g_isDrawn g_torn g_state x1 x3 hu9) rfl [0, 1] rfl rfl (ci := 11) rfl rfl rfl (Nat.le_of_ble_eq_true rfl) dX11_canFour_82 85 rfl (S' := [.long u9, .long (2 : Int64)]) rfl ⟨Nat.zero_le _, Nat.zero_le _⟩ ?_
    refine rn_lmul hX dX11_canFour_85 86 rfl ?_
    refine rn_latl (fun v10 => ?_)
    refine rn_lstore hX dX11_canFour_86 (by decide) (L' := [(11, .long v10), (9, .long u8), (7, .long u7), (5, .long v6), (0, .ref a_this), (1, .int x1), (2, .int x2), (3, .int x3), (4, .int x4)]) rfl 88 rfl ?_
    refine rn_aload_n hX dX11_canFour_88 4 rfl 89 rfl ?_
    refine rn_iload_n hX dX11_canFour_89 5 rfl 90 rfl ?_
    refine rn_iload_n hX dX11_canFour_90 7 rfl 91 rfl ?_
    refine rn_iload hX dX11_canFour_91 8 rfl 93 rfl ?_
    refine rn_bind (fun u11 hu11 => ?_)
    refine rn_callV0 hX (gV mcC wd_1220 wd_1222 wd_45 wd_81 wd_1223) rfl hdV_X11_dot rfl rfl ⟨Nat.le_of_ble_eq_true rfl, Nat.le_of_ble_eq_true rfl⟩ (c_X11_dot (zl Z) (zG Z) a_this a_state a_readPage a_tape a_letters a_sums a_aside a_groups a_sides a_names a_firstNames a_isKept a_lanes a_lengths a_cells a_had g_isAwake g_taped g_fault g_broken g_brokenAt g_spot g_here g_token g_value g_hasPlaces g_highest g_laid g_groupMany g_isDrawn g_torn g_state x1 x3 x4 hu11) rfl [0, 1] rfl rfl (ci := 11) rfl rfl rfl (Nat.le_of_ble_eq_true rfl) dX11_canFour_93 96 rfl (S' := [.long u11]) rfl ⟨Nat.zero_le _, Nat.zero_le _⟩ ?_
    refine rn_lstore hX dX11_canFour_96 (by decide) (L' := [(13, .long u11), (11, .long v10), (9, .long u8), (7, .long u7), (5, .long v6), (0, .ref a_this), (1, .int x1), (2, .int x2), (3, .int x3), (4, .int x4)]) rfl 98 rfl ?_
    refine rn_ldc2 hX kl179 dX11_canFour_98 101 rfl ?_
    refine rn_aload_n hX dX11_canFour_101 5 rfl 102 rfl ?_
    refine rn_iload_n hX dX11_canFour_102 6 rfl 103 rfl ?_
    refine rn_iload hX dX11_canFour_103 9 rfl 105 rfl ?_
    refine rn_bind (fun u12 hu12 => ?_)
    refine rn_callV0 hX (gV mcC wd_1156 wd_1158 wd_36 wd_81 wd_1159) rfl hdV_X11_sq rfl rfl ⟨Nat.le_of_ble_eq_true rfl, Nat.le_of_ble_eq_true rfl⟩ (c_X11_sq (zl Z) (zG Z) a_this a_state a_readPage a_tape a_letters a_sums a_aside a_groups a_sides a_names a_firstNames a_isKept a_lanes a_lengths a_cells a_had g_isAwake g_taped g_fault g_broken g_brokenAt g_spot g_here g_token g_value g_hasPlaces g_highest g_laid g_groupMany g_isDrawn g_torn g_state x1 x4 hu12) rfl [0, 1] rfl rfl (ci := 11) rfl rfl rfl (Nat.le_of_ble_eq_true rfl) dX11_canFour_105 108 rfl (S' := [.long u12, .long (2 : Int64)]) rfl ⟨Nat.zero_le _, Nat.zero_le _⟩ ?_
    refine rn_lmul hX dX11_canFour_108 109 rfl ?_
    refine rn_latl (fun v13 => ?_)
    refine rn_lstore hX dX11_canFour_109 (by decide) (L' := [(15, .long v13), (13, .long u11), (11, .long v10), (9, .long u8), (7, .long u7), (5, .long v6), (0, .ref a_this), (1, .int x1), (2, .int x2), (3, .int x3), (4, .int x4)]) rfl 111 rfl ?_
    refine rn_lload hX dX11_canFour_111 5 rfl 113 rfl ?_
    refine rn_lload hX dX11_canFour_113 2 rfl 115 rfl ?_
    refine rn_lload hX dX11_canFour_115 0 rfl 117 rfl ?_
    refine rn_lmul hX dX11_canFour_117 118 rfl ?_
    refine rn_lload hX dX11_canFour_118 1 rfl 120 rfl ?_
    refine rn_lload hX dX11_canFour_120 1 rfl 122 rfl ?_
    refine rn_lmul hX dX11_canFour_122 123 rfl ?_
    refine rn_lsub hX dX11_canFour_123 124 rfl ?_
    refine rn_lmul hX dX11_canFour_124 125 rfl ?_
    refine rn_lload hX dX11_canFour_125 4 rfl 127 rfl ?_
    refine rn_lload hX dX11_canFour_127 4 rfl 129 rfl ?_
    refine rn_lload hX dX11_canFour_129 0 rfl 131 rfl ?_
    refine rn_lmul hX dX11_canFour_131 132 rfl ?_
    refine rn_lload hX dX11_canFour_132 1 rfl 134 rfl ?_
    refine rn_lload hX dX11_canFour_134 3 rfl 136 rfl ?_
    refine rn_lmul hX dX11_canFour_136 137 rfl ?_
    refine rn_lsub hX dX11_canFour_137 138 rfl ?_
    refine rn_lmul hX dX11_canFour_138 139 rfl ?_
    refine rn_lsub hX dX11_canFour_139 140 rfl ?_
    refine rn_lload hX dX11_canFour_140 3 rfl 142 rfl ?_
    refine rn_lload hX dX11_canFour_142 4 rfl 144 rfl ?_
    refine rn_lload hX dX11_canFour_144 1 rfl 146 rfl ?_
    refine rn_lmul hX dX11_canFour_146 147 rfl ?_
    refine rn_lload hX dX11_canFour_147 2 rfl 149 rfl ?_
    refine rn_lload hX dX11_canFour_149 3 rfl 151 rfl ?_
    refine rn_lmul hX dX11_canFour_151 152 rfl ?_
    refine rn_lsub hX dX11_canFour_152 153 rfl ?_
    refine rn_lmul hX dX11_canFour_153 154 rfl ?_
    refine rn_ladd hX dX11_canFour_154 155 rfl ?_
    refine rn_lconst hX dX11_canFour_155 156 rfl lc_0 ?_
    refine rn_lcmp_ne hX dX11_canFour_156 157 rfl dX11_canFour_157 164 (by decide) 160 rfl ?_ ?_
    · refine rn_iconst hX dX11_canFour_164 165 rfl ic_0 ?_
      exact rn_zret hX rfl hr (by rw [henc]; rfl) dX11_canFour_165
    refine rn_iconst hX dX11_canFour_160 161 rfl ic_1 ?_
    refine rn_goto hX dX11_canFour_161 165 (by decide) ?_
    exact rn_zret hX rfl hr (by rw [henc]; rfl) dX11_canFour_165
  refine rn_iconst hX dX11_canFour_43 44 rfl ic_0 ?_
  exact rn_zret hX rfl hr (by rw [henc]; rfl) dX11_canFour_44
