abbrev rmX11_farthest : Room := { frames := 0, cells := 0, slots := 0, locals := 0 }
theorem hdV_X11_farthest : yX11_farthest.cls = RX11 ∧ yX11_farthest.cls ≠ "java/lang/invoke/MethodHandle" ∧ yX11_farthest.cls ≠ "java/lang/invoke/VarHandle" ∧ (parseMethodDescriptor yX11_farthest.desc).map (fun d => d.parameters.length) = some 0 := by decide +kernel
set_option maxHeartbeats 4000000 in
set_option maxRecDepth 100000 in
theorem c_X11_farthest (l : Launch) (G : GT) (a_this a_state a_readPage a_tape a_letters a_sums a_aside a_groups a_sides a_names a_firstNames a_isKept a_lanes a_lengths a_cells a_had : Nat) (g_isAwake : Int32) (g_taped : Int32) (g_fault : Int32) (g_broken : Int32) (g_brokenAt : Int32) (g_spot : Int32) (g_here : Int32) (g_token : Int32) (g_value : Int32) (g_hasPlaces : Int32) (g_highest : Int32) (g_laid : Int32) (g_groupMany : Int32) (g_isDrawn : Int32) (g_torn : Int32) (g_state : (Nat → Int32)) {u : Int32} (hu : X11_farthest g_state = some u) : Ctr l G yX11_farthest wsX11_farthest rmX11_farthest [.ref a_this] [(a_this, .inr (11, [.ref a_state, .ref a_readPage, .int g_isAwake, .ref a_tape, .int g_taped, .int g_fault, .int g_broken, .int g_brokenAt, .int g_spot, .int g_here, .int g_token, .int g_value, .ref a_letters, .int g_hasPlaces, .int g_highest, .ref a_sums, .ref a_aside, .ref a_groups, .ref a_sides, .int g_laid, .int g_groupMany, .int g_isDrawn, .ref a_names, .ref a_firstNames, .ref a_isKept, .ref a_lanes, .ref a_lengths, .ref a_cells, .int g_torn, .ref a_had])), (a_state, .inl (G.2.1 1, 96, .inl g_state))] (some (.int u)) [(a_this, .inr (11, [.ref a_state, .ref a_readPage, .int g_isAwake, .ref a_tape, .int g_taped, .int g_fault, .int g_broken, .int g_brokenAt, .int g_spot, .int g_here, .int g_token, .int g_value, .ref a_letters, .int g_hasPlaces, .int g_highest, .ref a_sums, .ref a_aside, .ref a_groups, .ref a_sides, .int g_laid, .int g_groupMany, .int g_isDrawn, .ref a_names, .ref a_firstNames, .ref a_isKept, .ref a_lanes, .ref a_lengths, .ref a_cells, .int g_torn, .ref a_had])), (a_state, .inl (G.2.1 1, 96, .inl g_state))] := by
  obtain ⟨enc, henc⟩ : ∃ enc : (Int32) → Option Value × va_W, enc = fun u => (((some (.int u)) : Option Value), ([(a_this, .inr (11, [.ref a_state, .ref a_readPage, .int g_isAwake, .ref a_tape, .int g_taped, .int g_fault, .int g_broken, .int g_brokenAt, .int g_spot, .int g_here, .int g_token, .int g_value, .ref a_letters, .int g_hasPlaces, .int g_highest, .ref a_sums, .ref a_aside, .ref a_groups, .ref a_sides, .int g_laid, .int g_groupMany, .int g_isDrawn, .ref a_names, .ref a_firstNames, .ref a_isKept, .ref a_lanes, .ref a_lengths, .ref a_cells, .int g_torn, .ref a_had])), (a_state, .inl (G.2.1 1, 96, .inl g_state))] : va_W)) := ⟨_, rfl⟩
  refine ctr_of (cc := cX11_farthest) (own := RX11) (E := Option.map enc) (o := X11_farthest g_state) (by decide) rfl rfl (L := [(0, .ref a_this)]) rfl (Nat.le_of_ble_eq_true rfl) (by rw [hu, henc]; rfl) ?_
  intro Z hX hl hG hr
  subst hl; subst hG
  have fl7 : (Cond.fieldLink RX11 7 "OnlyFarModel" "state" "[I").before (za Z) (zs Z) = true := hX.wd (mcC _ wd_990)
  have inX11 : ∀ w ∈ u_ws RX11 TX11 30, w ∈ wsX11_farthest := fun w h => mcC w (inC_X11 w h)
  have hB4 : ∀ (again : Int32 → Int32 → Option (Int32)) (hagain : ∀ (x1 : Int32) (x2 : Int32), Rn Z 3 (Option.map enc) 0 0 4 [(0, .ref a_this), (1, .int x1), (2, .int x2)] [] [(a_this, .inr (11, [.ref a_state, .ref a_readPage, .int g_isAwake, .ref a_tape, .int g_taped, .int g_fault, .int g_broken, .int g_brokenAt, .int g_spot, .int g_here, .int g_token, .int g_value, .ref a_letters, .int g_hasPlaces, .int g_highest, .ref a_sums, .ref a_aside, .ref a_groups, .ref a_sides, .int g_laid, .int g_groupMany, .int g_isDrawn, .ref a_names, .ref a_firstNames, .ref a_isKept, .ref a_lanes, .ref a_lengths, .ref a_cells, .int g_torn, .ref a_had])), (a_state, .inl ((zG Z).2.1 1, 96, .inl g_state))] (again x1 x2)) (x1 : Int32) (x2 : Int32), Rn Z 3 (Option.map enc) 0 0 4 [(0, .ref a_this), (1, .int x1), (2, .int x2)] [] [(a_this, .inr (11, [.ref a_state, .ref a_readPage, .int g_isAwake, .ref a_tape, .int g_taped, .int g_fault, .int g_broken, .int g_brokenAt, .int g_spot, .int g_here, .int g_token, .int g_value, .ref a_letters, .int g_hasPlaces, .int g_highest, .ref a_sums, .ref a_aside, .ref a_groups, .ref a_sides, .int g_laid, .int g_groupMany, .int g_isDrawn, .ref a_names, .ref a_firstNames, .ref a_isKept, .ref a_lanes, .ref a_lengths, .ref a_cells, .int g_torn, .ref a_had])), (a_state, .inl ((zG Z).2.1 1, 96, .inl g_state))] (X11_farthest_B4 g_state again x1 x2) := by
    intro again hagain x1 x2
    unfold X11_farthest_B4
    refine rn_iload_n hX dX11_farthest_4 2 rfl 5 rfl ?_
    refine rn_aload_n hX dX11_farthest_5 0 rfl 6 rfl ?_
    refine rn_get hX inX11 0 rfl rfl 0 (by decide) fl7 rfl rfl dX11_farthest_6 9 rfl ?_
    refine rn_bipush hX dX11_farthest_9 11 rfl bp_30 ?_
    refine rn_ialdk hX 1 rfl cl_30 (vpk (by decide)) dX11_farthest_11 12 rfl ?_
    refine rn_icmp_ge hX dX11_farthest_12 33 (by decide) 15 rfl ?_ ?_
    · refine rn_iload_n hX dX11_farthest_33 1 rfl 34 rfl ?_
      exact rn_iret hX hr (by rw [henc]; rfl) dX11_farthest_34
    refine rn_iload_n hX dX11_farthest_15 1 rfl 16 rfl ?_
    refine rn_aload_n hX dX11_farthest_16 0 rfl 17 rfl ?_
    refine rn_get hX inX11 0 rfl rfl 0 (by decide) fl7 rfl rfl dX11_farthest_17 20 rfl ?_
    refine rn_bipush hX dX11_farthest_20 22 rfl bp_22 ?_
    refine rn_iload_n hX dX11_farthest_22 2 rfl 23 rfl ?_
    refine rn_iadd hX dX11_farthest_23 24 rfl ?_
    refine rn_gd (fun hi1 => ?_)
    refine rn_iald hX 1 rfl hi1 dX11_farthest_24 25 rfl ?_
    refine rn_iadd hX dX11_farthest_25 26 rfl ?_
    refine rn_lati (fun v2 => ?_)
    refine rn_istore_n hX dX11_farthest_26 1 rfl (by decide) (L' := [(1, .int v2), (0, .ref a_this), (2, .int x2)]) rfl 27 rfl ?_
    refine rn_iinc hX dX11_farthest_27 2 rfl ic_1 (by decide) (L' := fun v3 => [(2, .int v3), (1, .int v2), (0, .ref a_this)]) (fun _ => rfl) 30 rfl (fun v3 => ?_)
    refine rn_goto hX dX11_farthest_30 4 (by decide) ?_
    refine rn_sub [2, 1, 0] rfl ?_
    exact hagain v2 v3
  have hL4 : ∀ (n : Nat) (x1 : Int32) (x2 : Int32), Rn Z 3 (Option.map enc) 0 0 4 [(0, .ref a_this), (1, .int x1), (2, .int x2)] [] [(a_this, .inr (11, [.ref a_state, .ref a_readPage, .int g_isAwake, .ref a_tape, .int g_taped, .int g_fault, .int g_broken, .int g_brokenAt, .int g_spot, .int g_here, .int g_token, .int g_value, .ref a_letters, .int g_hasPlaces, .int g_highest, .ref a_sums, .ref a_aside, .ref a_groups, .ref a_sides, .int g_laid, .int g_groupMany, .int g_isDrawn, .ref a_names, .ref a_firstNames, .ref a_isKept, .ref a_lanes, .ref a_lengths, .ref a_cells, .int g_torn, .ref a_had])), (a_state, .inl ((zG Z).2.1 1, 96, .inl g_state))] (X11_farthest_L4 g_state n x1 x2) := by
    intro n
    induction n with
    | zero => intros; exact rn_none
    | succ n ih => exact hB4 _ ih
  unfold X11_farthest
  refine rn_iconst hX dX11_farthest_0 1 rfl ic_0 ?_
  refine rn_istore_n hX dX11_farthest_1 1 rfl (by decide) (L' := [(1, .int (0 : Int32)), (0, .ref a_this)]) rfl 2 rfl ?_
  refine rn_iconst hX dX11_farthest_2 3 rfl ic_0 ?_
  refine rn_istore_n hX dX11_farthest_3 2 rfl (by decide) (L' := [(2, .int (0 : Int32)), (1, .int (0 : Int32)), (0, .ref a_this)]) rfl 4 rfl ?_
  refine rn_sub [2, 1, 0] rfl ?_
  exact (hL4  1000) (0 : Int32) (0 : Int32)
abbrev rmX11_nearest : Room := { frames := 1, cells := 0, slots := 0, locals := 22 }
theorem hdV_X11_nearest : yX11_nearest.cls = RX11 ∧ yX11_nearest.cls ≠ "java/lang/invoke/MethodHandle" ∧ yX11_nearest.cls ≠ "java/lang/invoke/VarHandle" ∧ (parseMethodDescriptor yX11_nearest.desc).map (fun d => d.parameters.length) = some 0 := by decide +kernel
set_option maxHeartbeats 4000000 in
set_option maxRecDepth 100000 in
theorem c_X11_nearest (l : Launch) (G : GT) (a_this a_state a_readPage a_tape a_letters a_sums a_aside a_groups a_sides a_names a_firstNames a_isKept a_lanes a_lengths a_cells a_had : Nat) (g_isAwake : Int32) (g_taped : Int32) (g_fault : Int32) (g_broken : Int32) (g_brokenAt : Int32) (g_spot : Int32) (g_here : Int32) (g_token : Int32) (g_value : Int32) (g_hasPlaces : Int32) (g_highest : Int32) (g_laid : Int32) (g_groupMany : Int32) (g_isDrawn : Int32) (g_torn : Int32) (g_state : (Nat → Int32)) {u : Int32} (hu : X11_nearest g_state = some u) : Ctr l G yX11_nearest wsX11_nearest rmX11_nearest [.ref a_this] [(a_this, .inr (11, [.ref a_state, .ref a_readPage, .int g_isAwake, .ref a_tape, .int g_taped, .int g_fault, .int g_broken, .int g_brokenAt, .int g_spot, .int g_here, .int g_token, .int g_value, .ref a_letters, .int g_hasPlaces, .int g_highest, .ref a_sums, .ref a_aside, .ref a_groups, .ref a_sides, .int g_laid, .int g_groupMany, .int g_isDrawn, .ref a_names, .ref a_firstNames, .ref a_isKept, .ref a_lanes, .ref a_lengths, .ref a_cells, .int g_torn, .ref a_had])), (a_state, .inl (G.2.1 1, 96, .inl g_state))] (some (.int u)) [(a_this, .inr (11, [.ref a_state, .ref a_readPage, .int g_isAwake, .ref a_tape, .int g_taped, .int g_fault, .int g_broken, .int g_brokenAt, .int g_spot, .int g_here, .int g_token, .int g_value, .ref a_letters, .int g_hasPlaces, .int g_highest, .ref a_sums, .ref a_aside, .ref a_groups, .ref a_sides, .int g_laid, .int g_groupMany, .int g_isDrawn, .ref a_names, .ref a_firstNames, .ref a_isKept, .ref a_lanes, .ref a_lengths, .ref a_cells, .int g_torn, .ref a_had])), (a_state, .inl (G.2.1 1, 96, .inl g_state))] := by
  obtain ⟨enc, henc⟩ : ∃ enc : (Int32) → Option Value × va_W, enc = fun u => (((some (.int u)) : Option Value), ([(a_this, .inr (11, [.ref a_state, .ref a_readPage, .int g_isAwake, .ref a_tape, .int g_taped, .int g_fault, .int g_broken, .int g_brokenAt, .int g_spot, .int g_here, .int g_token, .int g_value, .ref a_letters, .int g_hasPlaces, .int g_highest, .ref a_sums, .ref a_aside, .ref a_groups, .ref a_sides, .int g_laid, .int g_groupMany, .int g_isDrawn, .ref a_names, .ref a_firstNames, .ref a_isKept, .ref a_lanes, .ref a_lengths, .ref a_cells, .int g_torn, .ref a_had])), (a_state, .inl (G.2.1 1, 96, .inl g_state))] : va_W)) := ⟨_, rfl⟩
  refine ctr_of (cc := cX11_nearest) (own := RX11) (E := Option.map enc) (o := X11_nearest g_state) (by decide) rfl rfl (L := [(0, .ref a_this)]) rfl (Nat.le_of_ble_eq_true rfl) (by rw [hu, henc]; rfl) ?_
  intro Z hX hl hG hr
  subst hl; subst hG
  have fl7 : (Cond.fieldLink RX11 7 "OnlyFarModel" "state" "[I").before (za Z) (zs Z) = true := hX.wd (mcC _ wd_990)
  have inX11 : ∀ w ∈ u_ws RX11 TX11 30, w ∈ wsX11_nearest := fun w h => mcC w (inC_X11 w h)
  have hJ48 : ∀ (x1 : Int32), Rn Z 3 (Option.map enc) 0 0 48 [(0, .ref a_this), (1, .int x1)] [] [(a_this, .inr (11, [.ref a_state, .ref a_readPage, .int g_isAwake, .ref a_tape, .int g_taped, .int g_fault, .int g_broken, .int g_brokenAt, .int g_spot, .int g_here, .int g_token, .int g_value, .ref a_letters, .int g_hasPlaces, .int g_highest, .ref a_sums, .ref a_aside, .ref a_groups, .ref a_sides, .int g_laid, .int g_groupMany, .int g_isDrawn, .ref a_names, .ref a_firstNames, .ref a_isKept, .ref a_lanes, .ref a_lengths, .ref a_cells, .int g_torn, .ref a_had])), (a_state, .inl ((zG Z).2.1 1, 96, .inl g_state))] (X11_nearest_J48 g_state x1) := by
    intro x1
    unfold X11_nearest_J48
    refine rn_iconst hX dX11_nearest_48 49 rfl ic_2 ?_
    refine rn_iload_n hX dX11_nearest_49 1 rfl 50 rfl ?_
    refine rn_imul hX dX11_nearest_50 51 rfl ?_
    refine rn_aload_n hX dX11_nearest_51 0 rfl 52 rfl ?_
    refine rn_bind (fun u1 hu1 => ?_)
    refine rn_callV0 hX (gV mcC wd_1414 wd_1416 wd_67 wd_81 wd_1417) rfl hdV_X11_farthest rfl rfl ⟨Nat.le_of_ble_eq_true rfl, Nat.le_of_ble_eq_true rfl⟩ (c_X11_farthest (zl Z) (zG Z) a_this a_state a_readPage a_tape a_letters a_sums a_aside a_groups a_sides a_names a_firstNames a_isKept a_lanes a_lengths a_cells a_had g_isAwake g_taped g_fault g_broken g_brokenAt g_spot g_here g_token g_value g_hasPlaces g_highest g_laid g_groupMany g_isDrawn g_torn g_state hu1) rfl [0, 1] rfl rfl (ci := 11) rfl rfl rfl (Nat.le_of_ble_eq_true rfl) dX11_nearest_52 55 rfl (S' := [.int u1, .int ((2 : Int32) * x1)]) rfl ⟨Nat.zero_le _, Nat.zero_le _⟩ ?_
    refine rn_icmp_le hX dX11_nearest_55 69 (by decide) 58 rfl ?_ ?_
    · refine rn_iconst hX dX11_nearest_69 70 rfl ic_0 ?_
      exact rn_iret hX hr (by rw [henc]; rfl) dX11_nearest_70
    refine rn_iconst hX dX11_nearest_58 59 rfl ic_2 ?_
    refine rn_iload_n hX dX11_nearest_59 1 rfl 60 rfl ?_
    refine rn_imul hX dX11_nearest_60 61 rfl ?_
    refine rn_aload_n hX dX11_nearest_61 0 rfl 62 rfl ?_
    refine rn_bind (fun u2 hu2 => ?_)
    refine rn_callV0 hX (gV mcC wd_1414 wd_1416 wd_67 wd_81 wd_1417) rfl hdV_X11_farthest rfl rfl ⟨Nat.le_of_ble_eq_true rfl, Nat.le_of_ble_eq_true rfl⟩ (c_X11_farthest (zl Z) (zG Z) a_this a_state a_readPage a_tape a_letters a_sums a_aside a_groups a_sides a_names a_firstNames a_isKept a_lanes a_lengths a_cells a_had g_isAwake g_taped g_fault g_broken g_brokenAt g_spot g_here g_token g_value g_hasPlaces g_highest g_laid g_groupMany g_isDrawn g_torn g_state hu2) rfl [0, 1] rfl rfl (ci := 11) rfl rfl rfl (Nat.le_of_ble_eq_true rfl) dX11_nearest_62 65 rfl (S' := [.int u2, .int ((2 : Int32) * x1)]) rfl ⟨Nat.zero_le _, Nat.zero_le _⟩ ?_
    refine rn_isub hX dX11_nearest_65 66 rfl ?_
    refine rn_goto hX dX11_nearest_66 70 (by decide) ?_
    exact rn_iret hX hr (by rw [henc]; rfl) dX11_nearest_70
  have hJ41 : ∀ (again : Int32 → Int32 → Option (Int32)) (k48 : Int32 → Option (Int32)) (hagain : ∀ (x1 : Int32) (x2 : Int32), Rn Z 3 (Option.map enc) 0 0 4 [(0, .ref a_this), (1, .int x1), (2, .int x2)] [] [(a_this, .inr (11, [.ref a_state, .ref a_readPage, .int g_isAwake, .ref a_tape, .int g_taped, .int g_fault, .int g_broken, .int g_brokenAt, .int g_spot, .int g_here, .int g_token, .int g_value, .ref a_letters, .int g_hasPlaces, .int g_highest, .ref a_sums, .ref a_aside, .ref a_groups, .ref a_sides, .int g_laid, .int g_groupMany, .int g_isDrawn, .ref a_names, .ref a_firstNames, .ref a_isKept, .ref a_lanes, .ref a_lengths, .ref a_cells, .int g_torn, .ref a_had])), (a_state, .inl ((zG Z).2.1 1, 96, .inl g_state))] (again x1 x2)) (hk48 : ∀ (x1 : Int32), Rn Z 3 (Option.map enc) 0 0 48 [(0, .ref a_this), (1, .int x1)] [] [(a_this, .inr (11, [.ref a_state, .ref a_readPage, .int g_isAwake, .ref a_tape, .int g_taped, .int g_fault, .int g_broken, .int g_brokenAt, .int g_spot, .int g_here, .int g_token, .int g_value, .ref a_letters, .int g_hasPlaces, .int g_highest, .ref a_sums, .ref a_aside, .ref a_groups, .ref a_sides, .int g_laid, .int g_groupMany, .int g_isDrawn, .ref a_names, .ref a_firstNames, .ref a_isKept, .ref a_lanes, .ref a_lengths, .ref a_cells, .int g_torn, .ref a_had])), (a_state, .inl ((zG Z).2.1 1, 96, .inl g_state))] (k48 x1)) (x2 : Int32) (s0 : Int32), Rn Z 3 (Option.map enc) 0 0 41 [(0, .ref a_this), (2, .int x2)] [.int s0] [(a_this, .inr (11, [.ref a_state, .ref a_readPage, .int g_isAwake, .ref a_tape, .int g_taped, .int g_fault, .int g_broken, .int g_brokenAt, .int g_spot, .int g_here, .int g_token, .int g_value, .ref a_letters, .int g_hasPlaces, .int g_highest, .ref a_sums, .ref a_aside, .ref a_groups, .ref a_sides, .int g_laid, .int g_groupMany, .int g_isDrawn, .ref a_names, .ref a_firstNames, .ref a_isKept, .ref a_lanes, .ref a_lengths, .ref a_cells, .int g_torn, .ref a_had])), (a_state, .inl ((zG Z).2.1 1, 96, .inl g_state))] (X11_nearest_J41 again k48 x2 s0) := by
    intro again k48 hagain hk48 x2 s0
    unfold X11_nearest_J41
    refine rn_istore_n hX dX11_nearest_41 1 rfl (by decide) (L' := [(1, .int s0), (0, .ref a_this), (2, .int x2)]) rfl 42 rfl ?_
    refine rn_iinc hX dX11_nearest_42 2 rfl ic_1 (by decide) (L' := fun v3 => [(2, .int v3), (1, .int s0), (0, .ref a_this)]) (fun _ => rfl) 45 rfl (fun v3 => ?_)
    refine rn_goto hX dX11_nearest_45 4 (by decide) ?_
    refine rn_sub [2, 1, 0] rfl ?_
    exact hagain s0 v3
  have hB4 : ∀ (again : Int32 → Int32 → Option (Int32)) (k48 : Int32 → Option (Int32)) (hagain : ∀ (x1 : Int32) (x2 : Int32), Rn Z 3 (Option.map enc) 0 0 4 [(0, .ref a_this), (1, .int x1), (2, .int x2)] [] [(a_this, .inr (11, [.ref a_state, .ref a_readPage, .int g_isAwake, .ref a_tape, .int g_taped, .int g_fault, .int g_broken, .int g_brokenAt, .int g_spot, .int g_here, .int g_token, .int g_value, .ref a_letters, .int g_hasPlaces, .int g_highest, .ref a_sums, .ref a_aside, .ref a_groups, .ref a_sides, .int g_laid, .int g_groupMany, .int g_isDrawn, .ref a_names, .ref a_firstNames, .ref a_isKept, .ref a_lanes, .ref a_lengths, .ref a_cells, .int g_torn, .ref a_had])), (a_state, .inl ((zG Z).2.1 1, 96, .inl g_state))] (again x1 x2)) (hk48 : ∀ (x1 : Int32), Rn Z 3 (Option.map enc) 0 0 48 [(0, .ref a_this), (1, .int x1)] [] [(a_this, .inr (11, [.ref a_state, .ref a_readPage, .int g_isAwake, .ref a_tape, .int g_taped, .int g_fault, .int g_broken, .int g_brokenAt, .int g_spot, .int g_here, .int g_token, .int g_value, .ref a_letters, .int g_hasPlaces, .int g_highest, .ref a_sums, .ref a_aside, .ref a_groups, .ref a_sides, .int g_laid, .int g_groupMany, .int g_isDrawn, .ref a_names, .ref a_firstNames, .ref a_isKept, .ref a_lanes, .ref a_lengths, .ref a_cells, .int g_torn, .ref a_had])), (a_state, .inl ((zG Z).2.1 1, 96, .inl g_state))] (k48 x1)) (x1 : Int32) (x2 : Int32), Rn Z 3 (Option.map enc) 0 0 4 [(0, .ref a_this), (1, .int x1), (2, .int x2)] [] [(a_this, .inr (11, [.ref a_state, .ref a_readPage, .int g_isAwake, .ref a_tape, .int g_taped, .int g_fault, .int g_broken, .int g_brokenAt, .int g_spot, .int g_here, .int g_token, .int g_value, .ref a_letters, .int g_hasPlaces, .int g_highest, .ref a_sums, .ref a_aside, .ref a_groups, .ref a_sides, .int g_laid, .int g_groupMany, .int g_isDrawn, .ref a_names, .ref a_firstNames, .ref a_isKept, .ref a_lanes, .ref a_lengths, .ref a_cells, .int g_torn, .ref a_had])), (a_state, .inl ((zG Z).2.1 1, 96, .inl g_state))] (X11_nearest_B4 g_state again k48 x1 x2) := by
    intro again k48 hagain hk48 x1 x2
    unfold X11_nearest_B4
    refine rn_iload_n hX dX11_nearest_4 2 rfl 5 rfl ?_
    refine rn_aload_n hX dX11_nearest_5 0 rfl 6 rfl ?_
    refine rn_get hX inX11 0 rfl rfl 0 (by decide) fl7 rfl rfl dX11_nearest_6 9 rfl ?_
    refine rn_bipush hX dX11_nearest_9 11 rfl bp_30 ?_
    refine rn_ialdk hX 1 rfl cl_30 (vpk (by decide)) dX11_nearest_11 12 rfl ?_
    refine rn_icmp_ge hX dX11_nearest_12 48 (by decide) 15 rfl ?_ ?_
    · refine rn_sub [0, 1] rfl ?_
      exact hk48 x1
    refine rn_aload_n hX dX11_nearest_15 0 rfl 16 rfl ?_
    refine rn_get hX inX11 0 rfl rfl 0 (by decide) fl7 rfl rfl dX11_nearest_16 19 rfl ?_
    refine rn_bipush hX dX11_nearest_19 21 rfl bp_22 ?_
    refine rn_iload_n hX dX11_nearest_21 2 rfl 22 rfl ?_
    refine rn_iadd hX dX11_nearest_22 23 rfl ?_
    refine rn_gd (fun hi4 => ?_)
    refine rn_iald hX 1 rfl hi4 dX11_nearest_23 24 rfl ?_
    refine rn_iload_n hX dX11_nearest_24 1 rfl 25 rfl ?_
    refine rn_icmp_le hX dX11_nearest_25 40 (by decide) 28 rfl ?_ ?_
    · refine rn_iload_n hX dX11_nearest_40 1 rfl 41 rfl ?_
      refine rn_sub [0, 2] rfl ?_
      exact (hJ41 _ _ hagain hk48) x2 x1
    refine rn_aload_n hX dX11_nearest_28 0 rfl 29 rfl ?_
    refine rn_get hX inX11 0 rfl rfl 0 (by decide) fl7 rfl rfl dX11_nearest_29 32 rfl ?_
    refine rn_bipush hX dX11_nearest_32 34 rfl bp_22 ?_
    refine rn_iload_n hX dX11_nearest_34 2 rfl 35 rfl ?_
    refine rn_iadd hX dX11_nearest_35 36 rfl ?_
    refine rn_iald hX 1 rfl hi4 dX11_nearest_36 37 rfl ?_
    refine rn_goto hX dX11_nearest_37 41 (by decide) ?_
    refine rn_sub [0, 2] rfl ?_
    exact (hJ41 _ _ hagain hk48) x2 (g_state ((22 : Int32) + x2).toNatClampNeg)
  have hL4 : ∀ (k48 : Int32 → Option (Int32)) (hk48 : ∀ (x1 : Int32), Rn Z 3 (Option.map enc) 0 0 48 [(0, .ref a_this), (1, .int x1)] [] [(a_this, .inr (11, [.ref a_state, .ref a_readPage, .int g_isAwake, .ref a_tape, .int g_taped, .int g_fault, .int g_broken, .int g_brokenAt, .int g_spot, .int g_here, .int g_token, .int g_value, .ref a_letters, .int g_hasPlaces, .int g_highest, .ref a_sums, .ref a_aside, .ref a_groups, .ref a_sides, .int g_laid, .int g_groupMany, .int g_isDrawn, .ref a_names, .ref a_firstNames, .ref a_isKept, .ref a_lanes, .ref a_lengths, .ref a_cells, .int g_torn, .ref a_had])), (a_state, .inl ((zG Z).2.1 1, 96, .inl g_state))] (k48 x1)) (n : Nat) (x1 : Int32) (x2 : Int32), Rn Z 3 (Option.map enc) 0 0 4 [(0, .ref a_this), (1, .int x1), (2, .int x2)] [] [(a_this, .inr (11, [.ref a_state, .ref a_readPage, .int g_isAwake, .ref a_tape, .int g_taped, .int g_fault, .int g_broken, .int g_brokenAt, .int g_spot, .int g_here, .int g_token, .int g_value, .ref a_letters, .int g_hasPlaces, .int g_highest, .ref a_sums, .ref a_aside, .ref a_groups, .ref a_sides, .int g_laid, .int g_groupMany, .int g_isDrawn, .ref a_names, .ref a_firstNames, .ref a_isKept, .ref a_lanes, .ref a_lengths, .ref a_cells, .int g_torn, .ref a_had])), (a_state, .inl ((zG Z).2.1 1, 96, .inl g_state))] (X11_nearest_L4 g_state k48 n x1 x2) := by
    intro k48 hk48 n
    induction n with
    | zero => intros; exact rn_none
    | succ n ih => exact hB4 _ _ ih hk48
  unfold X11_nearest
  refine rn_iconst hX dX11_nearest_0 1 rfl ic_0 ?_
  refine rn_istore_n hX dX11_nearest_1 1 rfl (by decide) (L' := [(1, .int (0 : Int32)), (0, .ref a_this)]) rfl 2 rfl ?_
  refine rn_iconst hX dX11_nearest_2 3 rfl ic_0 ?_
  refine rn_istore_n hX dX11_nearest_3 2 rfl (by decide) (L' := [(2, .int (0 : Int32)), (1, .int (0 : Int32)), (0, .ref a_this)]) rfl 4 rfl ?_
  refine rn_sub [2, 1, 0] rfl ?_
  exact (hL4 _ hJ48 1000) (0 : Int32) (0 : Int32)
abbrev rmX11_road : Room := { frames := 2, cells := 0, slots := 0, locals := 44 }
theorem hdV_X11_road : yX11_road.cls = RX11 ∧ yX11_road.cls ≠ "java/lang/invoke/MethodHandle" ∧ yX11_road.cls ≠ "java/lang/invoke/VarHandle" ∧ (parseMethodDescriptor yX11_road.desc).map (fun d => d.parameters.length) = some 1 := by decide +kernel
set_option maxHeartbeats 4000000 in
set_option maxRecDepth 100000 in
theorem c_X11_road (l : Launch) (G : GT) (a_this a_state a_readPage a_tape a_letters a_sums a_aside a_groups a_sides a_names a_firstNames a_isKept a_lanes a_lengths a_cells a_had : Nat) (g_isAwake : Int32) (g_taped : Int32) (g_fault : Int32) (g_broken : Int32) (g_brokenAt : Int32) (g_spot : Int32) (g_here : Int32) (g_token : Int32) (g_value : Int32) (g_hasPlaces : Int32) (g_highest : Int32) (g_laid : Int32) (g_groupMany : Int32) (g_isDrawn : Int32) (g_torn : Int32) (g_state : (Nat → Int32)) (x1 : Int32) {u : Int32} (hu : X11_road x1 g_state = some u) : Ctr l G yX11_road wsX11_road rmX11_road [.ref a_this, .int x1] [(a_this, .inr (11, [.ref a_state, .ref a_readPage, .int g_isAwake, .ref a_tape, .int g_taped, .int g_fault, .int g_broken, .int g_brokenAt, .int g_spot, .int g_here, .int g_token, .int g_value, .ref a_letters, .int g_hasPlaces, .int g_highest, .ref a_sums, .ref a_aside, .ref a_groups, .ref a_sides, .int g_laid, .int g_groupMany, .int g_isDrawn, .ref a_names, .ref a_firstNames, .ref a_isKept, .ref a_lanes, .ref a_lengths, .ref a_cells, .int g_torn, .ref a_had])), (a_state, .inl (G.2.1 1, 96, .inl g_state))] (some (.int u)) [(a_this, .inr (11, [.ref a_state, .ref a_readPage, .int g_isAwake, .ref a_tape, .int g_taped, .int g_fault, .int g_broken, .int g_brokenAt, .int g_spot, .int g_here, .int g_token, .int g_value, .ref a_letters, .int g_hasPlaces, .int g_highest, .ref a_sums, .ref a_aside, .ref a_groups, .ref a_sides, .int g_laid, .int g_groupMany, .int g_isDrawn, .ref a_names, .ref a_firstNames, .ref a_isKept, .ref a_lanes, .ref a_lengths, .ref a_cells, .int g_torn, .ref a_had])), (a_state, .inl (G.2.1 1, 96, .inl g_state))] := by
  obtain ⟨enc, henc⟩ : ∃ enc : (Int32) → Option Value × va_W, enc = fun u => (((some (.int u)) : Option Value), ([(a_this, .inr (11, [.ref a_state, .ref a_readPage, .int g_isAwake, .ref a_tape, .int g_taped, .int g_fault, .int g_broken, .int g_brokenAt, .int g_spot, .int g_here, .int g_token, .int g_value, .ref a_letters, .int g_hasPlaces, .int g_highest, .ref a_sums, .ref a_aside, .ref a_groups, .ref a_sides, .int g_laid, .int g_groupMany, .int g_isDrawn, .ref a_names, .ref a_firstNames, .ref a_isKept, .ref a_lanes, .ref a_lengths, .ref a_cells, .int g_torn, .ref a_had])), (a_state, .inl (G.2.1 1, 96, .inl g_state))] : va_W)) := ⟨_, rfl⟩
  refine ctr_of (cc := cX11_road) (own := RX11) (E := Option.map enc) (o := X11_road x1 g_state) (by decide) rfl rfl (L := [(0, .ref a_this), (1, .int x1)]) rfl (Nat.le_of_ble_eq_true rfl) (by rw [hu, henc]; rfl) ?_
  intro Z hX hl hG hr
  subst hl; subst hG
  have fl7 : (Cond.fieldLink RX11 7 "OnlyFarModel" "state" "[I").before (za Z) (zs Z) = true := hX.wd (mcC _ wd_990)
  have inX11 : ∀ w ∈ u_ws RX11 TX11 30, w ∈ wsX11_road := fun w h => mcC w (inC_X11 w h)
  unfold X11_road
  refine rn_iload_n hX dX11_road_0 1 rfl 1 rfl ?_
  refine rn_i2l hX dX11_road_1 2 rfl ?_
  refine rn_lconst hX dX11_road_2 3 rfl lc_0 ?_
  refine rn_lconst hX dX11_road_3 4 rfl lc_1 ?_
  refine rn_callS0 hX (gS mcC wd_1090 wd_1091 wd_81 wd_1092) rfl hdS_X11_in rfl rfl ⟨Nat.le_of_ble_eq_true rfl, Nat.le_of_ble_eq_true rfl⟩ (c_X11_in (zl Z) (zG Z) x1.toInt64 (0 : Int64) (1 : Int64) rfl) rfl [] rfl rfl rfl (Nat.le_of_ble_eq_true rfl) dX11_road_4 7 rfl (S' := [.int (X11_in x1.toInt64 (0 : Int64) (1 : Int64))]) rfl ⟨Nat.zero_le _, Nat.zero_le _⟩ ?_
  refine rn_if_ne hX dX11_road_7 12 (by decide) 10 rfl ?_ ?_
  · refine rn_aload_n hX dX11_road_12 0 rfl 13 rfl ?_
    refine rn_get hX inX11 0 rfl rfl 0 (by decide) fl7 rfl rfl dX11_road_13 16 rfl ?_
    refine rn_bipush hX dX11_road_16 18 rfl bp_30 ?_
    refine rn_ialdk hX 1 rfl cl_30 (vpk (by decide)) dX11_road_18 19 rfl ?_
    refine rn_if_ne hX dX11_road_19 27 (by decide) 22 rfl ?_ ?_
    · refine rn_iload_n hX dX11_road_27 1 rfl 28 rfl ?_
      refine rn_if_ne hX dX11_road_28 38 (by decide) 31 rfl ?_ ?_
      · refine rn_aload_n hX dX11_road_38 0 rfl 39 rfl ?_
        refine rn_bind (fun u1 hu1 => ?_)
        refine rn_callV0 hX (gV mcC wd_1414 wd_1416 wd_67 wd_81 wd_1417) rfl hdV_X11_farthest rfl rfl ⟨Nat.le_of_ble_eq_true rfl, Nat.le_of_ble_eq_true rfl⟩ (c_X11_farthest (zl Z) (zG Z) a_this a_state a_readPage a_tape a_letters a_sums a_aside a_groups a_sides a_names a_firstNames a_isKept a_lanes a_lengths a_cells a_had g_isAwake g_taped g_fault g_broken g_brokenAt g_spot g_here g_token g_value g_hasPlaces g_highest g_laid g_groupMany g_isDrawn g_torn g_state hu1) rfl [0, 1] rfl rfl (ci := 11) rfl rfl rfl (Nat.le_of_ble_eq_true rfl) dX11_road_39 42 rfl (S' := [.int u1]) rfl ⟨Nat.zero_le _, Nat.zero_le _⟩ ?_
        exact rn_iret hX hr (by rw [henc]; rfl) dX11_road_42
      refine rn_aload_n hX dX11_road_31 0 rfl 32 rfl ?_
      refine rn_bind (fun u2 hu2 => ?_)
      refine rn_callV0 hX (gV mcC wd_1410 wd_1412 wd_66 wd_81 wd_1413) rfl hdV_X11_nearest rfl rfl ⟨Nat.le_of_ble_eq_true rfl, Nat.le_of_ble_eq_true rfl⟩ (c_X11_nearest (zl Z) (zG Z) a_this a_state a_readPage a_tape a_letters a_sums a_aside a_groups a_sides a_names a_firstNames a_isKept a_lanes a_lengths a_cells a_had g_isAwake g_taped g_fault g_broken g_brokenAt g_spot g_here g_token g_value g_hasPlaces g_highest g_laid g_groupMany g_isDrawn g_torn g_state hu2) rfl [0, 1] rfl rfl (ci := 11) rfl rfl rfl (Nat.le_of_ble_eq_true rfl) dX11_road_32 35 rfl (S' := [.int u2]) rfl ⟨Nat.zero_le _, Nat.zero_le _⟩ ?_
      refine rn_goto hX dX11_road_35 42 (by decide) ?_
      exact rn_iret hX hr (by rw [henc]; rfl) dX11_road_42
    refine rn_bipush hX dX11_road_22 24 rfl bp_m2 ?_
    refine rn_goto hX dX11_road_24 42 (by decide) ?_
    exact rn_iret hX hr (by rw [henc]; rfl) dX11_road_42
  refine rn_iconst hX dX11_road_10 11 rfl ic_m1 ?_
  exact rn_iret hX hr (by rw [henc]; rfl) dX11_road_11
abbrev rmX11_reaches : Room := { frames := 3, cells := 0, slots := 0, locals := 68 }
theorem hdV_X11_reaches : yX11_reaches.cls = RX11 ∧ yX11_reaches.cls ≠ "java/lang/invoke/MethodHandle" ∧ yX11_reaches.cls ≠ "java/lang/invoke/VarHandle" ∧ (parseMethodDescriptor yX11_reaches.desc).map (fun d => d.parameters.length) = some 2 := by decide +kernel
set_option maxHeartbeats 4000000 in
set_option maxRecDepth 100000 in
theorem c_X11_reaches (l : Launch) (G : GT) (a_this a_state a_readPage a_tape a_letters a_sums a_aside a_groups a_sides a_names a_firstNames a_isKept a_lanes a_lengths a_cells a_had : Nat) (g_isAwake : Int32) (g_taped : Int32) (g_fault : Int32) (g_broken : Int32) (g_brokenAt : Int32) (g_spot : Int32) (g_here : Int32) (g_token : Int32) (g_value : Int32) (g_hasPlaces : Int32) (g_highest : Int32) (g_laid : Int32) (g_groupMany : Int32) (g_isDrawn : Int32) (g_torn : Int32) (g_state : (Nat → Int32)) (x1 : Int32) (x2 : Int32) {u : Int32 × Int32 × (Nat → Int32)} (hu : X11_reaches x1 x2 g_isAwake g_state = some u) : Ctr l G yX11_reaches wsX11_reaches rmX11_reaches [.ref a_this, .int x1, .int x2] [(a_this, .inr (11, [.ref a_state, .ref a_readPage, .int g_isAwake, .ref a_tape, .int g_taped, .int g_fault, .int g_broken, .int g_brokenAt, .int g_spot, .int g_here, .int g_token, .int g_value, .ref a_letters, .int g_hasPlaces, .int g_highest, .ref a_sums, .ref a_aside, .ref a_groups, .ref a_sides, .int g_laid, .int g_groupMany, .int g_isDrawn, .ref a_names, .ref a_firstNames, .ref a_isKept, .ref a_lanes, .ref a_lengths, .ref a_cells, .int g_torn, .ref a_had])), (a_state, .inl (G.2.1 1, 96, .inl g_state))] (some (.int u.1)) [(a_this, .inr (11, [.ref a_state, .ref a_readPage, .int u.2.1, .ref a_tape, .int g_taped, .int g_fault, .int g_broken, .int g_brokenAt, .int g_spot, .int g_here, .int g_token, .int g_value, .ref a_letters, .int g_hasPlaces, .int g_highest, .ref a_sums, .ref a_aside, .ref a_groups, .ref a_sides, .int g_laid, .int g_groupMany, .int g_isDrawn, .ref a_names, .ref a_firstNames, .ref a_isKept, .ref a_lanes, .ref a_lengths, .ref a_cells, .int g_torn, .ref a_had])), (a_state, .inl (G.2.1 1, 96, .inl u.2.2))] := by
  obtain ⟨enc, henc⟩ : ∃ enc : (Int32 × Int32 × (Nat → Int32)) → Option Value × va_W, enc = fun u => (((some (.int u.1)) : Option Value), ([(a_this, .inr (11, [.ref a_state, .ref a_readPage, .int u.2.1, .ref a_tape, .int g_taped, .int g_fault, .int g_broken, .int g_brokenAt, .int g_spot, .int g_here, .int g_token, .int g_value, .ref a_letters, .int g_hasPlaces, .int g_highest, .ref a_sums, .ref a_aside, .ref a_groups, .ref a_sides, .int g_laid, .int g_groupMany, .int g_isDrawn, .ref a_names, .ref a_firstNames, .ref a_isKept, .ref a_lanes, .ref a_lengths, .ref a_cells, .int g_torn, .ref a_had])), (a_state, .inl (G.2.1 1, 96, .inl u.2.2))] : va_W)) := ⟨_, rfl⟩
  refine ctr_of (cc := cX11_reaches) (own := RX11) (E := Option.map enc) (o := X11_reaches x1 x2 g_isAwake g_state) (by decide) rfl rfl (L := [(0, .ref a_this), (1, .int x1), (2, .int x2)]) rfl (Nat.le_of_ble_eq_true rfl) (by rw [hu, henc]; rfl) ?_
  intro Z hX hl hG hr
  subst hl; subst hG
  have fl7 : (Cond.fieldLink RX11 7 "OnlyFarModel" "state" "[I").before (za Z) (zs Z) = true := hX.wd (mcC _ wd_990)
  have inX11 : ∀ w ∈ u_ws RX11 TX11 30, w ∈ wsX11_reaches := fun w h => mcC w (inC_X11 w h)
  unfold X11_reaches
  refine rn_aload_n hX dX11_reaches_0 0 rfl 1 rfl ?_
  refine rn_iload_n hX dX11_reaches_1 1 rfl 2 rfl ?_
  refine rn_iload_n hX dX11_reaches_2 2 rfl 3 rfl ?_
  refine rn_bind (fun u1 hu1 => ?_)
  refine rn_callV hX (gV mcC wd_1144 wd_1146 wd_33 wd_81 wd_1147) rfl hdV_X11_areTwo rfl rfl ⟨Nat.le_of_ble_eq_true rfl, Nat.le_of_ble_eq_true rfl⟩ (c_X11_areTwo (zl Z) (zG Z) a_this a_state a_readPage a_tape a_letters a_sums a_aside a_groups a_sides a_names a_firstNames a_isKept a_lanes a_lengths a_cells a_had g_isAwake g_taped g_fault g_broken g_brokenAt g_spot g_here g_token g_value g_hasPlaces g_highest g_laid g_groupMany g_isDrawn g_torn g_state x1 x2 hu1) rfl [0, 1] rfl rfl rfl (ci := 11) rfl rfl rfl (Nat.le_of_ble_eq_true rfl) dX11_reaches_3 6 rfl (wn := [(a_this, .inr (11, [.ref a_state, .ref a_readPage, .int u1.2.1, .ref a_tape, .int g_taped, .int g_fault, .int g_broken, .int g_brokenAt, .int g_spot, .int g_here, .int g_token, .int g_value, .ref a_letters, .int g_hasPlaces, .int g_highest, .ref a_sums, .ref a_aside, .ref a_groups, .ref a_sides, .int g_laid, .int g_groupMany, .int g_isDrawn, .ref a_names, .ref a_firstNames, .ref a_isKept, .ref a_lanes, .ref a_lengths, .ref a_cells, .int g_torn, .ref a_had])), (a_state, .inl ((zG Z).2.1 1, 96, .inl u1.2.2))]) rfl (S' := [.int u1.1]) rfl ⟨Nat.zero_le _, Nat.zero_le _⟩ ?_
  refine rn_if_ne hX dX11_reaches_6 11 (by decide) 9 rfl ?_ ?_
  · refine rn_aload_n hX dX11_reaches_11 0 rfl 12 rfl ?_
    refine rn_get hX inX11 0 rfl rfl 0 (by decide) fl7 rfl rfl dX11_reaches_12 15 rfl ?_
    refine rn_bipush hX dX11_reaches_15 17 rfl bp_30 ?_
    refine rn_ialdk hX 1 rfl cl_30 (vpk (by decide)) dX11_reaches_17 18 rfl ?_
    refine rn_if_ne hX dX11_reaches_18 24 (by decide) 21 rfl ?_ ?_
    · refine rn_aload_n hX dX11_reaches_24 0 rfl 25 rfl ?_
      refine rn_iload_n hX dX11_reaches_25 1 rfl 26 rfl ?_
      refine rn_iload_n hX dX11_reaches_26 2 rfl 27 rfl ?_
      refine rn_bind (fun u2 hu2 => ?_)
      refine rn_callV0 hX (gV mcC wd_1156 wd_1158 wd_36 wd_81 wd_1159) rfl hdV_X11_sq rfl rfl ⟨Nat.le_of_ble_eq_true rfl, Nat.le_of_ble_eq_true rfl⟩ (c_X11_sq (zl Z) (zG Z) a_this a_state a_readPage a_tape a_letters a_sums a_aside a_groups a_sides a_names a_firstNames a_isKept a_lanes a_lengths a_cells a_had u1.2.1 g_taped g_fault g_broken g_brokenAt g_spot g_here g_token g_value g_hasPlaces g_highest g_laid g_groupMany g_isDrawn g_torn u1.2.2 x1 x2 hu2) rfl [0, 1] rfl rfl (ci := 11) rfl rfl rfl (Nat.le_of_ble_eq_true rfl) dX11_reaches_27 30 rfl (S' := [.long u2]) rfl ⟨Nat.zero_le _, Nat.zero_le _⟩ ?_
      refine rn_lconst hX dX11_reaches_30 31 rfl lc_0 ?_
      refine rn_lcmp_ne hX dX11_reaches_31 32 rfl dX11_reaches_32 40 (by decide) 35 rfl ?_ ?_
      · refine rn_aload_n hX dX11_reaches_40 0 rfl 41 rfl ?_
        refine rn_iload_n hX dX11_reaches_41 1 rfl 42 rfl ?_
        refine rn_iload_n hX dX11_reaches_42 2 rfl 43 rfl ?_
        refine rn_bind (fun u3 hu3 => ?_)
        refine rn_callV0 hX (gV mcC wd_1156 wd_1158 wd_36 wd_81 wd_1159) rfl hdV_X11_sq rfl rfl ⟨Nat.le_of_ble_eq_true rfl, Nat.le_of_ble_eq_true rfl⟩ (c_X11_sq (zl Z) (zG Z) a_this a_state a_readPage a_tape a_letters a_sums a_aside a_groups a_sides a_names a_firstNames a_isKept a_lanes a_lengths a_cells a_had u1.2.1 g_taped g_fault g_broken g_brokenAt g_spot g_here g_token g_value g_hasPlaces g_highest g_laid g_groupMany g_isDrawn g_torn u1.2.2 x1 x2 hu3) rfl [0, 1] rfl rfl (ci := 11) rfl rfl rfl (Nat.le_of_ble_eq_true rfl) dX11_reaches_43 46 rfl (S' := [.long u3]) rfl ⟨Nat.zero_le _, Nat.zero_le _⟩ ?_
        refine rn_aload_n hX dX11_reaches_46 0 rfl 47 rfl ?_
        refine rn_bind (fun u4 hu4 => ?_)
        refine rn_callV0 hX (gV mcC wd_1410 wd_1412 wd_66 wd_81 wd_1413) rfl hdV_X11_nearest rfl rfl ⟨Nat.le_of_ble_eq_true rfl, Nat.le_of_ble_eq_true rfl⟩ (c_X11_nearest (zl Z) (zG Z) a_this a_state a_readPage a_tape a_letters a_sums a_aside a_groups a_sides a_names a_firstNames a_isKept a_lanes a_lengths a_cells a_had u1.2.1 g_taped g_fault g_broken g_brokenAt g_spot g_here g_token g_value g_hasPlaces g_highest g_laid g_groupMany g_isDrawn g_torn u1.2.2 hu4) rfl [0, 1] rfl rfl (ci := 11) rfl rfl rfl (Nat.le_of_ble_eq_true rfl) dX11_reaches_47 50 rfl (S' := [.int u4, .long u3]) rfl ⟨Nat.zero_le _, Nat.zero_le _⟩ ?_
        refine rn_aload_n hX dX11_reaches_50 0 rfl 51 rfl ?_
        refine rn_bind (fun u5 hu5 => ?_)
        refine rn_callV0 hX (gV mcC wd_1410 wd_1412 wd_66 wd_81 wd_1413) rfl hdV_X11_nearest rfl rfl ⟨Nat.le_of_ble_eq_true rfl, Nat.le_of_ble_eq_true rfl⟩ (c_X11_nearest (zl Z) (zG Z) a_this a_state a_readPage a_tape a_letters a_sums a_aside a_groups a_sides a_names a_firstNames a_isKept a_lanes a_lengths a_cells a_had u1.2.1 g_taped g_fault g_broken g_brokenAt g_spot g_here g_token g_value g_hasPlaces g_highest g_laid g_groupMany g_isDrawn g_torn u1.2.2 hu5) rfl [0, 1] rfl rfl (ci := 11) rfl rfl rfl (Nat.le_of_ble_eq_true rfl) dX11_reaches_51 54 rfl (S' := [.int u5, .int u4, .long u3]) rfl ⟨Nat.zero_le _, Nat.zero_le _⟩ ?_
        refine rn_imul hX dX11_reaches_54 55 rfl ?_
        refine rn_i2l hX dX11_reaches_55 56 rfl ?_
        refine rn_aload_n hX dX11_reaches_56 0 rfl 57 rfl ?_
        refine rn_bind (fun u6 hu6 => ?_)
        refine rn_callV0 hX (gV mcC wd_1414 wd_1416 wd_67 wd_81 wd_1417) rfl hdV_X11_farthest rfl rfl ⟨Nat.le_of_ble_eq_true rfl, Nat.le_of_ble_eq_true rfl⟩ (c_X11_farthest (zl Z) (zG Z) a_this a_state a_readPage a_tape a_letters a_sums a_aside a_groups a_sides a_names a_firstNames a_isKept a_lanes a_lengths a_cells a_had u1.2.1 g_taped g_fault g_broken g_brokenAt g_spot g_here g_token g_value g_hasPlaces g_highest g_laid g_groupMany g_isDrawn g_torn u1.2.2 hu6) rfl [0, 1] rfl rfl (ci := 11) rfl rfl rfl (Nat.le_of_ble_eq_true rfl) dX11_reaches_57 60 rfl (S' := [.int u6, .long (u4 * u5).toInt64, .long u3]) rfl ⟨Nat.zero_le _, Nat.zero_le _⟩ ?_
        refine rn_aload_n hX dX11_reaches_60 0 rfl 61 rfl ?_
        refine rn_bind (fun u7 hu7 => ?_)
        refine rn_callV0 hX (gV mcC wd_1414 wd_1416 wd_67 wd_81 wd_1417) rfl hdV_X11_farthest rfl rfl ⟨Nat.le_of_ble_eq_true rfl, Nat.le_of_ble_eq_true rfl⟩ (c_X11_farthest (zl Z) (zG Z) a_this a_state a_readPage a_tape a_letters a_sums a_aside a_groups a_sides a_names a_firstNames a_isKept a_lanes a_lengths a_cells a_had u1.2.1 g_taped g_fault g_broken g_brokenAt g_spot g_here g_token g_value g_hasPlaces g_highest g_laid g_groupMany g_isDrawn g_torn u1.2.2 hu7) rfl [0, 1] rfl rfl (ci := 11) rfl rfl rfl (Nat.le_of_ble_eq_true rfl) dX11_reaches_61 64 rfl (S' := [.int u7, .int u6, .long (u4 * u5).toInt64, .long u3]) rfl ⟨Nat.zero_le _, Nat.zero_le _⟩ ?_
        refine rn_imul hX dX11_reaches_64 65 rfl ?_
        refine rn_i2l hX dX11_reaches_65 66 rfl ?_
        refine rn_callS0 hX (gS mcC wd_1090 wd_1091 wd_81 wd_1092) rfl hdS_X11_in rfl rfl ⟨Nat.le_of_ble_eq_true rfl, Nat.le_of_ble_eq_true rfl⟩ (c_X11_in (zl Z) (zG Z) u3 ((u4 * u5).toInt64) ((u6 * u7).toInt64) rfl) rfl [] rfl rfl rfl (Nat.le_of_ble_eq_true rfl) dX11_reaches_66 69 rfl (S' := [.int (X11_in u3 ((u4 * u5).toInt64) ((u6 * u7).toInt64))]) rfl ⟨Nat.zero_le _, Nat.zero_le _⟩ ?_
        refine rn_if_eq hX dX11_reaches_69 76 (by decide) 72 rfl ?_ ?_
        · refine rn_iconst hX dX11_reaches_76 77 rfl ic_0 ?_
          exact rn_iret hX hr (by rw [henc]; rfl) dX11_reaches_77
        refine rn_iconst hX dX11_reaches_72 73 rfl ic_1 ?_
        refine rn_goto hX dX11_reaches_73 77 (by decide) ?_
        exact rn_iret hX hr (by rw [henc]; rfl) dX11_reaches_77
      refine rn_bipush hX dX11_reaches_35 37 rfl bp_m4 ?_
      refine rn_goto hX dX11_reaches_37 77 (by decide) ?_
      exact rn_iret hX hr (by rw [henc]; rfl) dX11_reaches_77
    refine rn_bipush hX dX11_reaches_21 23 rfl bp_m2 ?_
    exact rn_iret hX hr (by rw [henc]; rfl) dX11_reaches_23
  refine rn_iconst hX dX11_reaches_9 10 rfl ic_m1 ?_
  exact rn_iret hX hr (by rw [henc]; rfl) dX11_reaches_10
abbrev rmX11_lengthMany : Room := { frames := 0, cells := 0, slots := 0, locals := 0 }
theorem hdV_X11_lengthMany : yX11_lengthMany.cls = RX11 ∧ yX11_lengthMany.cls ≠ "java/lang/invoke/MethodHandle" ∧ yX11_lengthMany.cls ≠ "java/lang/invoke/VarHandle" ∧ (parseMethodDescriptor yX11_lengthMany.desc).map (fun d => d.parameters.length) = some 0 := by decide +kernel
set_option maxHeartbeats 4000000 in
set_option maxRecDepth 100000 in
theorem c_X11_lengthMany (l : Launch) (G : GT) (a_this a_state a_readPage a_tape a_letters a_sums a_aside a_groups a_sides a_names a_firstNames a_isKept a_lanes a_lengths a_cells a_had : Nat) (g_isAwake : Int32) (g_taped : Int32) (g_fault : Int32) (g_broken : Int32) (g_brokenAt : Int32) (g_spot : Int32) (g_here : Int32) (g_token : Int32) (g_value : Int32) (g_hasPlaces : Int32) (g_highest : Int32) (g_laid : Int32) (g_groupMany : Int32) (g_isDrawn : Int32) (g_torn : Int32) (g_state : (Nat → Int32)) {u : Int32} (hu : X11_lengthMany g_state = some u) : Ctr l G yX11_lengthMany wsX11_lengthMany rmX11_lengthMany [.ref a_this] [(a_this, .inr (11, [.ref a_state, .ref a_readPage, .int g_isAwake, .ref a_tape, .int g_taped, .int g_fault, .int g_broken, .int g_brokenAt, .int g_spot, .int g_here, .int g_token, .int g_value, .ref a_letters, .int g_hasPlaces, .int g_highest, .ref a_sums, .ref a_aside, .ref a_groups, .ref a_sides, .int g_laid, .int g_groupMany, .int g_isDrawn, .ref a_names, .ref a_firstNames, .ref a_isKept, .ref a_lanes, .ref a_lengths, .ref a_cells, .int g_torn, .ref a_had])), (a_state, .inl (G.2.1 1, 96, .inl g_state))] (some (.int u)) [(a_this, .inr (11, [.ref a_state, .ref a_readPage, .int g_isAwake, .ref a_tape, .int g_taped, .int g_fault, .int g_broken, .int g_brokenAt, .int g_spot, .int g_here, .int g_token, .int g_value, .ref a_letters, .int g_hasPlaces, .int g_highest, .ref a_sums, .ref a_aside, .ref a_groups, .ref a_sides, .int g_laid, .int g_groupMany, .int g_isDrawn, .ref a_names, .ref a_firstNames, .ref a_isKept, .ref a_lanes, .ref a_lengths, .ref a_cells, .int g_torn, .ref a_had])), (a_state, .inl (G.2.1 1, 96, .inl g_state))] := by
  obtain ⟨enc, henc⟩ : ∃ enc : (Int32) → Option Value × va_W, enc = fun u => (((some (.int u)) : Option Value), ([(a_this, .inr (11, [.ref a_state, .ref a_readPage, .int g_isAwake, .ref a_tape, .int g_taped, .int g_fault, .int g_broken, .int g_brokenAt, .int g_spot, .int g_here, .int g_token, .int g_value, .ref a_letters, .int g_hasPlaces, .int g_highest, .ref a_sums, .ref a_aside, .ref a_groups, .ref a_sides, .int g_laid, .int g_groupMany, .int g_isDrawn, .ref a_names, .ref a_firstNames, .ref a_isKept, .ref a_lanes, .ref a_lengths, .ref a_cells, .int g_torn, .ref a_had])), (a_state, .inl (G.2.1 1, 96, .inl g_state))] : va_W)) := ⟨_, rfl⟩
  refine ctr_of (cc := cX11_lengthMany) (own := RX11) (E := Option.map enc) (o := X11_lengthMany g_state) (by decide) rfl rfl (L := [(0, .ref a_this)]) rfl (Nat.le_of_ble_eq_true rfl) (by rw [hu, henc]; rfl) ?_
  intro Z hX hl hG hr
  subst hl; subst hG
  have fl7 : (Cond.fieldLink RX11 7 "OnlyFarModel" "state" "[I").before (za Z) (zs Z) = true := hX.wd (mcC _ wd_990)
  have inX11 : ∀ w ∈ u_ws RX11 TX11 30, w ∈ wsX11_lengthMany := fun w h => mcC w (inC_X11 w h)
  have hJ25 : ∀ (again : Int32 → Int32 → Option (Int32)) (hagain : ∀ (x1 : Int32) (x2 : Int32), Rn Z 3 (Option.map enc) 0 0 4 [(0, .ref a_this), (1, .int x1), (2, .int x2)] [] [(a_this, .inr (11, [.ref a_state, .ref a_readPage, .int g_isAwake, .ref a_tape, .int g_taped, .int g_fault, .int g_broken, .int g_brokenAt, .int g_spot, .int g_here, .int g_token, .int g_value, .ref a_letters, .int g_hasPlaces, .int g_highest, .ref a_sums, .ref a_aside, .ref a_groups, .ref a_sides, .int g_laid, .int g_groupMany, .int g_isDrawn, .ref a_names, .ref a_firstNames, .ref a_isKept, .ref a_lanes, .ref a_lengths, .ref a_cells, .int g_torn, .ref a_had])), (a_state, .inl ((zG Z).2.1 1, 96, .inl g_state))] (again x1 x2)) (x2 : Int32) (s0 : Int32) (s1 : Int32), Rn Z 3 (Option.map enc) 0 0 25 [(0, .ref a_this), (2, .int x2)] [.int s1, .int s0] [(a_this, .inr (11, [.ref a_state, .ref a_readPage, .int g_isAwake, .ref a_tape, .int g_taped, .int g_fault, .int g_broken, .int g_brokenAt, .int g_spot, .int g_here, .int g_token, .int g_value, .ref a_letters, .int g_hasPlaces, .int g_highest, .ref a_sums, .ref a_aside, .ref a_groups, .ref a_sides, .int g_laid, .int g_groupMany, .int g_isDrawn, .ref a_names, .ref a_firstNames, .ref a_isKept, .ref a_lanes, .ref a_lengths, .ref a_cells, .int g_torn, .ref a_had])), (a_state, .inl ((zG Z).2.1 1, 96, .inl g_state))] (X11_lengthMany_J25 again x2 s0 s1) := by
    intro again hagain x2 s0 s1
    unfold X11_lengthMany_J25
    refine rn_iadd hX dX11_lengthMany_25 26 rfl ?_
    refine rn_lati (fun v1 => ?_)
    refine rn_istore_n hX dX11_lengthMany_26 1 rfl (by decide) (L' := [(1, .int v1), (0, .ref a_this), (2, .int x2)]) rfl 27 rfl ?_
    refine rn_iinc hX dX11_lengthMany_27 2 rfl ic_1 (by decide) (L' := fun v2 => [(2, .int v2), (1, .int v1), (0, .ref a_this)]) (fun _ => rfl) 30 rfl (fun v2 => ?_)
    refine rn_goto hX dX11_lengthMany_30 4 (by decide) ?_
    refine rn_sub [2, 1, 0] rfl ?_
    exact hagain v1 v2
  have hB4 : ∀ (again : Int32 → Int32 → Option (Int32)) (hagain : ∀ (x1 : Int32) (x2 : Int32), Rn Z 3 (Option.map enc) 0 0 4 [(0, .ref a_this), (1, .int x1), (2, .int x2)] [] [(a_this, .inr (11, [.ref a_state, .ref a_readPage, .int g_isAwake, .ref a_tape, .int g_taped, .int g_fault, .int g_broken, .int g_brokenAt, .int g_spot, .int g_here, .int g_token, .int g_value, .ref a_letters, .int g_hasPlaces, .int g_highest, .ref a_sums, .ref a_aside, .ref a_groups, .ref a_sides, .int g_laid, .int g_groupMany, .int g_isDrawn, .ref a_names, .ref a_firstNames, .ref a_isKept, .ref a_lanes, .ref a_lengths, .ref a_cells, .int g_torn, .ref a_had])), (a_state, .inl ((zG Z).2.1 1, 96, .inl g_state))] (again x1 x2)) (x1 : Int32) (x2 : Int32), Rn Z 3 (Option.map enc) 0 0 4 [(0, .ref a_this), (1, .int x1), (2, .int x2)] [] [(a_this, .inr (11, [.ref a_state, .ref a_readPage, .int g_isAwake, .ref a_tape, .int g_taped, .int g_fault, .int g_broken, .int g_brokenAt, .int g_spot, .int g_here, .int g_token, .int g_value, .ref a_letters, .int g_hasPlaces, .int g_highest, .ref a_sums, .ref a_aside, .ref a_groups, .ref a_sides, .int g_laid, .int g_groupMany, .int g_isDrawn, .ref a_names, .ref a_firstNames, .ref a_isKept, .ref a_lanes, .ref a_lengths, .ref a_cells, .int g_torn, .ref a_had])), (a_state, .inl ((zG Z).2.1 1, 96, .inl g_state))] (X11_lengthMany_B4 g_state again x1 x2) := by
    intro again hagain x1 x2
    unfold X11_lengthMany_B4
    refine rn_iload_n hX dX11_lengthMany_4 2 rfl 5 rfl ?_
    refine rn_bipush hX dX11_lengthMany_5 7 rfl bp_21 ?_
    refine rn_icmp_ge hX dX11_lengthMany_7 33 (by decide) 10 rfl ?_ ?_
    · refine rn_iload_n hX dX11_lengthMany_33 1 rfl 34 rfl ?_
      exact rn_iret hX hr (by rw [henc]; rfl) dX11_lengthMany_34
    refine rn_iload_n hX dX11_lengthMany_10 1 rfl 11 rfl ?_
    refine rn_aload_n hX dX11_lengthMany_11 0 rfl 12 rfl ?_
    refine rn_get hX inX11 0 rfl rfl 0 (by decide) fl7 rfl rfl dX11_lengthMany_12 15 rfl ?_
    refine rn_iload_n hX dX11_lengthMany_15 2 rfl 16 rfl ?_
    refine rn_gd (fun hi3 => ?_)
    refine rn_iald hX 1 rfl hi3 dX11_lengthMany_16 17 rfl ?_
    refine rn_if_le hX dX11_lengthMany_17 24 (by decide) 20 rfl ?_ ?_
    · refine rn_iconst hX dX11_lengthMany_24 25 rfl ic_0 ?_
      refine rn_sub [0, 2] rfl ?_
      exact (hJ25 _ hagain) x2 x1 (0 : Int32)
    refine rn_iconst hX dX11_lengthMany_20 21 rfl ic_1 ?_
    refine rn_goto hX dX11_lengthMany_21 25 (by decide) ?_
    refine rn_sub [0, 2] rfl ?_
    exact (hJ25 _ hagain) x2 x1 (1 : Int32)
  have hL4 : ∀ (n : Nat) (x1 : Int32) (x2 : Int32), Rn Z 3 (Option.map enc) 0 0 4 [(0, .ref a_this), (1, .int x1), (2, .int x2)] [] [(a_this, .inr (11, [.ref a_state, .ref a_readPage, .int g_isAwake, .ref a_tape, .int g_taped, .int g_fault, .int g_broken, .int g_brokenAt, .int g_spot, .int g_here, .int g_token, .int g_value, .ref a_letters, .int g_hasPlaces, .int g_highest, .ref a_sums, .ref a_aside, .ref a_groups, .ref a_sides, .int g_laid, .int g_groupMany, .int g_isDrawn, .ref a_names, .ref a_firstNames, .ref a_isKept, .ref a_lanes, .ref a_lengths, .ref a_cells, .int g_torn, .ref a_had])), (a_state, .inl ((zG Z).2.1 1, 96, .inl g_state))] (X11_lengthMany_L4 g_state n x1 x2) := by
    intro n
    induction n with
    | zero => intros; exact rn_none
    | succ n ih => exact hB4 _ ih
  unfold X11_lengthMany
  refine rn_iconst hX dX11_lengthMany_0 1 rfl ic_0 ?_
  refine rn_istore_n hX dX11_lengthMany_1 1 rfl (by decide) (L' := [(1, .int (0 : Int32)), (0, .ref a_this)]) rfl 2 rfl ?_
  refine rn_iconst hX dX11_lengthMany_2 3 rfl ic_0 ?_
  refine rn_istore_n hX dX11_lengthMany_3 2 rfl (by decide) (L' := [(2, .int (0 : Int32)), (1, .int (0 : Int32)), (0, .ref a_this)]) rfl 4 rfl ?_
  refine rn_sub [2, 1, 0] rfl ?_
  exact (hL4  1000) (0 : Int32) (0 : Int32)
abbrev rmX11_keep : Room := { frames := 1, cells := 0, slots := 0, locals := 25 }
theorem hdV_X11_keep : yX11_keep.cls = RX11 ∧ yX11_keep.cls ≠ "java/lang/invoke/MethodHandle" ∧ yX11_keep.cls ≠ "java/lang/invoke/VarHandle" ∧ (parseMethodDescriptor yX11_keep.desc).map (fun d => d.parameters.length) = some 1 := by decide +kernel
set_option maxHeartbeats 4000000 in
set_option maxRecDepth 100000 in
theorem c_X11_keep (l : Launch) (G : GT) (a_this a_isKept a_state a_readPage a_tape a_letters a_sums a_aside a_groups a_sides a_names a_firstNames a_lanes a_lengths a_cells a_had : Nat) (g_isAwake : Int32) (g_taped : Int32) (g_fault : Int32) (g_broken : Int32) (g_brokenAt : Int32) (g_spot : Int32) (g_here : Int32) (g_token : Int32) (g_value : Int32) (g_hasPlaces : Int32) (g_highest : Int32) (g_laid : Int32) (g_groupMany : Int32) (g_isDrawn : Int32) (g_torn : Int32) (g_isKept : (Nat → Int32)) (g_state : (Nat → Int32)) (x1 : Int32) {u : Int32 × Int32 × (Nat → Int32) × (Nat → Int32)} (hu : X11_keep x1 g_isAwake g_isKept g_state = some u) : Ctr l G yX11_keep wsX11_keep rmX11_keep [.ref a_this, .int x1] [(a_this, .inr (11, [.ref a_state, .ref a_readPage, .int g_isAwake, .ref a_tape, .int g_taped, .int g_fault, .int g_broken, .int g_brokenAt, .int g_spot, .int g_here, .int g_token, .int g_value, .ref a_letters, .int g_hasPlaces, .int g_highest, .ref a_sums, .ref a_aside, .ref a_groups, .ref a_sides, .int g_laid, .int g_groupMany, .int g_isDrawn, .ref a_names, .ref a_firstNames, .ref a_isKept, .ref a_lanes, .ref a_lengths, .ref a_cells, .int g_torn, .ref a_had])), (a_isKept, .inl (G.2.1 2, 2, .inl g_isKept)), (a_state, .inl (G.2.1 1, 96, .inl g_state))] (some (.int u.1)) [(a_this, .inr (11, [.ref a_state, .ref a_readPage, .int u.2.1, .ref a_tape, .int g_taped, .int g_fault, .int g_broken, .int g_brokenAt, .int g_spot, .int g_here, .int g_token, .int g_value, .ref a_letters, .int g_hasPlaces, .int g_highest, .ref a_sums, .ref a_aside, .ref a_groups, .ref a_sides, .int g_laid, .int g_groupMany, .int g_isDrawn, .ref a_names, .ref a_firstNames, .ref a_isKept, .ref a_lanes, .ref a_lengths, .ref a_cells, .int g_torn, .ref a_had])), (a_isKept, .inl (G.2.1 2, 2, .inl u.2.2.1)), (a_state, .inl (G.2.1 1, 96, .inl u.2.2.2))] := by
  obtain ⟨enc, henc⟩ : ∃ enc : (Int32 × Int32 × (Nat → Int32) × (Nat → Int32)) → Option Value × va_W, enc = fun u => (((some (.int u.1)) : Option Value), ([(a_this, .inr (11, [.ref a_state, .ref a_readPage, .int u.2.1, .ref a_tape, .int g_taped, .int g_fault, .int g_broken, .int g_brokenAt, .int g_spot, .int g_here, .int g_token, .int g_value, .ref a_letters, .int g_hasPlaces, .int g_highest, .ref a_sums, .ref a_aside, .ref a_groups, .ref a_sides, .int g_laid, .int g_groupMany, .int g_isDrawn, .ref a_names, .ref a_firstNames, .ref a_isKept, .ref a_lanes, .ref a_lengths, .ref a_cells, .int g_torn, .ref a_had])), (a_isKept, .inl (G.2.1 2, 2, .inl u.2.2.1)), (a_state, .inl (G.2.1 1, 96, .inl u.2.2.2))] : va_W)) := ⟨_, rfl⟩
  refine ctr_of (cc := cX11_keep) (own := RX11) (E := Option.map enc) (o := X11_keep x1 g_isAwake g_isKept g_state) (by decide) rfl rfl (L := [(0, .ref a_this), (1, .int x1)]) rfl (Nat.le_of_ble_eq_true rfl) (by rw [hu, henc]; rfl) ?_
  intro Z hX hl hG hr
  subst hl; subst hG
  have fl40 : (Cond.fieldLink RX11 40 "OnlyFarModel" "isKept" "[Z").before (za Z) (zs Z) = true := hX.wd (mcC _ wd_1014)
  have fl7 : (Cond.fieldLink RX11 7 "OnlyFarModel" "state" "[I").before (za Z) (zs Z) = true := hX.wd (mcC _ wd_990)
  have inX11 : ∀ w ∈ u_ws RX11 TX11 30, w ∈ wsX11_keep := fun w h => mcC w (inC_X11 w h)
  have hJ63 : ∀ (x1 : Int32) (s0 : Int32) (g_isAwake : Int32) (g_isKept : (Nat → Int32)) (g_state : (Nat → Int32)), Rn Z 3 (Option.map enc) 0 0 63 [(0, .ref a_this), (1, .int x1)] [.int s0] [(a_this, .inr (11, [.ref a_state, .ref a_readPage, .int g_isAwake, .ref a_tape, .int g_taped, .int g_fault, .int g_broken, .int g_brokenAt, .int g_spot, .int g_here, .int g_token, .int g_value, .ref a_letters, .int g_hasPlaces, .int g_highest, .ref a_sums, .ref a_aside, .ref a_groups, .ref a_sides, .int g_laid, .int g_groupMany, .int g_isDrawn, .ref a_names, .ref a_firstNames, .ref a_isKept, .ref a_lanes, .ref a_lengths, .ref a_cells, .int g_torn, .ref a_had])), (a_isKept, .inl ((zG Z).2.1 2, 2, .inl g_isKept)), (a_state, .inl ((zG Z).2.1 1, 96, .inl g_state))] (X11_keep_J63 x1 s0 g_isAwake g_isKept g_state) := by
    intro x1 s0 g_isAwake g_isKept g_state
    unfold X11_keep_J63
    refine rn_istore_n hX dX11_keep_63 2 rfl (by decide) (L' := [(2, .int s0), (0, .ref a_this), (1, .int x1)]) rfl 64 rfl ?_
    refine rn_aload_n hX dX11_keep_64 1 rfl 65 rfl ?_
    refine rn_get hX inX11 0 rfl rfl 24 (by decide) fl40 rfl rfl dX11_keep_65 68 rfl ?_
    refine rn_iload_n hX dX11_keep_68 2 rfl 69 rfl ?_
    refine rn_iconst hX dX11_keep_69 70 rfl ic_1 ?_
    refine rn_gd (fun hi1 => ?_)
    refine rn_zast hX 1 rfl rfl hi1 dX11_keep_70 71 rfl (w1 := fun m2 => [(a_this, .inr (11, [.ref a_state, .ref a_readPage, .int g_isAwake, .ref a_tape, .int g_taped, .int g_fault, .int g_broken, .int g_brokenAt, .int g_spot, .int g_here, .int g_token, .int g_value, .ref a_letters, .int g_hasPlaces, .int g_highest, .ref a_sums, .ref a_aside, .ref a_groups, .ref a_sides, .int g_laid, .int g_groupMany, .int g_isDrawn, .ref a_names, .ref a_firstNames, .ref a_isKept, .ref a_lanes, .ref a_lengths, .ref a_cells, .int g_torn, .ref a_had])), (a_isKept, .inl ((zG Z).2.1 2, 2, .inl m2)), (a_state, .inl ((zG Z).2.1 1, 96, .inl g_state))]) (fun _ => rfl) (fun m2 => ?_)
    refine rn_iload_n hX dX11_keep_71 0 rfl 72 rfl ?_
    exact rn_iret hX hr (by rw [henc]; rfl) dX11_keep_72
  have hJ49 : ∀ (x1 : Int32) (g_isAwake : Int32) (g_isKept : (Nat → Int32)) (g_state : (Nat → Int32)), Rn Z 3 (Option.map enc) 0 0 49 [(0, .ref a_this), (1, .int x1)] [] [(a_this, .inr (11, [.ref a_state, .ref a_readPage, .int g_isAwake, .ref a_tape, .int g_taped, .int g_fault, .int g_broken, .int g_brokenAt, .int g_spot, .int g_here, .int g_token, .int g_value, .ref a_letters, .int g_hasPlaces, .int g_highest, .ref a_sums, .ref a_aside, .ref a_groups, .ref a_sides, .int g_laid, .int g_groupMany, .int g_isDrawn, .ref a_names, .ref a_firstNames, .ref a_isKept, .ref a_lanes, .ref a_lengths, .ref a_cells, .int g_torn, .ref a_had])), (a_isKept, .inl ((zG Z).2.1 2, 2, .inl g_isKept)), (a_state, .inl ((zG Z).2.1 1, 96, .inl g_state))] (X11_keep_J49 x1 g_isAwake g_isKept g_state) := by
    intro x1 g_isAwake g_isKept g_state
    unfold X11_keep_J49
    refine rn_aload_n hX dX11_keep_49 0 rfl 50 rfl ?_
    refine rn_get hX inX11 0 rfl rfl 24 (by decide) fl40 rfl rfl dX11_keep_50 53 rfl ?_
    refine rn_iload_n hX dX11_keep_53 1 rfl 54 rfl ?_
    refine rn_gd (fun hi3 => ?_)
    refine rn_zald hX 1 rfl hi3 dX11_keep_54 55 rfl ?_
    refine rn_if_eq hX dX11_keep_55 62 (by decide) 58 rfl ?_ ?_
    · refine rn_iconst hX dX11_keep_62 63 rfl ic_0 ?_
      exact hJ63 x1 (0 : Int32) g_isAwake g_isKept g_state
    refine rn_iconst hX dX11_keep_58 59 rfl ic_1 ?_
    refine rn_goto hX dX11_keep_59 63 (by decide) ?_
    exact hJ63 x1 (1 : Int32) g_isAwake g_isKept g_state
  have hB18 : ∀ (again : Int32 → Int32 → Int32 → (Nat → Int32) → (Nat → Int32) → Option (Int32 × Int32 × (Nat → Int32) × (Nat → Int32))) (k49 : Int32 → Int32 → (Nat → Int32) → (Nat → Int32) → Option (Int32 × Int32 × (Nat → Int32) × (Nat → Int32))) (hagain : ∀ (x1 : Int32) (x2 : Int32) (g_isAwake : Int32) (g_isKept : (Nat → Int32)) (g_state : (Nat → Int32)), Rn Z 3 (Option.map enc) 0 0 18 [(0, .ref a_this), (1, .int x1), (2, .int x2)] [] [(a_this, .inr (11, [.ref a_state, .ref a_readPage, .int g_isAwake, .ref a_tape, .int g_taped, .int g_fault, .int g_broken, .int g_brokenAt, .int g_spot, .int g_here, .int g_token, .int g_value, .ref a_letters, .int g_hasPlaces, .int g_highest, .ref a_sums, .ref a_aside, .ref a_groups, .ref a_sides, .int g_laid, .int g_groupMany, .int g_isDrawn, .ref a_names, .ref a_firstNames, .ref a_isKept, .ref a_lanes, .ref a_lengths, .ref a_cells, .int g_torn, .ref a_had])), (a_isKept, .inl ((zG Z).2.1 2, 2, .inl g_isKept)), (a_state, .inl ((zG Z).2.1 1, 96, .inl g_state))] (again x1 x2 g_isAwake g_isKept g_state)) (hk49 : ∀ (x1 : Int32) (g_isAwake : Int32) (g_isKept : (Nat → Int32)) (g_state : (Nat → Int32)), Rn Z 3 (Option.map enc) 0 0 49 [(0, .ref a_this), (1, .int x1)] [] [(a_this, .inr (11, [.ref a_state, .ref a_readPage, .int g_isAwake, .ref a_tape, .int g_taped, .int g_fault, .int g_broken, .int g_brokenAt, .int g_spot, .int g_here, .int g_token, .int g_value, .ref a_letters, .int g_hasPlaces, .int g_highest, .ref a_sums, .ref a_aside, .ref a_groups, .ref a_sides, .int g_laid, .int g_groupMany, .int g_isDrawn, .ref a_names, .ref a_firstNames, .ref a_isKept, .ref a_lanes, .ref a_lengths, .ref a_cells, .int g_torn, .ref a_had])), (a_isKept, .inl ((zG Z).2.1 2, 2, .inl g_isKept)), (a_state, .inl ((zG Z).2.1 1, 96, .inl g_state))] (k49 x1 g_isAwake g_isKept g_state)) (x1 : Int32) (x2 : Int32) (g_isAwake : Int32) (g_isKept : (Nat → Int32)) (g_state : (Nat → Int32)), Rn Z 3 (Option.map enc) 0 0 18 [(0, .ref a_this), (1, .int x1), (2, .int x2)] [] [(a_this, .inr (11, [.ref a_state, .ref a_readPage, .int g_isAwake, .ref a_tape, .int g_taped, .int g_fault, .int g_broken, .int g_brokenAt, .int g_spot, .int g_here, .int g_token, .int g_value, .ref a_letters, .int g_hasPlaces, .int g_highest, .ref a_sums, .ref a_aside, .ref a_groups, .ref a_sides, .int g_laid, .int g_groupMany, .int g_isDrawn, .ref a_names, .ref a_firstNames, .ref a_isKept, .ref a_lanes, .ref a_lengths, .ref a_cells, .int g_torn, .ref a_had])), (a_isKept, .inl ((zG Z).2.1 2, 2, .inl g_isKept)), (a_state, .inl ((zG Z).2.1 1, 96, .inl g_state))] (X11_keep_B18 again k49 x1 x2 g_isAwake g_isKept g_state) := by
    intro again k49 hagain hk49 x1 x2 g_isAwake g_isKept g_state
    unfold X11_keep_B18
    refine rn_iload_n hX dX11_keep_18 2 rfl 19 rfl ?_
    refine rn_bipush hX dX11_keep_19 21 rfl bp_32 ?_
    refine rn_icmp_ge hX dX11_keep_21 49 (by decide) 24 rfl ?_ ?_
    · refine rn_sub [0, 1] rfl ?_
      exact hk49 x1 g_isAwake g_isKept g_state
    refine rn_aload_n hX dX11_keep_24 0 rfl 25 rfl ?_
    refine rn_get hX inX11 0 rfl rfl 0 (by decide) fl7 rfl rfl dX11_keep_25 28 rfl ?_
    refine rn_bipush hX dX11_keep_28 30 rfl bp_32 ?_
    refine rn_iload_n hX dX11_keep_30 1 rfl 31 rfl ?_
    refine rn_iconst hX dX11_keep_31 32 rfl ic_1 ?_
    refine rn_iadd hX dX11_keep_32 33 rfl ?_
    refine rn_imul hX dX11_keep_33 34 rfl ?_
    refine rn_iload_n hX dX11_keep_34 2 rfl 35 rfl ?_
    refine rn_iadd hX dX11_keep_35 36 rfl ?_
    refine rn_aload_n hX dX11_keep_36 0 rfl 37 rfl ?_
    refine rn_get hX inX11 0 rfl rfl 0 (by decide) fl7 rfl rfl dX11_keep_37 40 rfl ?_
    refine rn_iload_n hX dX11_keep_40 2 rfl 41 rfl ?_
    refine rn_gd (fun hi4 => ?_)
    refine rn_iald hX 2 rfl hi4 dX11_keep_41 42 rfl ?_
    refine rn_gd (fun hi5 => ?_)
    refine rn_iast hX 2 rfl hi5 dX11_keep_42 43 rfl (w1 := fun m6 => [(a_this, .inr (11, [.ref a_state, .ref a_readPage, .int g_isAwake, .ref a_tape, .int g_taped, .int g_fault, .int g_broken, .int g_brokenAt, .int g_spot, .int g_here, .int g_token, .int g_value, .ref a_letters, .int g_hasPlaces, .int g_highest, .ref a_sums, .ref a_aside, .ref a_groups, .ref a_sides, .int g_laid, .int g_groupMany, .int g_isDrawn, .ref a_names, .ref a_firstNames, .ref a_isKept, .ref a_lanes, .ref a_lengths, .ref a_cells, .int g_torn, .ref a_had])), (a_isKept, .inl ((zG Z).2.1 2, 2, .inl g_isKept)), (a_state, .inl ((zG Z).2.1 1, 96, .inl m6))]) (fun _ => rfl) (fun m6 => ?_)
    refine rn_iinc hX dX11_keep_43 2 rfl ic_1 (by decide) (L' := fun v7 => [(2, .int v7), (0, .ref a_this), (1, .int x1)]) (fun _ => rfl) 46 rfl (fun v7 => ?_)
    refine rn_goto hX dX11_keep_46 18 (by decide) ?_
    refine rn_sub [1, 2, 0] rfl ?_
    exact hagain x1 v7 g_isAwake g_isKept m6
  have hL18 : ∀ (k49 : Int32 → Int32 → (Nat → Int32) → (Nat → Int32) → Option (Int32 × Int32 × (Nat → Int32) × (Nat → Int32))) (hk49 : ∀ (x1 : Int32) (g_isAwake : Int32) (g_isKept : (Nat → Int32)) (g_state : (Nat → Int32)), Rn Z 3 (Option.map enc) 0 0 49 [(0, .ref a_this), (1, .int x1)] [] [(a_this, .inr (11, [.ref a_state, .ref a_readPage, .int g_isAwake, .ref a_tape, .int g_taped, .int g_fault, .int g_broken, .int g_brokenAt, .int g_spot, .int g_here, .int g_token, .int g_value, .ref a_letters, .int g_hasPlaces, .int g_highest, .ref a_sums, .ref a_aside, .ref a_groups, .ref a_sides, .int g_laid, .int g_groupMany, .int g_isDrawn, .ref a_names, .ref a_firstNames, .ref a_isKept, .ref a_lanes, .ref a_lengths, .ref a_cells, .int g_torn, .ref a_had])), (a_isKept, .inl ((zG Z).2.1 2, 2, .inl g_isKept)), (a_state, .inl ((zG Z).2.1 1, 96, .inl g_state))] (k49 x1 g_isAwake g_isKept g_state)) (n : Nat) (x1 : Int32) (x2 : Int32) (g_isAwake : Int32) (g_isKept : (Nat → Int32)) (g_state : (Nat → Int32)), Rn Z 3 (Option.map enc) 0 0 18 [(0, .ref a_this), (1, .int x1), (2, .int x2)] [] [(a_this, .inr (11, [.ref a_state, .ref a_readPage, .int g_isAwake, .ref a_tape, .int g_taped, .int g_fault, .int g_broken, .int g_brokenAt, .int g_spot, .int g_here, .int g_token, .int g_value, .ref a_letters, .int g_hasPlaces, .int g_highest, .ref a_sums, .ref a_aside, .ref a_groups, .ref a_sides, .int g_laid, .int g_groupMany, .int g_isDrawn, .ref a_names, .ref a_firstNames, .ref a_isKept, .ref a_lanes, .ref a_lengths, .ref a_cells, .int g_torn, .ref a_had])), (a_isKept, .inl ((zG Z).2.1 2, 2, .inl g_isKept)), (a_state, .inl ((zG Z).2.1 1, 96, .inl g_state))] (X11_keep_L18 k49 n x1 x2 g_isAwake g_isKept g_state) := by
    intro k49 hk49 n
    induction n with
    | zero => intros; exact rn_none
    | succ n ih => exact hB18 _ _ ih hk49
  unfold X11_keep
  refine rn_aload_n hX dX11_keep_0 0 rfl 1 rfl ?_
  refine rn_lat (fun u8 hu8 => ?_)
  refine rn_callV hX (gV mcC wd_1152 wd_1154 wd_35 wd_81 wd_1155) rfl hdV_X11_awake rfl rfl ⟨Nat.le_of_ble_eq_true rfl, Nat.le_of_ble_eq_true rfl⟩ (c_X11_awake (zl Z) (zG Z) a_this a_state a_readPage a_tape a_letters a_sums a_aside a_groups a_sides a_names a_firstNames a_isKept a_lanes a_lengths a_cells a_had g_isAwake g_taped g_fault g_broken g_brokenAt g_spot g_here g_token g_value g_hasPlaces g_highest g_laid g_groupMany g_isDrawn g_torn g_state hu8) rfl [0, 2] rfl rfl rfl (ci := 11) rfl rfl rfl (Nat.le_of_ble_eq_true rfl) dX11_keep_1 4 rfl (wn := [(a_this, .inr (11, [.ref a_state, .ref a_readPage, .int u8.1, .ref a_tape, .int g_taped, .int g_fault, .int g_broken, .int g_brokenAt, .int g_spot, .int g_here, .int g_token, .int g_value, .ref a_letters, .int g_hasPlaces, .int g_highest, .ref a_sums, .ref a_aside, .ref a_groups, .ref a_sides, .int g_laid, .int g_groupMany, .int g_isDrawn, .ref a_names, .ref a_firstNames, .ref a_isKept, .ref a_lanes, .ref a_lengths, .ref a_cells, .int g_torn, .ref a_had])), (a_isKept, .inl ((zG Z).2.1 2, 2, .inl g_isKept)), (a_state, .inl ((zG Z).2.1 1, 96, .inl u8.2))]) rfl (S' := []) rfl ⟨Nat.zero_le _, Nat.zero_le _⟩ ?_
  refine rn_iload_n hX dX11_keep_4 1 rfl 5 rfl ?_
  refine rn_i2l hX dX11_keep_5 6 rfl ?_
  refine rn_lconst hX dX11_keep_6 7 rfl lc_0 ?_
  refine rn_lconst hX dX11_keep_7 8 rfl lc_1 ?_
  refine rn_callS0 hX (gS mcC wd_1090 wd_1091 wd_81 wd_1092) rfl hdS_X11_in rfl rfl ⟨Nat.le_of_ble_eq_true rfl, Nat.le_of_ble_eq_true rfl⟩ (c_X11_in (zl Z) (zG Z) x1.toInt64 (0 : Int64) (1 : Int64) rfl) rfl [] rfl rfl rfl (Nat.le_of_ble_eq_true rfl) dX11_keep_8 11 rfl (S' := [.int (X11_in x1.toInt64 (0 : Int64) (1 : Int64))]) rfl ⟨Nat.zero_le _, Nat.zero_le _⟩ ?_
  refine rn_if_ne hX dX11_keep_11 16 (by decide) 14 rfl ?_ ?_
  · refine rn_iconst hX dX11_keep_16 17 rfl ic_0 ?_
    refine rn_istore_n hX dX11_keep_17 2 rfl (by decide) (L' := [(2, .int (0 : Int32)), (0, .ref a_this), (1, .int x1)]) rfl 18 rfl ?_
    refine rn_sub [1, 2, 0] rfl ?_
    exact (hL18 _ hJ49 1000) x1 (0 : Int32) u8.1 g_isKept u8.2
  refine rn_iconst hX dX11_keep_14 15 rfl ic_m1 ?_
  exact rn_iret hX hr (by rw [henc]; rfl) dX11_keep_15
abbrev rmX11_back : Room := { frames := 1, cells := 0, slots := 0, locals := 25 }
theorem hdV_X11_back : yX11_back.cls = RX11 ∧ yX11_back.cls ≠ "java/lang/invoke/MethodHandle" ∧ yX11_back.cls ≠ "java/lang/invoke/VarHandle" ∧ (parseMethodDescriptor yX11_back.desc).map (fun d => d.parameters.length) = some 1 := by decide +kernel
set_option maxHeartbeats 4000000 in
set_option maxRecDepth 100000 in
theorem c_X11_back (l : Launch) (G : GT) (a_this a_isKept a_state a_readPage a_tape a_letters a_sums a_aside a_groups a_sides a_names a_firstNames a_lanes a_lengths a_cells a_had : Nat) (g_isAwake : Int32) (g_taped : Int32) (g_fault : Int32) (g_broken : Int32) (g_brokenAt : Int32) (g_spot : Int32) (g_here : Int32) (g_token : Int32) (g_value : Int32) (g_hasPlaces : Int32) (g_highest : Int32) (g_laid : Int32) (g_groupMany : Int32) (g_isDrawn : Int32) (g_torn : Int32) (g_isKept : (Nat → Int32)) (g_state : (Nat → Int32)) (x1 : Int32) {u : Int32 × (Nat → Int32)} (hu : X11_back x1 g_isKept g_state = some u) : Ctr l G yX11_back wsX11_back rmX11_back [.ref a_this, .int x1] [(a_this, .inr (11, [.ref a_state, .ref a_readPage, .int g_isAwake, .ref a_tape, .int g_taped, .int g_fault, .int g_broken, .int g_brokenAt, .int g_spot, .int g_here, .int g_token, .int g_value, .ref a_letters, .int g_hasPlaces, .int g_highest, .ref a_sums, .ref a_aside, .ref a_groups, .ref a_sides, .int g_laid, .int g_groupMany, .int g_isDrawn, .ref a_names, .ref a_firstNames, .ref a_isKept, .ref a_lanes, .ref a_lengths, .ref a_cells, .int g_torn, .ref a_had])), (a_isKept, .inl (G.2.1 2, 2, .inl g_isKept)), (a_state, .inl (G.2.1 1, 96, .inl g_state))] (some (.int u.1)) [(a_this, .inr (11, [.ref a_state, .ref a_readPage, .int g_isAwake, .ref a_tape, .int g_taped, .int g_fault, .int g_broken, .int g_brokenAt, .int g_spot, .int g_here, .int g_token, .int g_value, .ref a_letters, .int g_hasPlaces, .int g_highest, .ref a_sums, .ref a_aside, .ref a_groups, .ref a_sides, .int g_laid, .int g_groupMany, .int g_isDrawn, .ref a_names, .ref a_firstNames, .ref a_isKept, .ref a_lanes, .ref a_lengths, .ref a_cells, .int g_torn, .ref a_had])), (a_isKept, .inl (G.2.1 2, 2, .inl g_isKept)), (a_state, .inl (G.2.1 1, 96, .inl u.2))] := by
  obtain ⟨enc, henc⟩ : ∃ enc : (Int32 × (Nat → Int32)) → Option Value × va_W, enc = fun u => (((some (.int u.1)) : Option Value), ([(a_this, .inr (11, [.ref a_state, .ref a_readPage, .int g_isAwake, .ref a_tape, .int g_taped, .int g_fault, .int g_broken, .int g_brokenAt, .int g_spot, .int g_here, .int g_token, .int g_value, .ref a_letters, .int g_hasPlaces, .int g_highest, .ref a_sums, .ref a_aside, .ref a_groups, .ref a_sides, .int g_laid, .int g_groupMany, .int g_isDrawn, .ref a_names, .ref a_firstNames, .ref a_isKept, .ref a_lanes, .ref a_lengths, .ref a_cells, .int g_torn, .ref a_had])), (a_isKept, .inl (G.2.1 2, 2, .inl g_isKept)), (a_state, .inl (G.2.1 1, 96, .inl u.2))] : va_W)) := ⟨_, rfl⟩
  refine ctr_of (cc := cX11_back) (own := RX11) (E := Option.map enc) (o := X11_back x1 g_isKept g_state) (by decide) rfl rfl (L := [(0, .ref a_this), (1, .int x1)]) rfl (Nat.le_of_ble_eq_true rfl) (by rw [hu, henc]; rfl) ?_
  intro Z hX hl hG hr
  subst hl; subst hG
  have fl40 : (Cond.fieldLink RX11 40 "OnlyFarModel" "isKept" "[Z").before (za Z) (zs Z) = true := hX.wd (mcC _ wd_1014)
  have fl7 : (Cond.fieldLink RX11 7 "OnlyFarModel" "state" "[I").before (za Z) (zs Z) = true := hX.wd (mcC _ wd_990)
  have inX11 : ∀ w ∈ u_ws RX11 TX11 30, w ∈ wsX11_back := fun w h => mcC w (inC_X11 w h)
  have hJ57 : ∀ (g_state : (Nat → Int32)), Rn Z 3 (Option.map enc) 0 0 57 [(0, .ref a_this)] [] [(a_this, .inr (11, [.ref a_state, .ref a_readPage, .int g_isAwake, .ref a_tape, .int g_taped, .int g_fault, .int g_broken, .int g_brokenAt, .int g_spot, .int g_here, .int g_token, .int g_value, .ref a_letters, .int g_hasPlaces, .int g_highest, .ref a_sums, .ref a_aside, .ref a_groups, .ref a_sides, .int g_laid, .int g_groupMany, .int g_isDrawn, .ref a_names, .ref a_firstNames, .ref a_isKept, .ref a_lanes, .ref a_lengths, .ref a_cells, .int g_torn, .ref a_had])), (a_isKept, .inl ((zG Z).2.1 2, 2, .inl g_isKept)), (a_state, .inl ((zG Z).2.1 1, 96, .inl g_state))] (X11_back_J57 g_state) := by
    intro g_state
    unfold X11_back_J57
    refine rn_aload_n hX dX11_back_57 0 rfl 58 rfl ?_
    refine rn_bind (fun u1 hu1 => ?_)
    refine rn_callV0 hX (gV mcC wd_1430 wd_1432 wd_68 wd_81 wd_1433) rfl hdV_X11_lengthMany rfl rfl ⟨Nat.le_of_ble_eq_true rfl, Nat.le_of_ble_eq_true rfl⟩ (c_X11_lengthMany (zl Z) (zG Z) a_this a_state a_readPage a_tape a_letters a_sums a_aside a_groups a_sides a_names a_firstNames a_isKept a_lanes a_lengths a_cells a_had g_isAwake g_taped g_fault g_broken g_brokenAt g_spot g_here g_token g_value g_hasPlaces g_highest g_laid g_groupMany g_isDrawn g_torn g_state hu1) rfl [0, 2] rfl rfl (ci := 11) rfl rfl rfl (Nat.le_of_ble_eq_true rfl) dX11_back_58 61 rfl (S' := [.int u1]) rfl ⟨Nat.zero_le _, Nat.zero_le _⟩ ?_
    exact rn_iret hX hr (by rw [henc]; rfl) dX11_back_61
  have hB26 : ∀ (again : Int32 → Int32 → (Nat → Int32) → Option (Int32 × (Nat → Int32))) (k57 : (Nat → Int32) → Option (Int32 × (Nat → Int32))) (hagain : ∀ (x1 : Int32) (x2 : Int32) (g_state : (Nat → Int32)), Rn Z 3 (Option.map enc) 0 0 26 [(0, .ref a_this), (1, .int x1), (2, .int x2)] [] [(a_this, .inr (11, [.ref a_state, .ref a_readPage, .int g_isAwake, .ref a_tape, .int g_taped, .int g_fault, .int g_broken, .int g_brokenAt, .int g_spot, .int g_here, .int g_token, .int g_value, .ref a_letters, .int g_hasPlaces, .int g_highest, .ref a_sums, .ref a_aside, .ref a_groups, .ref a_sides, .int g_laid, .int g_groupMany, .int g_isDrawn, .ref a_names, .ref a_firstNames, .ref a_isKept, .ref a_lanes, .ref a_lengths, .ref a_cells, .int g_torn, .ref a_had])), (a_isKept, .inl ((zG Z).2.1 2, 2, .inl g_isKept)), (a_state, .inl ((zG Z).2.1 1, 96, .inl g_state))] (again x1 x2 g_state)) (hk57 : ∀ (g_state : (Nat → Int32)), Rn Z 3 (Option.map enc) 0 0 57 [(0, .ref a_this)] [] [(a_this, .inr (11, [.ref a_state, .ref a_readPage, .int g_isAwake, .ref a_tape, .int g_taped, .int g_fault, .int g_broken, .int g_brokenAt, .int g_spot, .int g_here, .int g_token, .int g_value, .ref a_letters, .int g_hasPlaces, .int g_highest, .ref a_sums, .ref a_aside, .ref a_groups, .ref a_sides, .int g_laid, .int g_groupMany, .int g_isDrawn, .ref a_names, .ref a_firstNames, .ref a_isKept, .ref a_lanes, .ref a_lengths, .ref a_cells, .int g_torn, .ref a_had])), (a_isKept, .inl ((zG Z).2.1 2, 2, .inl g_isKept)), (a_state, .inl ((zG Z).2.1 1, 96, .inl g_state))] (k57 g_state)) (x1 : Int32) (x2 : Int32) (g_state : (Nat → Int32)), Rn Z 3 (Option.map enc) 0 0 26 [(0, .ref a_this), (1, .int x1), (2, .int x2)] [] [(a_this, .inr (11, [.ref a_state, .ref a_readPage, .int g_isAwake, .ref a_tape, .int g_taped, .int g_fault, .int g_broken, .int g_brokenAt, .int g_spot, .int g_here, .int g_token, .int g_value, .ref a_letters, .int g_hasPlaces, .int g_highest, .ref a_sums, .ref a_aside, .ref a_groups, .ref a_sides, .int g_laid, .int g_groupMany, .int g_isDrawn, .ref a_names, .ref a_firstNames, .ref a_isKept, .ref a_lanes, .ref a_lengths, .ref a_cells, .int g_torn, .ref a_had])), (a_isKept, .inl ((zG Z).2.1 2, 2, .inl g_isKept)), (a_state, .inl ((zG Z).2.1 1, 96, .inl g_state))] (X11_back_B26 again k57 x1 x2 g_state) := by
    intro again k57 hagain hk57 x1 x2 g_state
    unfold X11_back_B26
    refine rn_iload_n hX dX11_back_26 2 rfl 27 rfl ?_
    refine rn_bipush hX dX11_back_27 29 rfl bp_32 ?_
    refine rn_icmp_ge hX dX11_back_29 57 (by decide) 32 rfl ?_ ?_
    · refine rn_sub [0] rfl ?_
      exact hk57 g_state
    refine rn_aload_n hX dX11_back_32 0 rfl 33 rfl ?_
    refine rn_get hX inX11 0 rfl rfl 0 (by decide) fl7 rfl rfl dX11_back_33 36 rfl ?_
    refine rn_iload_n hX dX11_back_36 2 rfl 37 rfl ?_
    refine rn_aload_n hX dX11_back_37 0 rfl 38 rfl ?_
    refine rn_get hX inX11 0 rfl rfl 0 (by decide) fl7 rfl rfl dX11_back_38 41 rfl ?_
    refine rn_bipush hX dX11_back_41 43 rfl bp_32 ?_
    refine rn_iload_n hX dX11_back_43 1 rfl 44 rfl ?_
    refine rn_iconst hX dX11_back_44 45 rfl ic_1 ?_
    refine rn_iadd hX dX11_back_45 46 rfl ?_
    refine rn_imul hX dX11_back_46 47 rfl ?_
    refine rn_iload_n hX dX11_back_47 2 rfl 48 rfl ?_
    refine rn_iadd hX dX11_back_48 49 rfl ?_
    refine rn_gd (fun hi2 => ?_)
    refine rn_iald hX 2 rfl hi2 dX11_back_49 50 rfl ?_
    refine rn_gd (fun hi3 => ?_)
    refine rn_iast hX 2 rfl hi3 dX11_back_50 51 rfl (w1 := fun m4 => [(a_this, .inr (11, [.ref a_state, .ref a_readPage, .int g_isAwake, .ref a_tape, .int g_taped, .int g_fault, .int g_broken, .int g_brokenAt, .int g_spot, .int g_here, .int g_token, .int g_value, .ref a_letters, .int g_hasPlaces, .int g_highest, .ref a_sums, .ref a_aside, .ref a_groups, .ref a_sides, .int g_laid, .int g_groupMany, .int g_isDrawn, .ref a_names, .ref a_firstNames, .ref a_isKept, .ref a_lanes, .ref a_lengths, .ref a_cells, .int g_torn, .ref a_had])), (a_isKept, .inl ((zG Z).2.1 2, 2, .inl g_isKept)), (a_state, .inl ((zG Z).2.1 1, 96, .inl m4))]) (fun _ => rfl) (fun m4 => ?_)
    refine rn_iinc hX dX11_back_51 2 rfl ic_1 (by decide) (L' := fun v5 => [(2, .int v5), (0, .ref a_this), (1, .int x1)]) (fun _ => rfl) 54 rfl (fun v5 => ?_)
    refine rn_goto hX dX11_back_54 26 (by decide) ?_
    refine rn_sub [1, 2, 0] rfl ?_
    exact hagain x1 v5 m4
  have hL26 : ∀ (k57 : (Nat → Int32) → Option (Int32 × (Nat → Int32))) (hk57 : ∀ (g_state : (Nat → Int32)), Rn Z 3 (Option.map enc) 0 0 57 [(0, .ref a_this)] [] [(a_this, .inr (11, [.ref a_state, .ref a_readPage, .int g_isAwake, .ref a_tape, .int g_taped, .int g_fault, .int g_broken, .int g_brokenAt, .int g_spot, .int g_here, .int g_token, .int g_value, .ref a_letters, .int g_hasPlaces, .int g_highest, .ref a_sums, .ref a_aside, .ref a_groups, .ref a_sides, .int g_laid, .int g_groupMany, .int g_isDrawn, .ref a_names, .ref a_firstNames, .ref a_isKept, .ref a_lanes, .ref a_lengths, .ref a_cells, .int g_torn, .ref a_had])), (a_isKept, .inl ((zG Z).2.1 2, 2, .inl g_isKept)), (a_state, .inl ((zG Z).2.1 1, 96, .inl g_state))] (k57 g_state)) (n : Nat) (x1 : Int32) (x2 : Int32) (g_state : (Nat → Int32)), Rn Z 3 (Option.map enc) 0 0 26 [(0, .ref a_this), (1, .int x1), (2, .int x2)] [] [(a_this, .inr (11, [.ref a_state, .ref a_readPage, .int g_isAwake, .ref a_tape, .int g_taped, .int g_fault, .int g_broken, .int g_brokenAt, .int g_spot, .int g_here, .int g_token, .int g_value, .ref a_letters, .int g_hasPlaces, .int g_highest, .ref a_sums, .ref a_aside, .ref a_groups, .ref a_sides, .int g_laid, .int g_groupMany, .int g_isDrawn, .ref a_names, .ref a_firstNames, .ref a_isKept, .ref a_lanes, .ref a_lengths, .ref a_cells, .int g_torn, .ref a_had])), (a_isKept, .inl ((zG Z).2.1 2, 2, .inl g_isKept)), (a_state, .inl ((zG Z).2.1 1, 96, .inl g_state))] (X11_back_L26 k57 n x1 x2 g_state) := by
    intro k57 hk57 n
    induction n with
    | zero => intros; exact rn_none
    | succ n ih => exact hB26 _ _ ih hk57
  unfold X11_back
  refine rn_iload_n hX dX11_back_0 1 rfl 1 rfl ?_
  refine rn_i2l hX dX11_back_1 2 rfl ?_
  refine rn_lconst hX dX11_back_2 3 rfl lc_0 ?_
  refine rn_lconst hX dX11_back_3 4 rfl lc_1 ?_
  refine rn_callS0 hX (gS mcC wd_1090 wd_1091 wd_81 wd_1092) rfl hdS_X11_in rfl rfl ⟨Nat.le_of_ble_eq_true rfl, Nat.le_of_ble_eq_true rfl⟩ (c_X11_in (zl Z) (zG Z) x1.toInt64 (0 : Int64) (1 : Int64) rfl) rfl [] rfl rfl rfl (Nat.le_of_ble_eq_true rfl) dX11_back_4 7 rfl (S' := [.int (X11_in x1.toInt64 (0 : Int64) (1 : Int64))]) rfl ⟨Nat.zero_le _, Nat.zero_le _⟩ ?_
  refine rn_if_ne hX dX11_back_7 12 (by decide) 10 rfl ?_ ?_
  · refine rn_aload_n hX dX11_back_12 0 rfl 13 rfl ?_
    refine rn_get hX inX11 0 rfl rfl 24 (by decide) fl40 rfl rfl dX11_back_13 16 rfl ?_
    refine rn_iload_n hX dX11_back_16 1 rfl 17 rfl ?_
    refine rn_gd (fun hi6 => ?_)
    refine rn_zald hX 1 rfl hi6 dX11_back_17 18 rfl ?_
    refine rn_if_ne hX dX11_back_18 24 (by decide) 21 rfl ?_ ?_
    · refine rn_iconst hX dX11_back_24 25 rfl ic_0 ?_
      refine rn_istore_n hX dX11_back_25 2 rfl (by decide) (L' := [(2, .int (0 : Int32)), (0, .ref a_this), (1, .int x1)]) rfl 26 rfl ?_
      refine rn_sub [1, 2, 0] rfl ?_
      exact (hL26 _ hJ57 1000) x1 (0 : Int32) g_state
    refine rn_bipush hX dX11_back_21 23 rfl bp_m2 ?_
    exact rn_iret hX hr (by rw [henc]; rfl) dX11_back_23
  refine rn_iconst hX dX11_back_10 11 rfl ic_m1 ?_
  exact rn_iret hX hr (by rw [henc]; rfl) dX11_back_11
abbrev rmX11_sheet : Room := { frames := 1, cells := 0, slots := 0, locals := 25 }
theorem hdV_X11_sheet : yX11_sheet.cls = RX11 ∧ yX11_sheet.cls ≠ "java/lang/invoke/MethodHandle" ∧ yX11_sheet.cls ≠ "java/lang/invoke/VarHandle" ∧ (parseMethodDescriptor yX11_sheet.desc).map (fun d => d.parameters.length) = some 3 := by decide +kernel
set_option maxHeartbeats 4000000 in
set_option maxRecDepth 100000 in
theorem c_X11_sheet (l : Launch) (G : GT) (a_this a_cells a_lanes a_lengths a_state a_readPage a_tape a_letters a_sums a_aside a_groups a_sides a_names a_firstNames a_isKept a_had : Nat) (g_isAwake : Int32) (g_taped : Int32) (g_fault : Int32) (g_broken : Int32) (g_brokenAt : Int32) (g_spot : Int32) (g_here : Int32) (g_token : Int32) (g_value : Int32) (g_hasPlaces : Int32) (g_highest : Int32) (g_laid : Int32) (g_groupMany : Int32) (g_isDrawn : Int32) (g_torn : Int32) (g_cells : (Nat → Int32)) (g_lanes : (Nat → Int32)) (g_lengths : (Nat → Int32)) (x1 : Int32) (x2 : Int32) (x3 : Int32) {u : Int32 × (Nat → Int32) × (Nat → Int32) × (Nat → Int32)} (hu : X11_sheet x1 x2 x3 g_cells g_lanes g_lengths = some u) : Ctr l G yX11_sheet wsX11_sheet rmX11_sheet [.ref a_this, .int x1, .int x2, .int x3] [(a_this, .inr (11, [.ref a_state, .ref a_readPage, .int g_isAwake, .ref a_tape, .int g_taped, .int g_fault, .int g_broken, .int g_brokenAt, .int g_spot, .int g_here, .int g_token, .int g_value, .ref a_letters, .int g_hasPlaces, .int g_highest, .ref a_sums, .ref a_aside, .ref a_groups, .ref a_sides, .int g_laid, .int g_groupMany, .int g_isDrawn, .ref a_names, .ref a_firstNames, .ref a_isKept, .ref a_lanes, .ref a_lengths, .ref a_cells, .int g_torn, .ref a_had])), (a_cells, .inl (G.2.1 1, 160, .inl g_cells)), (a_lanes, .inl (G.2.1 1, 4, .inl g_lanes)), (a_lengths, .inl (G.2.1 1, 4, .inl g_lengths))] (some (.int u.1)) [(a_this, .inr (11, [.ref a_state, .ref a_readPage, .int g_isAwake, .ref a_tape, .int g_taped, .int g_fault, .int g_broken, .int g_brokenAt, .int g_spot, .int g_here, .int g_token, .int g_value, .ref a_letters, .int g_hasPlaces, .int g_highest, .ref a_sums, .ref a_aside, .ref a_groups, .ref a_sides, .int g_laid, .int g_groupMany, .int g_isDrawn, .ref a_names, .ref a_firstNames, .ref a_isKept, .ref a_lanes, .ref a_lengths, .ref a_cells, .int g_torn, .ref a_had])), (a_cells, .inl (G.2.1 1, 160, .inl u.2.1)), (a_lanes, .inl (G.2.1 1, 4, .inl u.2.2.1)), (a_lengths, .inl (G.2.1 1, 4, .inl u.2.2.2))] := by
  obtain ⟨enc, henc⟩ : ∃ enc : (Int32 × (Nat → Int32) × (Nat → Int32) × (Nat → Int32)) → Option Value × va_W, enc = fun u => (((some (.int u.1)) : Option Value), ([(a_this, .inr (11, [.ref a_state, .ref a_readPage, .int g_isAwake, .ref a_tape, .int g_taped, .int g_fault, .int g_broken, .int g_brokenAt, .int g_spot, .int g_here, .int g_token, .int g_value, .ref a_letters, .int g_hasPlaces, .int g_highest, .ref a_sums, .ref a_aside, .ref a_groups, .ref a_sides, .int g_laid, .int g_groupMany, .int g_isDrawn, .ref a_names, .ref a_firstNames, .ref a_isKept, .ref a_lanes, .ref a_lengths, .ref a_cells, .int g_torn, .ref a_had])), (a_cells, .inl (G.2.1 1, 160, .inl u.2.1)), (a_lanes, .inl (G.2.1 1, 4, .inl u.2.2.1)), (a_lengths, .inl (G.2.1 1, 4, .inl u.2.2.2))] : va_W)) := ⟨_, rfl⟩
  refine ctr_of (cc := cX11_sheet) (own := RX11) (E := Option.map enc) (o := X11_sheet x1 x2 x3 g_cells g_lanes g_lengths) (by decide) rfl rfl (L := [(0, .ref a_this), (1, .int x1), (2, .int x2), (3, .int x3)]) rfl (Nat.le_of_ble_eq_true rfl) (by rw [hu, henc]; rfl) ?_
  intro Z hX hl hG hr
  subst hl; subst hG
  have fl44 : (Cond.fieldLink RX11 44 "OnlyFarModel" "lanes" "[I").before (za Z) (zs Z) = true := hX.wd (mcC _ wd_1015)
  have fl47 : (Cond.fieldLink RX11 47 "OnlyFarModel" "lengths" "[I").before (za Z) (zs Z) = true := hX.wd (mcC _ wd_1016)
  have fl50 : (Cond.fieldLink RX11 50 "OnlyFarModel" "cells" "[I").before (za Z) (zs Z) = true := hX.wd (mcC _ wd_1017)
  have kl179 : (Cond.constantLong RX11 179 (2)).before (za Z) (zs Z) = true := hX.wd (mcC _ wd_1219)
  have kl194 : (Cond.constantLong RX11 194 (3)).before (za Z) (zs Z) = true := hX.wd (mcC _ wd_1228)
  have inX11 : ∀ w ∈ u_ws RX11 TX11 30, w ∈ wsX11_sheet := fun w h => mcC w (inC_X11 w h)
  have hB56 : ∀ (again : Int32 → Int32 → (Nat → Int32) → (Nat → Int32) → (Nat → Int32) → Option (Int32 × (Nat → Int32) × (Nat → Int32) × (Nat → Int32))) (hagain : ∀ (x1 : Int32) (x4 : Int32) (g_cells : (Nat → Int32)) (g_lanes : (Nat → Int32)) (g_lengths : (Nat → Int32)), Rn Z 5 (Option.map enc) 0 0 56 [(0, .ref a_this), (1, .int x1), (4, .int x4)] [] [(a_this, .inr (11, [.ref a_state, .ref a_readPage, .int g_isAwake, .ref a_tape, .int g_taped, .int g_fault, .int g_broken, .int g_brokenAt, .int g_spot, .int g_here, .int g_token, .int g_value, .ref a_letters, .int g_hasPlaces, .int g_highest, .ref a_sums, .ref a_aside, .ref a_groups, .ref a_sides, .int g_laid, .int g_groupMany, .int g_isDrawn, .ref a_names, .ref a_firstNames, .ref a_isKept, .ref a_lanes, .ref a_lengths, .ref a_cells, .int g_torn, .ref a_had])), (a_cells, .inl ((zG Z).2.1 1, 160, .inl g_cells)), (a_lanes, .inl ((zG Z).2.1 1, 4, .inl g_lanes)), (a_lengths, .inl ((zG Z).2.1 1, 4, .inl g_lengths))] (again x1 x4 g_cells g_lanes g_lengths)) (x1 : Int32) (x4 : Int32) (g_cells : (Nat → Int32)) (g_lanes : (Nat → Int32)) (g_lengths : (Nat → Int32)), Rn Z 5 (Option.map enc) 0 0 56 [(0, .ref a_this), (1, .int x1), (4, .int x4)] [] [(a_this, .inr (11, [.ref a_state, .ref a_readPage, .int g_isAwake, .ref a_tape, .int g_taped, .int g_fault, .int g_broken, .int g_brokenAt, .int g_spot, .int g_here, .int g_token, .int g_value, .ref a_letters, .int g_hasPlaces, .int g_highest, .ref a_sums, .ref a_aside, .ref a_groups, .ref a_sides, .int g_laid, .int g_groupMany, .int g_isDrawn, .ref a_names, .ref a_firstNames, .ref a_isKept, .ref a_lanes, .ref a_lengths, .ref a_cells, .int g_torn, .ref a_had])), (a_cells, .inl ((zG Z).2.1 1, 160, .inl g_cells)), (a_lanes, .inl ((zG Z).2.1 1, 4, .inl g_lanes)), (a_lengths, .inl ((zG Z).2.1 1, 4, .inl g_lengths))] (X11_sheet_B56 again x1 x4 g_cells g_lanes g_lengths) := by
    intro again hagain x1 x4 g_cells g_lanes g_lengths
    unfold X11_sheet_B56
    refine rn_iload hX dX11_sheet_56 2 rfl 58 rfl ?_
    refine rn_bipush hX dX11_sheet_58 60 rfl bp_40 ?_
    refine rn_icmp_ge hX dX11_sheet_60 82 (by decide) 63 rfl ?_ ?_
    · refine rn_iconst hX dX11_sheet_82 83 rfl ic_1 ?_
      exact rn_iret hX hr (by rw [henc]; rfl) dX11_sheet_83
    refine rn_aload_n hX dX11_sheet_63 0 rfl 64 rfl ?_
    refine rn_get hX inX11 0 rfl rfl 27 (by decide) fl50 rfl rfl dX11_sheet_64 67 rfl ?_
    refine rn_bipush hX dX11_sheet_67 69 rfl bp_40 ?_
    refine rn_iload_n hX dX11_sheet_69 1 rfl 70 rfl ?_
    refine rn_imul hX dX11_sheet_70 71 rfl ?_
    refine rn_iload hX dX11_sheet_71 2 rfl 73 rfl ?_
    refine rn_iadd hX dX11_sheet_73 74 rfl ?_
    refine rn_iconst hX dX11_sheet_74 75 rfl ic_0 ?_
    refine rn_gd (fun hi1 => ?_)
    refine rn_iast hX 1 rfl hi1 dX11_sheet_75 76 rfl (w1 := fun m2 => [(a_this, .inr (11, [.ref a_state, .ref a_readPage, .int g_isAwake, .ref a_tape, .int g_taped, .int g_fault, .int g_broken, .int g_brokenAt, .int g_spot, .int g_here, .int g_token, .int g_value, .ref a_letters, .int g_hasPlaces, .int g_highest, .ref a_sums, .ref a_aside, .ref a_groups, .ref a_sides, .int g_laid, .int g_groupMany, .int g_isDrawn, .ref a_names, .ref a_firstNames, .ref a_isKept, .ref a_lanes, .ref a_lengths, .ref a_cells, .int g_torn, .ref a_had])), (a_cells, .inl ((zG Z).2.1 1, 160, .inl m2)), (a_lanes, .inl ((zG Z).2.1 1, 4, .inl g_lanes)), (a_lengths, .inl ((zG Z).2.1 1, 4, .inl g_lengths))]) (fun _ => rfl) (fun m2 => ?_)
    refine rn_iinc hX dX11_sheet_76 2 rfl ic_1 (by decide) (L' := fun v3 => [(4, .int v3), (0, .ref a_this), (1, .int x1)]) (fun _ => rfl) 79 rfl (fun v3 => ?_)
    refine rn_goto hX dX11_sheet_79 56 (by decide) ?_
    refine rn_sub [1, 2, 0] rfl ?_
    exact hagain x1 v3 m2 g_lanes g_lengths
  have hL56 : ∀ (n : Nat) (x1 : Int32) (x4 : Int32) (g_cells : (Nat → Int32)) (g_lanes : (Nat → Int32)) (g_lengths : (Nat → Int32)), Rn Z 5 (Option.map enc) 0 0 56 [(0, .ref a_this), (1, .int x1), (4, .int x4)] [] [(a_this, .inr (11, [.ref a_state, .ref a_readPage, .int g_isAwake, .ref a_tape, .int g_taped, .int g_fault, .int g_broken, .int g_brokenAt, .int g_spot, .int g_here, .int g_token, .int g_value, .ref a_letters, .int g_hasPlaces, .int g_highest, .ref a_sums, .ref a_aside, .ref a_groups, .ref a_sides, .int g_laid, .int g_groupMany, .int g_isDrawn, .ref a_names, .ref a_firstNames, .ref a_isKept, .ref a_lanes, .ref a_lengths, .ref a_cells, .int g_torn, .ref a_had])), (a_cells, .inl ((zG Z).2.1 1, 160, .inl g_cells)), (a_lanes, .inl ((zG Z).2.1 1, 4, .inl g_lanes)), (a_lengths, .inl ((zG Z).2.1 1, 4, .inl g_lengths))] (X11_sheet_L56 n x1 x4 g_cells g_lanes g_lengths) := by
    intro n
    induction n with
    | zero => intros; exact rn_none
    | succ n ih => exact hB56 _ ih
  unfold X11_sheet
  refine rn_iload_n hX dX11_sheet_0 1 rfl 1 rfl ?_
  refine rn_i2l hX dX11_sheet_1 2 rfl ?_
  refine rn_lconst hX dX11_sheet_2 3 rfl lc_0 ?_
  refine rn_ldc2 hX kl194 dX11_sheet_3 6 rfl ?_
  refine rn_callS0 hX (gS mcC wd_1090 wd_1091 wd_81 wd_1092) rfl hdS_X11_in rfl rfl ⟨Nat.le_of_ble_eq_true rfl, Nat.le_of_ble_eq_true rfl⟩ (c_X11_in (zl Z) (zG Z) x1.toInt64 (0 : Int64) (3 : Int64) rfl) rfl [] rfl rfl rfl (Nat.le_of_ble_eq_true rfl) dX11_sheet_6 9 rfl (S' := [.int (X11_in x1.toInt64 (0 : Int64) (3 : Int64))]) rfl ⟨Nat.zero_le _, Nat.zero_le _⟩ ?_
  refine rn_if_eq hX dX11_sheet_9 30 (by decide) 12 rfl ?_ ?_
  · refine rn_iconst hX dX11_sheet_30 31 rfl ic_m1 ?_
    exact rn_iret hX hr (by rw [henc]; rfl) dX11_sheet_31
  refine rn_iload_n hX dX11_sheet_12 2 rfl 13 rfl ?_
  refine rn_i2l hX dX11_sheet_13 14 rfl ?_
  refine rn_lconst hX dX11_sheet_14 15 rfl lc_0 ?_
  refine rn_ldc2 hX kl179 dX11_sheet_15 18 rfl ?_
  refine rn_callS0 hX (gS mcC wd_1090 wd_1091 wd_81 wd_1092) rfl hdS_X11_in rfl rfl ⟨Nat.le_of_ble_eq_true rfl, Nat.le_of_ble_eq_true rfl⟩ (c_X11_in (zl Z) (zG Z) x2.toInt64 (0 : Int64) (2 : Int64) rfl) rfl [] rfl rfl rfl (Nat.le_of_ble_eq_true rfl) dX11_sheet_18 21 rfl (S' := [.int (X11_in x2.toInt64 (0 : Int64) (2 : Int64))]) rfl ⟨Nat.zero_le _, Nat.zero_le _⟩ ?_
  refine rn_if_eq hX dX11_sheet_21 30 (by decide) 24 rfl ?_ ?_
  · refine rn_iconst hX dX11_sheet_30 31 rfl ic_m1 ?_
    exact rn_iret hX hr (by rw [henc]; rfl) dX11_sheet_31
  refine rn_iload_n hX dX11_sheet_24 3 rfl 25 rfl ?_
  refine rn_bipush hX dX11_sheet_25 27 rfl bp_40 ?_
  refine rn_icmp_le hX dX11_sheet_27 32 (by decide) 30 rfl ?_ ?_
  · refine rn_iload_n hX dX11_sheet_32 3 rfl 33 rfl ?_
    refine rn_if_ge hX dX11_sheet_33 39 (by decide) 36 rfl ?_ ?_
    · refine rn_aload_n hX dX11_sheet_39 0 rfl 40 rfl ?_
      refine rn_get hX inX11 0 rfl rfl 25 (by decide) fl44 rfl rfl dX11_sheet_40 43 rfl ?_
      refine rn_iload_n hX dX11_sheet_43 1 rfl 44 rfl ?_
      refine rn_iload_n hX dX11_sheet_44 2 rfl 45 rfl ?_
      refine rn_gd (fun hi4 => ?_)
      refine rn_iast hX 2 rfl hi4 dX11_sheet_45 46 rfl (w1 := fun m5 => [(a_this, .inr (11, [.ref a_state, .ref a_readPage, .int g_isAwake, .ref a_tape, .int g_taped, .int g_fault, .int g_broken, .int g_brokenAt, .int g_spot, .int g_here, .int g_token, .int g_value, .ref a_letters, .int g_hasPlaces, .int g_highest, .ref a_sums, .ref a_aside, .ref a_groups, .ref a_sides, .int g_laid, .int g_groupMany, .int g_isDrawn, .ref a_names, .ref a_firstNames, .ref a_isKept, .ref a_lanes, .ref a_lengths, .ref a_cells, .int g_torn, .ref a_had])), (a_cells, .inl ((zG Z).2.1 1, 160, .inl g_cells)), (a_lanes, .inl ((zG Z).2.1 1, 4, .inl m5)), (a_lengths, .inl ((zG Z).2.1 1, 4, .inl g_lengths))]) (fun _ => rfl) (fun m5 => ?_)
      refine rn_aload_n hX dX11_sheet_46 0 rfl 47 rfl ?_
      refine rn_get hX inX11 0 rfl rfl 26 (by decide) fl47 rfl rfl dX11_sheet_47 50 rfl ?_
      refine rn_iload_n hX dX11_sheet_50 1 rfl 51 rfl ?_
      refine rn_iload_n hX dX11_sheet_51 3 rfl 52 rfl ?_
      refine rn_iast hX 3 rfl hi4 dX11_sheet_52 53 rfl (w1 := fun m6 => [(a_this, .inr (11, [.ref a_state, .ref a_readPage, .int g_isAwake, .ref a_tape, .int g_taped, .int g_fault, .int g_broken, .int g_brokenAt, .int g_spot, .int g_here, .int g_token, .int g_value, .ref a_letters, .int g_hasPlaces, .int g_highest, .ref a_sums, .ref a_aside, .ref a_groups, .ref a_sides, .int g_laid, .int g_groupMany, .int g_isDrawn, .ref a_names, .ref a_firstNames, .ref a_isKept, .ref a_lanes, .ref a_lengths, .ref a_cells, .int g_torn, .ref a_had])), (a_cells, .inl ((zG Z).2.1 1, 160, .inl g_cells)), (a_lanes, .inl ((zG Z).2.1 1, 4, .inl m5)), (a_lengths, .inl ((zG Z).2.1 1, 4, .inl m6))]) (fun _ => rfl) (fun m6 => ?_)
      refine rn_iconst hX dX11_sheet_53 54 rfl ic_0 ?_
      refine rn_istore hX dX11_sheet_54 (by decide) (L' := [(4, .int (0 : Int32)), (0, .ref a_this), (1, .int x1), (2, .int x2), (3, .int x3)]) rfl 56 rfl ?_
      refine rn_sub [1, 2, 0] rfl ?_
      exact (hL56  1000) x1 (0 : Int32) g_cells m5 m6
    refine rn_bipush hX dX11_sheet_36 38 rfl bp_m14 ?_
    exact rn_iret hX hr (by rw [henc]; rfl) dX11_sheet_38
  refine rn_iconst hX dX11_sheet_30 31 rfl ic_m1 ?_
  exact rn_iret hX hr (by rw [henc]; rfl) dX11_sheet_31
abbrev rmX11_lay : Room := { frames := 1, cells := 0, slots := 0, locals := 25 }
theorem hdV_X11_lay : yX11_lay.cls = RX11 ∧ yX11_lay.cls ≠ "java/lang/invoke/MethodHandle" ∧ yX11_lay.cls ≠ "java/lang/invoke/VarHandle" ∧ (parseMethodDescriptor yX11_lay.desc).map (fun d => d.parameters.length) = some 3 := by decide +kernel
set_option maxHeartbeats 4000000 in
set_option maxRecDepth 100000 in
theorem c_X11_lay (l : Launch) (G : GT) (a_this a_cells a_lanes a_lengths a_state a_readPage a_tape a_letters a_sums a_aside a_groups a_sides a_names a_firstNames a_isKept a_had : Nat) (g_isAwake : Int32) (g_taped : Int32) (g_fault : Int32) (g_broken : Int32) (g_brokenAt : Int32) (g_spot : Int32) (g_here : Int32) (g_token : Int32) (g_value : Int32) (g_hasPlaces : Int32) (g_highest : Int32) (g_laid : Int32) (g_groupMany : Int32) (g_isDrawn : Int32) (g_torn : Int32) (g_cells : (Nat → Int32)) (g_lanes : (Nat → Int32)) (g_lengths : (Nat → Int32)) (x1 : Int32) (x2 : Int32) (x3 : Int32) {u : Int32 × (Nat → Int32)} (hu : X11_lay x1 x2 x3 g_cells g_lanes g_lengths = some u) : Ctr l G yX11_lay wsX11_lay rmX11_lay [.ref a_this, .int x1, .int x2, .int x3] [(a_this, .inr (11, [.ref a_state, .ref a_readPage, .int g_isAwake, .ref a_tape, .int g_taped, .int g_fault, .int g_broken, .int g_brokenAt, .int g_spot, .int g_here, .int g_token, .int g_value, .ref a_letters, .int g_hasPlaces, .int g_highest, .ref a_sums, .ref a_aside, .ref a_groups, .ref a_sides, .int g_laid, .int g_groupMany, .int g_isDrawn, .ref a_names, .ref a_firstNames, .ref a_isKept, .ref a_lanes, .ref a_lengths, .ref a_cells, .int g_torn, .ref a_had])), (a_cells, .inl (G.2.1 1, 160, .inl g_cells)), (a_lanes, .inl (G.2.1 1, 4, .inl g_lanes)), (a_lengths, .inl (G.2.1 1, 4, .inl g_lengths))] (some (.int u.1)) [(a_this, .inr (11, [.ref a_state, .ref a_readPage, .int g_isAwake, .ref a_tape, .int g_taped, .int g_fault, .int g_broken, .int g_brokenAt, .int g_spot, .int g_here, .int g_token, .int g_value, .ref a_letters, .int g_hasPlaces, .int g_highest, .ref a_sums, .ref a_aside, .ref a_groups, .ref a_sides, .int g_laid, .int g_groupMany, .int g_isDrawn, .ref a_names, .ref a_firstNames, .ref a_isKept, .ref a_lanes, .ref a_lengths, .ref a_cells, .int g_torn, .ref a_had])), (a_cells, .inl (G.2.1 1, 160, .inl u.2)), (a_lanes, .inl (G.2.1 1, 4, .inl g_lanes)), (a_lengths, .inl (G.2.1 1, 4, .inl g_lengths))] := by
  obtain ⟨enc, henc⟩ : ∃ enc : (Int32 × (Nat → Int32)) → Option Value × va_W, enc = fun u => (((some (.int u.1)) : Option Value), ([(a_this, .inr (11, [.ref a_state, .ref a_readPage, .int g_isAwake, .ref a_tape, .int g_taped, .int g_fault, .int g_broken, .int g_brokenAt, .int g_spot, .int g_here, .int g_token, .int g_value, .ref a_letters, .int g_hasPlaces, .int g_highest, .ref a_sums, .ref a_aside, .ref a_groups, .ref a_sides, .int g_laid, .int g_groupMany, .int g_isDrawn, .ref a_names, .ref a_firstNames, .ref a_isKept, .ref a_lanes, .ref a_lengths, .ref a_cells, .int g_torn, .ref a_had])), (a_cells, .inl (G.2.1 1, 160, .inl u.2)), (a_lanes, .inl (G.2.1 1, 4, .inl g_lanes)), (a_lengths, .inl (G.2.1 1, 4, .inl g_lengths))] : va_W)) := ⟨_, rfl⟩
  refine ctr_of (cc := cX11_lay) (own := RX11) (E := Option.map enc) (o := X11_lay x1 x2 x3 g_cells g_lanes g_lengths) (by decide) rfl rfl (L := [(0, .ref a_this), (1, .int x1), (2, .int x2), (3, .int x3)]) rfl (Nat.le_of_ble_eq_true rfl) (by rw [hu, henc]; rfl) ?_
  intro Z hX hl hG hr
  subst hl; subst hG
  have fl44 : (Cond.fieldLink RX11 44 "OnlyFarModel" "lanes" "[I").before (za Z) (zs Z) = true := hX.wd (mcC _ wd_1015)
  have fl47 : (Cond.fieldLink RX11 47 "OnlyFarModel" "lengths" "[I").before (za Z) (zs Z) = true := hX.wd (mcC _ wd_1016)
  have fl50 : (Cond.fieldLink RX11 50 "OnlyFarModel" "cells" "[I").before (za Z) (zs Z) = true := hX.wd (mcC _ wd_1017)
  have kl194 : (Cond.constantLong RX11 194 (3)).before (za Z) (zs Z) = true := hX.wd (mcC _ wd_1228)
  have inX11 : ∀ w ∈ u_ws RX11 TX11 30, w ∈ wsX11_lay := fun w h => mcC w (inC_X11 w h)
  unfold X11_lay
  refine rn_iload_n hX dX11_lay_0 1 rfl 1 rfl ?_
  refine rn_i2l hX dX11_lay_1 2 rfl ?_
  refine rn_lconst hX dX11_lay_2 3 rfl lc_0 ?_
  refine rn_ldc2 hX kl194 dX11_lay_3 6 rfl ?_
  refine rn_callS0 hX (gS mcC wd_1090 wd_1091 wd_81 wd_1092) rfl hdS_X11_in rfl rfl ⟨Nat.le_of_ble_eq_true rfl, Nat.le_of_ble_eq_true rfl⟩ (c_X11_in (zl Z) (zG Z) x1.toInt64 (0 : Int64) (3 : Int64) rfl) rfl [] rfl rfl rfl (Nat.le_of_ble_eq_true rfl) dX11_lay_6 9 rfl (S' := [.int (X11_in x1.toInt64 (0 : Int64) (3 : Int64))]) rfl ⟨Nat.zero_le _, Nat.zero_le _⟩ ?_
  refine rn_if_ne hX dX11_lay_9 14 (by decide) 12 rfl ?_ ?_
  · refine rn_aload_n hX dX11_lay_14 0 rfl 15 rfl ?_
    refine rn_get hX inX11 0 rfl rfl 25 (by decide) fl44 rfl rfl dX11_lay_15 18 rfl ?_
    refine rn_iload_n hX dX11_lay_18 1 rfl 19 rfl ?_
    refine rn_gd (fun hi1 => ?_)
    refine rn_iald hX 2 rfl hi1 dX11_lay_19 20 rfl ?_
    refine rn_bipush hX dX11_lay_20 22 rfl bp_m4 ?_
    refine rn_icmp_ne hX dX11_lay_22 28 (by decide) 25 rfl ?_ ?_
    · refine rn_iload_n hX dX11_lay_28 2 rfl 29 rfl ?_
      refine rn_i2l hX dX11_lay_29 30 rfl ?_
      refine rn_lconst hX dX11_lay_30 31 rfl lc_0 ?_
      refine rn_aload_n hX dX11_lay_31 0 rfl 32 rfl ?_
      refine rn_get hX inX11 0 rfl rfl 26 (by decide) fl47 rfl rfl dX11_lay_32 35 rfl ?_
      refine rn_iload_n hX dX11_lay_35 1 rfl 36 rfl ?_
      refine rn_iald hX 3 rfl hi1 dX11_lay_36 37 rfl ?_
      refine rn_iconst hX dX11_lay_37 38 rfl ic_1 ?_
      refine rn_isub hX dX11_lay_38 39 rfl ?_
      refine rn_i2l hX dX11_lay_39 40 rfl ?_
      refine rn_callS0 hX (gS mcC wd_1090 wd_1091 wd_81 wd_1092) rfl hdS_X11_in rfl rfl ⟨Nat.le_of_ble_eq_true rfl, Nat.le_of_ble_eq_true rfl⟩ (c_X11_in (zl Z) (zG Z) x2.toInt64 (0 : Int64) (((g_lengths x1.toNatClampNeg) - (1 : Int32)).toInt64) rfl) rfl [] rfl rfl rfl (Nat.le_of_ble_eq_true rfl) dX11_lay_40 43 rfl (S' := [.int (X11_in x2.toInt64 (0 : Int64) (((g_lengths x1.toNatClampNeg) - (1 : Int32)).toInt64))]) rfl ⟨Nat.zero_le _, Nat.zero_le _⟩ ?_
      refine rn_if_ne hX dX11_lay_43 49 (by decide) 46 rfl ?_ ?_
      · refine rn_aload_n hX dX11_lay_49 0 rfl 50 rfl ?_
        refine rn_get hX inX11 0 rfl rfl 27 (by decide) fl50 rfl rfl dX11_lay_50 53 rfl ?_
        refine rn_bipush hX dX11_lay_53 55 rfl bp_40 ?_
        refine rn_iload_n hX dX11_lay_55 1 rfl 56 rfl ?_
        refine rn_imul hX dX11_lay_56 57 rfl ?_
        refine rn_iload_n hX dX11_lay_57 2 rfl 58 rfl ?_
        refine rn_iadd hX dX11_lay_58 59 rfl ?_
        refine rn_aload_n hX dX11_lay_59 0 rfl 60 rfl ?_
        refine rn_get hX inX11 0 rfl rfl 25 (by decide) fl44 rfl rfl dX11_lay_60 63 rfl ?_
        refine rn_iload_n hX dX11_lay_63 1 rfl 64 rfl ?_
        refine rn_iald hX 2 rfl hi1 dX11_lay_64 65 rfl ?_
        refine rn_if_ne hX dX11_lay_65 78 (by decide) 68 rfl ?_ ?_
        · refine rn_aload_n hX dX11_lay_78 0 rfl 79 rfl ?_
          refine rn_get hX inX11 0 rfl rfl 25 (by decide) fl44 rfl rfl dX11_lay_79 82 rfl ?_
          refine rn_iload_n hX dX11_lay_82 1 rfl 83 rfl ?_
          refine rn_iald hX 2 rfl hi1 dX11_lay_83 84 rfl ?_
          refine rn_iconst hX dX11_lay_84 85 rfl ic_1 ?_
          refine rn_icmp_ne hX dX11_lay_85 98 (by decide) 88 rfl ?_ ?_
          · refine rn_iload_n hX dX11_lay_98 3 rfl 99 rfl ?_
            refine rn_gd (fun hi2 => ?_)
            refine rn_iast hX 1 rfl hi2 dX11_lay_99 100 rfl (w1 := fun m3 => [(a_this, .inr (11, [.ref a_state, .ref a_readPage, .int g_isAwake, .ref a_tape, .int g_taped, .int g_fault, .int g_broken, .int g_brokenAt, .int g_spot, .int g_here, .int g_token, .int g_value, .ref a_letters, .int g_hasPlaces, .int g_highest, .ref a_sums, .ref a_aside, .ref a_groups, .ref a_sides, .int g_laid, .int g_groupMany, .int g_isDrawn, .ref a_names, .ref a_firstNames, .ref a_isKept, .ref a_lanes, .ref a_lengths, .ref a_cells, .int g_torn, .ref a_had])), (a_cells, .inl ((zG Z).2.1 1, 160, .inl m3)), (a_lanes, .inl ((zG Z).2.1 1, 4, .inl g_lanes)), (a_lengths, .inl ((zG Z).2.1 1, 4, .inl g_lengths))]) (fun _ => rfl) (fun m3 => ?_)
            refine rn_iconst hX dX11_lay_100 101 rfl ic_1 ?_
            exact rn_iret hX hr (by rw [henc]; rfl) dX11_lay_101
          refine rn_iload_n hX dX11_lay_88 3 rfl 89 rfl ?_
          refine rn_bipush hX dX11_lay_89 91 rfl bp_16 ?_
          refine rn_ishl hX dX11_lay_91 92 rfl ?_
          refine rn_bipush hX dX11_lay_92 94 rfl bp_16 ?_
          refine rn_ishr hX dX11_lay_94 95 rfl ?_
          refine rn_goto hX dX11_lay_95 99 (by decide) ?_
          refine rn_gd (fun hi4 => ?_)
          refine rn_iast hX 1 rfl hi4 dX11_lay_99 100 rfl (w1 := fun m5 => [(a_this, .inr (11, [.ref a_state, .ref a_readPage, .int g_isAwake, .ref a_tape, .int g_taped, .int g_fault, .int g_broken, .int g_brokenAt, .int g_spot, .int g_here, .int g_token, .int g_value, .ref a_letters, .int g_hasPlaces, .int g_highest, .ref a_sums, .ref a_aside, .ref a_groups, .ref a_sides, .int g_laid, .int g_groupMany, .int g_isDrawn, .ref a_names, .ref a_firstNames, .ref a_isKept, .ref a_lanes, .ref a_lengths, .ref a_cells, .int g_torn, .ref a_had])), (a_cells, .inl ((zG Z).2.1 1, 160, .inl m5)), (a_lanes, .inl ((zG Z).2.1 1, 4, .inl g_lanes)), (a_lengths, .inl ((zG Z).2.1 1, 4, .inl g_lengths))]) (fun _ => rfl) (fun m5 => ?_)
          refine rn_iconst hX dX11_lay_100 101 rfl ic_1 ?_
          exact rn_iret hX hr (by rw [henc]; rfl) dX11_lay_101
        refine rn_iload_n hX dX11_lay_68 3 rfl 69 rfl ?_
        refine rn_bipush hX dX11_lay_69 71 rfl bp_24 ?_
        refine rn_ishl hX dX11_lay_71 72 rfl ?_
        refine rn_bipush hX dX11_lay_72 74 rfl bp_24 ?_
        refine rn_ishr hX dX11_lay_74 75 rfl ?_
        refine rn_goto hX dX11_lay_75 99 (by decide) ?_
        refine rn_gd (fun hi6 => ?_)
        refine rn_iast hX 1 rfl hi6 dX11_lay_99 100 rfl (w1 := fun m7 => [(a_this, .inr (11, [.ref a_state, .ref a_readPage, .int g_isAwake, .ref a_tape, .int g_taped, .int g_fault, .int g_broken, .int g_brokenAt, .int g_spot, .int g_here, .int g_token, .int g_value, .ref a_letters, .int g_hasPlaces, .int g_highest, .ref a_sums, .ref a_aside, .ref a_groups, .ref a_sides, .int g_laid, .int g_groupMany, .int g_isDrawn, .ref a_names, .ref a_firstNames, .ref a_isKept, .ref a_lanes, .ref a_lengths, .ref a_cells, .int g_torn, .ref a_had])), (a_cells, .inl ((zG Z).2.1 1, 160, .inl m7)), (a_lanes, .inl ((zG Z).2.1 1, 4, .inl g_lanes)), (a_lengths, .inl ((zG Z).2.1 1, 4, .inl g_lengths))]) (fun _ => rfl) (fun m7 => ?_)
        refine rn_iconst hX dX11_lay_100 101 rfl ic_1 ?_
        exact rn_iret hX hr (by rw [henc]; rfl) dX11_lay_101
      refine rn_bipush hX dX11_lay_46 48 rfl bp_m12 ?_
      exact rn_iret hX hr (by rw [henc]; rfl) dX11_lay_48
    refine rn_bipush hX dX11_lay_25 27 rfl bp_m11 ?_
    exact rn_iret hX hr (by rw [henc]; rfl) dX11_lay_27
  refine rn_iconst hX dX11_lay_12 13 rfl ic_m1 ?_
  exact rn_iret hX hr (by rw [henc]; rfl) dX11_lay_13
