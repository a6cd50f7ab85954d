abbrev rmX11_words : Room := { frames := 3, cells := 0, slots := 0, locals := 70 }
theorem hdV_X11_words : yX11_words.cls = RX11 ∧ yX11_words.cls ≠ "java/lang/invoke/MethodHandle" ∧ yX11_words.cls ≠ "java/lang/invoke/VarHandle" ∧ (parseMethodDescriptor yX11_words.desc).map (fun d => d.parameters.length) = some 2 := by decide +kernel
set_option maxHeartbeats 4000000 in
set_option maxRecDepth 100000 in
theorem c_X11_words (l : Launch) (G : GT) (a_this a_state a_readPage a_tape a_letters a_sums a_aside a_groups a_sides a_names a_firstNames a_isKept a_lanes a_lengths a_cells a_had : Nat) (g_isAwake : Int32) (g_taped : Int32) (g_fault : Int32) (g_broken : Int32) (g_brokenAt : Int32) (g_spot : Int32) (g_here : Int32) (g_token : Int32) (g_value : Int32) (g_hasPlaces : Int32) (g_highest : Int32) (g_laid : Int32) (g_groupMany : Int32) (g_isDrawn : Int32) (g_torn : Int32) (g_state : (Nat → Int32)) (x1 : Int32) (x2 : Int32) {u : Int32 × Int32 × (Nat → Int32)} (hu : X11_words x1 x2 g_isAwake g_state = some u) : Ctr l G yX11_words wsX11_words rmX11_words [.ref a_this, .int x1, .int x2] [(a_this, .inr (11, [.ref a_state, .ref a_readPage, .int g_isAwake, .ref a_tape, .int g_taped, .int g_fault, .int g_broken, .int g_brokenAt, .int g_spot, .int g_here, .int g_token, .int g_value, .ref a_letters, .int g_hasPlaces, .int g_highest, .ref a_sums, .ref a_aside, .ref a_groups, .ref a_sides, .int g_laid, .int g_groupMany, .int g_isDrawn, .ref a_names, .ref a_firstNames, .ref a_isKept, .ref a_lanes, .ref a_lengths, .ref a_cells, .int g_torn, .ref a_had])), (a_state, .inl (G.2.1 1, 96, .inl g_state))] (some (.int u.1)) [(a_this, .inr (11, [.ref a_state, .ref a_readPage, .int u.2.1, .ref a_tape, .int g_taped, .int g_fault, .int g_broken, .int g_brokenAt, .int g_spot, .int g_here, .int g_token, .int g_value, .ref a_letters, .int g_hasPlaces, .int g_highest, .ref a_sums, .ref a_aside, .ref a_groups, .ref a_sides, .int g_laid, .int g_groupMany, .int g_isDrawn, .ref a_names, .ref a_firstNames, .ref a_isKept, .ref a_lanes, .ref a_lengths, .ref a_cells, .int g_torn, .ref a_had])), (a_state, .inl (G.2.1 1, 96, .inl u.2.2))] := by
  obtain ⟨enc, henc⟩ : ∃ enc : (Int32 × Int32 × (Nat → Int32)) → Option Value × va_W, enc = fun u => (((some (.int u.1)) : Option Value), ([(a_this, .inr (11, [.ref a_state, .ref a_readPage, .int u.2.1, .ref a_tape, .int g_taped, .int g_fault, .int g_broken, .int g_brokenAt, .int g_spot, .int g_here, .int g_token, .int g_value, .ref a_letters, .int g_hasPlaces, .int g_highest, .ref a_sums, .ref a_aside, .ref a_groups, .ref a_sides, .int g_laid, .int g_groupMany, .int g_isDrawn, .ref a_names, .ref a_firstNames, .ref a_isKept, .ref a_lanes, .ref a_lengths, .ref a_cells, .int g_torn, .ref a_had])), (a_state, .inl (G.2.1 1, 96, .inl u.2.2))] : va_W)) := ⟨_, rfl⟩
  refine ctr_of (cc := cX11_words) (own := RX11) (E := Option.map enc) (o := X11_words x1 x2 g_isAwake g_state) (by decide) rfl rfl (L := [(0, .ref a_this), (1, .int x1), (2, .int x2)]) rfl (Nat.le_of_ble_eq_true rfl) (by rw [hu, henc]; rfl) ?_
  intro Z hX hl hG hr
  subst hl; subst hG
  have fl7 : (Cond.fieldLink RX11 7 "OnlyFarModel" "state" "[I").before (za Z) (zs Z) = true := hX.wd (mcC _ wd_990)
  have inX11 : ∀ w ∈ u_ws RX11 TX11 30, w ∈ wsX11_words := fun w h => mcC w (inC_X11 w h)
  have hJ102 : ∀ (x2 : Int32) (x3 : Int32) (g_isAwake : Int32) (g_state : (Nat → Int32)), Rn Z 6 (Option.map enc) 0 0 102 [(2, .int x2), (3, .int x3)] [] [(a_this, .inr (11, [.ref a_state, .ref a_readPage, .int g_isAwake, .ref a_tape, .int g_taped, .int g_fault, .int g_broken, .int g_brokenAt, .int g_spot, .int g_here, .int g_token, .int g_value, .ref a_letters, .int g_hasPlaces, .int g_highest, .ref a_sums, .ref a_aside, .ref a_groups, .ref a_sides, .int g_laid, .int g_groupMany, .int g_isDrawn, .ref a_names, .ref a_firstNames, .ref a_isKept, .ref a_lanes, .ref a_lengths, .ref a_cells, .int g_torn, .ref a_had])), (a_state, .inl ((zG Z).2.1 1, 96, .inl g_state))] (X11_words_J102 x2 x3 g_isAwake g_state) := by
    intro x2 x3 g_isAwake g_state
    unfold X11_words_J102
    refine rn_iload_n hX dX11_words_102 1 rfl 103 rfl ?_
    refine rn_bipush hX dX11_words_103 105 rfl bp_m4 ?_
    refine rn_icmp_eq hX dX11_words_105 113 (by decide) 108 rfl ?_ ?_
    · refine rn_iload_n hX dX11_words_113 1 rfl 114 rfl ?_
      refine rn_goto hX dX11_words_114 121 (by decide) ?_
      exact rn_iret hX hr (by rw [henc]; rfl) dX11_words_121
    refine rn_iload_n hX dX11_words_108 0 rfl 109 rfl ?_
    refine rn_iconst hX dX11_words_109 110 rfl ic_1 ?_
    refine rn_icmp_ne hX dX11_words_110 117 (by decide) 113 rfl ?_ ?_
    · refine rn_iload_n hX dX11_words_117 1 rfl 118 rfl ?_
      refine rn_bind (fun u1 hu1 => ?_)
      refine rn_callS0 hX (gS mcC wd_1354 wd_1355 wd_81 wd_1356) rfl hdS_X11_bitsOf rfl rfl ⟨Nat.le_of_ble_eq_true rfl, Nat.le_of_ble_eq_true rfl⟩ (c_X11_bitsOf (zl Z) (zG Z) x3 hu1) rfl [] rfl rfl rfl (Nat.le_of_ble_eq_true rfl) dX11_words_118 121 rfl (S' := [.int u1]) rfl ⟨Nat.zero_le _, Nat.zero_le _⟩ ?_
      exact rn_iret hX hr (by rw [henc]; rfl) dX11_words_121
    refine rn_iload_n hX dX11_words_113 1 rfl 114 rfl ?_
    refine rn_goto hX dX11_words_114 121 (by decide) ?_
    exact rn_iret hX hr (by rw [henc]; rfl) dX11_words_121
  have hJ95 : ∀ (again : Int32 → Int32 → Int32 → Int32 → Int32 → (Nat → Int32) → Option (Int32 × Int32 × (Nat → Int32))) (k102 : Int32 → Int32 → Int32 → (Nat → Int32) → Option (Int32 × Int32 × (Nat → Int32))) (hagain : ∀ (x1 : Int32) (x2 : Int32) (x3 : Int32) (x4 : Int32) (g_isAwake : Int32) (g_state : (Nat → Int32)), Rn Z 6 (Option.map enc) 0 0 26 [(0, .ref a_this), (1, .int x1), (2, .int x2), (3, .int x3), (4, .int x4)] [] [(a_this, .inr (11, [.ref a_state, .ref a_readPage, .int g_isAwake, .ref a_tape, .int g_taped, .int g_fault, .int g_broken, .int g_brokenAt, .int g_spot, .int g_here, .int g_token, .int g_value, .ref a_letters, .int g_hasPlaces, .int g_highest, .ref a_sums, .ref a_aside, .ref a_groups, .ref a_sides, .int g_laid, .int g_groupMany, .int g_isDrawn, .ref a_names, .ref a_firstNames, .ref a_isKept, .ref a_lanes, .ref a_lengths, .ref a_cells, .int g_torn, .ref a_had])), (a_state, .inl ((zG Z).2.1 1, 96, .inl g_state))] (again x1 x2 x3 x4 g_isAwake g_state)) (hk102 : ∀ (x2 : Int32) (x3 : Int32) (g_isAwake : Int32) (g_state : (Nat → Int32)), Rn Z 6 (Option.map enc) 0 0 102 [(2, .int x2), (3, .int x3)] [] [(a_this, .inr (11, [.ref a_state, .ref a_readPage, .int g_isAwake, .ref a_tape, .int g_taped, .int g_fault, .int g_broken, .int g_brokenAt, .int g_spot, .int g_here, .int g_token, .int g_value, .ref a_letters, .int g_hasPlaces, .int g_highest, .ref a_sums, .ref a_aside, .ref a_groups, .ref a_sides, .int g_laid, .int g_groupMany, .int g_isDrawn, .ref a_names, .ref a_firstNames, .ref a_isKept, .ref a_lanes, .ref a_lengths, .ref a_cells, .int g_torn, .ref a_had])), (a_state, .inl ((zG Z).2.1 1, 96, .inl g_state))] (k102 x2 x3 g_isAwake g_state)) (x1 : Int32) (x2 : Int32) (x4 : Int32) (s0 : Int32) (g_isAwake : Int32) (g_state : (Nat → Int32)), Rn Z 6 (Option.map enc) 0 0 95 [(0, .ref a_this), (1, .int x1), (2, .int x2), (4, .int x4)] [.int s0] [(a_this, .inr (11, [.ref a_state, .ref a_readPage, .int g_isAwake, .ref a_tape, .int g_taped, .int g_fault, .int g_broken, .int g_brokenAt, .int g_spot, .int g_here, .int g_token, .int g_value, .ref a_letters, .int g_hasPlaces, .int g_highest, .ref a_sums, .ref a_aside, .ref a_groups, .ref a_sides, .int g_laid, .int g_groupMany, .int g_isDrawn, .ref a_names, .ref a_firstNames, .ref a_isKept, .ref a_lanes, .ref a_lengths, .ref a_cells, .int g_torn, .ref a_had])), (a_state, .inl ((zG Z).2.1 1, 96, .inl g_state))] (X11_words_J95 again k102 x1 x2 x4 s0 g_isAwake g_state) := by
    intro again k102 hagain hk102 x1 x2 x4 s0 g_isAwake g_state
    unfold X11_words_J95
    refine rn_istore_n hX dX11_words_95 3 rfl (by decide) (L' := [(3, .int s0), (0, .ref a_this), (1, .int x1), (2, .int x2), (4, .int x4)]) rfl 96 rfl ?_
    refine rn_iinc hX dX11_words_96 4 rfl ic_1 (by decide) (L' := fun v2 => [(4, .int v2), (3, .int s0), (0, .ref a_this), (1, .int x1), (2, .int x2)]) (fun _ => rfl) 99 rfl (fun v2 => ?_)
    refine rn_goto hX dX11_words_99 26 (by decide) ?_
    refine rn_sub [2, 3, 4, 1, 0] rfl ?_
    exact hagain x1 x2 s0 v2 g_isAwake g_state
  have hJ94 : ∀ (again : Int32 → Int32 → Int32 → Int32 → Int32 → (Nat → Int32) → Option (Int32 × Int32 × (Nat → Int32))) (k102 : Int32 → Int32 → Int32 → (Nat → Int32) → Option (Int32 × Int32 × (Nat → Int32))) (hagain : ∀ (x1 : Int32) (x2 : Int32) (x3 : Int32) (x4 : Int32) (g_isAwake : Int32) (g_state : (Nat → Int32)), Rn Z 6 (Option.map enc) 0 0 26 [(0, .ref a_this), (1, .int x1), (2, .int x2), (3, .int x3), (4, .int x4)] [] [(a_this, .inr (11, [.ref a_state, .ref a_readPage, .int g_isAwake, .ref a_tape, .int g_taped, .int g_fault, .int g_broken, .int g_brokenAt, .int g_spot, .int g_here, .int g_token, .int g_value, .ref a_letters, .int g_hasPlaces, .int g_highest, .ref a_sums, .ref a_aside, .ref a_groups, .ref a_sides, .int g_laid, .int g_groupMany, .int g_isDrawn, .ref a_names, .ref a_firstNames, .ref a_isKept, .ref a_lanes, .ref a_lengths, .ref a_cells, .int g_torn, .ref a_had])), (a_state, .inl ((zG Z).2.1 1, 96, .inl g_state))] (again x1 x2 x3 x4 g_isAwake g_state)) (hk102 : ∀ (x2 : Int32) (x3 : Int32) (g_isAwake : Int32) (g_state : (Nat → Int32)), Rn Z 6 (Option.map enc) 0 0 102 [(2, .int x2), (3, .int x3)] [] [(a_this, .inr (11, [.ref a_state, .ref a_readPage, .int g_isAwake, .ref a_tape, .int g_taped, .int g_fault, .int g_broken, .int g_brokenAt, .int g_spot, .int g_here, .int g_token, .int g_value, .ref a_letters, .int g_hasPlaces, .int g_highest, .ref a_sums, .ref a_aside, .ref a_groups, .ref a_sides, .int g_laid, .int g_groupMany, .int g_isDrawn, .ref a_names, .ref a_firstNames, .ref a_isKept, .ref a_lanes, .ref a_lengths, .ref a_cells, .int g_torn, .ref a_had])), (a_state, .inl ((zG Z).2.1 1, 96, .inl g_state))] (k102 x2 x3 g_isAwake g_state)) (x1 : Int32) (x2 : Int32) (x3 : Int32) (x4 : Int32) (g_isAwake : Int32) (g_state : (Nat → Int32)), Rn Z 6 (Option.map enc) 0 0 94 [(0, .ref a_this), (1, .int x1), (2, .int x2), (3, .int x3), (4, .int x4)] [] [(a_this, .inr (11, [.ref a_state, .ref a_readPage, .int g_isAwake, .ref a_tape, .int g_taped, .int g_fault, .int g_broken, .int g_brokenAt, .int g_spot, .int g_here, .int g_token, .int g_value, .ref a_letters, .int g_hasPlaces, .int g_highest, .ref a_sums, .ref a_aside, .ref a_groups, .ref a_sides, .int g_laid, .int g_groupMany, .int g_isDrawn, .ref a_names, .ref a_firstNames, .ref a_isKept, .ref a_lanes, .ref a_lengths, .ref a_cells, .int g_torn, .ref a_had])), (a_state, .inl ((zG Z).2.1 1, 96, .inl g_state))] (X11_words_J94 again k102 x1 x2 x3 x4 g_isAwake g_state) := by
    intro again k102 hagain hk102 x1 x2 x3 x4 g_isAwake g_state
    unfold X11_words_J94
    refine rn_iload_n hX dX11_words_94 3 rfl 95 rfl ?_
    refine rn_sub [0, 1, 2, 4] rfl ?_
    exact (hJ95 _ _ hagain hk102) x1 x2 x4 x3 g_isAwake g_state
  have hJ89 : ∀ (again : Int32 → Int32 → Int32 → Int32 → Int32 → (Nat → Int32) → Option (Int32 × Int32 × (Nat → Int32))) (k102 : Int32 → Int32 → Int32 → (Nat → Int32) → Option (Int32 × Int32 × (Nat → Int32))) (hagain : ∀ (x1 : Int32) (x2 : Int32) (x3 : Int32) (x4 : Int32) (g_isAwake : Int32) (g_state : (Nat → Int32)), Rn Z 6 (Option.map enc) 0 0 26 [(0, .ref a_this), (1, .int x1), (2, .int x2), (3, .int x3), (4, .int x4)] [] [(a_this, .inr (11, [.ref a_state, .ref a_readPage, .int g_isAwake, .ref a_tape, .int g_taped, .int g_fault, .int g_broken, .int g_brokenAt, .int g_spot, .int g_here, .int g_token, .int g_value, .ref a_letters, .int g_hasPlaces, .int g_highest, .ref a_sums, .ref a_aside, .ref a_groups, .ref a_sides, .int g_laid, .int g_groupMany, .int g_isDrawn, .ref a_names, .ref a_firstNames, .ref a_isKept, .ref a_lanes, .ref a_lengths, .ref a_cells, .int g_torn, .ref a_had])), (a_state, .inl ((zG Z).2.1 1, 96, .inl g_state))] (again x1 x2 x3 x4 g_isAwake g_state)) (hk102 : ∀ (x2 : Int32) (x3 : Int32) (g_isAwake : Int32) (g_state : (Nat → Int32)), Rn Z 6 (Option.map enc) 0 0 102 [(2, .int x2), (3, .int x3)] [] [(a_this, .inr (11, [.ref a_state, .ref a_readPage, .int g_isAwake, .ref a_tape, .int g_taped, .int g_fault, .int g_broken, .int g_brokenAt, .int g_spot, .int g_here, .int g_token, .int g_value, .ref a_letters, .int g_hasPlaces, .int g_highest, .ref a_sums, .ref a_aside, .ref a_groups, .ref a_sides, .int g_laid, .int g_groupMany, .int g_isDrawn, .ref a_names, .ref a_firstNames, .ref a_isKept, .ref a_lanes, .ref a_lengths, .ref a_cells, .int g_torn, .ref a_had])), (a_state, .inl ((zG Z).2.1 1, 96, .inl g_state))] (k102 x2 x3 g_isAwake g_state)) (x1 : Int32) (x2 : Int32) (x4 : Int32) (g_isAwake : Int32) (g_state : (Nat → Int32)), Rn Z 6 (Option.map enc) 0 0 89 [(0, .ref a_this), (1, .int x1), (2, .int x2), (4, .int x4)] [] [(a_this, .inr (11, [.ref a_state, .ref a_readPage, .int g_isAwake, .ref a_tape, .int g_taped, .int g_fault, .int g_broken, .int g_brokenAt, .int g_spot, .int g_here, .int g_token, .int g_value, .ref a_letters, .int g_hasPlaces, .int g_highest, .ref a_sums, .ref a_aside, .ref a_groups, .ref a_sides, .int g_laid, .int g_groupMany, .int g_isDrawn, .ref a_names, .ref a_firstNames, .ref a_isKept, .ref a_lanes, .ref a_lengths, .ref a_cells, .int g_torn, .ref a_had])), (a_state, .inl ((zG Z).2.1 1, 96, .inl g_state))] (X11_words_J89 again k102 x1 x2 x4 g_isAwake g_state) := by
    intro again k102 hagain hk102 x1 x2 x4 g_isAwake g_state
    unfold X11_words_J89
    refine rn_iload hX dX11_words_89 3 rfl 91 rfl ?_
    refine rn_goto hX dX11_words_91 95 (by decide) ?_
    exact (hJ95 _ _ hagain hk102) x1 x2 x4 x4 g_isAwake g_state
  have hJ64 : ∀ (again : Int32 → Int32 → Int32 → Int32 → Int32 → (Nat → Int32) → Option (Int32 × Int32 × (Nat → Int32))) (k102 : Int32 → Int32 → Int32 → (Nat → Int32) → Option (Int32 × Int32 × (Nat → Int32))) (hagain : ∀ (x1 : Int32) (x2 : Int32) (x3 : Int32) (x4 : Int32) (g_isAwake : Int32) (g_state : (Nat → Int32)), Rn Z 6 (Option.map enc) 0 0 26 [(0, .ref a_this), (1, .int x1), (2, .int x2), (3, .int x3), (4, .int x4)] [] [(a_this, .inr (11, [.ref a_state, .ref a_readPage, .int g_isAwake, .ref a_tape, .int g_taped, .int g_fault, .int g_broken, .int g_brokenAt, .int g_spot, .int g_here, .int g_token, .int g_value, .ref a_letters, .int g_hasPlaces, .int g_highest, .ref a_sums, .ref a_aside, .ref a_groups, .ref a_sides, .int g_laid, .int g_groupMany, .int g_isDrawn, .ref a_names, .ref a_firstNames, .ref a_isKept, .ref a_lanes, .ref a_lengths, .ref a_cells, .int g_torn, .ref a_had])), (a_state, .inl ((zG Z).2.1 1, 96, .inl g_state))] (again x1 x2 x3 x4 g_isAwake g_state)) (hk102 : ∀ (x2 : Int32) (x3 : Int32) (g_isAwake : Int32) (g_state : (Nat → Int32)), Rn Z 6 (Option.map enc) 0 0 102 [(2, .int x2), (3, .int x3)] [] [(a_this, .inr (11, [.ref a_state, .ref a_readPage, .int g_isAwake, .ref a_tape, .int g_taped, .int g_fault, .int g_broken, .int g_brokenAt, .int g_spot, .int g_here, .int g_token, .int g_value, .ref a_letters, .int g_hasPlaces, .int g_highest, .ref a_sums, .ref a_aside, .ref a_groups, .ref a_sides, .int g_laid, .int g_groupMany, .int g_isDrawn, .ref a_names, .ref a_firstNames, .ref a_isKept, .ref a_lanes, .ref a_lengths, .ref a_cells, .int g_torn, .ref a_had])), (a_state, .inl ((zG Z).2.1 1, 96, .inl g_state))] (k102 x2 x3 g_isAwake g_state)) (x1 : Int32) (x2 : Int32) (x3 : Int32) (x4 : Int32) (s0 : Int32) (g_isAwake : Int32) (g_state : (Nat → Int32)), Rn Z 6 (Option.map enc) 0 0 64 [(0, .ref a_this), (1, .int x1), (2, .int x2), (3, .int x3), (4, .int x4)] [.int s0] [(a_this, .inr (11, [.ref a_state, .ref a_readPage, .int g_isAwake, .ref a_tape, .int g_taped, .int g_fault, .int g_broken, .int g_brokenAt, .int g_spot, .int g_here, .int g_token, .int g_value, .ref a_letters, .int g_hasPlaces, .int g_highest, .ref a_sums, .ref a_aside, .ref a_groups, .ref a_sides, .int g_laid, .int g_groupMany, .int g_isDrawn, .ref a_names, .ref a_firstNames, .ref a_isKept, .ref a_lanes, .ref a_lengths, .ref a_cells, .int g_torn, .ref a_had])), (a_state, .inl ((zG Z).2.1 1, 96, .inl g_state))] (X11_words_J64 again k102 x1 x2 x3 x4 s0 g_isAwake g_state) := by
    intro again k102 hagain hk102 x1 x2 x3 x4 s0 g_isAwake g_state
    unfold X11_words_J64
    refine rn_istore hX dX11_words_64 (by decide) (L' := [(5, .int s0), (0, .ref a_this), (1, .int x1), (2, .int x2), (3, .int x3), (4, .int x4)]) rfl 66 rfl ?_
    refine rn_iload hX dX11_words_66 0 rfl 68 rfl ?_
    refine rn_if_eq hX dX11_words_68 94 (by decide) 71 rfl ?_ ?_
    · refine rn_sub [1, 2, 3, 4, 5] rfl ?_
      exact (hJ94 _ _ hagain hk102) x1 x2 x3 x4 g_isAwake g_state
    refine rn_iload_n hX dX11_words_71 4 rfl 72 rfl ?_
    refine rn_bipush hX dX11_words_72 74 rfl bp_m4 ?_
    refine rn_icmp_eq hX dX11_words_74 89 (by decide) 77 rfl ?_ ?_
    · refine rn_sub [1, 2, 3, 5] rfl ?_
      exact (hJ89 _ _ hagain hk102) x1 x2 x4 g_isAwake g_state
    refine rn_iload hX dX11_words_77 5 rfl 79 rfl ?_
    refine rn_bind (fun u3 hu3 => ?_)
    refine rn_callS0 hX (gS mcC wd_1354 wd_1355 wd_81 wd_1356) rfl hdS_X11_bitsOf rfl rfl ⟨Nat.le_of_ble_eq_true rfl, Nat.le_of_ble_eq_true rfl⟩ (c_X11_bitsOf (zl Z) (zG Z) x4 hu3) rfl [] rfl rfl rfl (Nat.le_of_ble_eq_true rfl) dX11_words_79 82 rfl (S' := [.int u3]) rfl ⟨Nat.zero_le _, Nat.zero_le _⟩ ?_
    refine rn_iload_n hX dX11_words_82 4 rfl 83 rfl ?_
    refine rn_bind (fun u4 hu4 => ?_)
    refine rn_callS0 hX (gS mcC wd_1354 wd_1355 wd_81 wd_1356) rfl hdS_X11_bitsOf rfl rfl ⟨Nat.le_of_ble_eq_true rfl, Nat.le_of_ble_eq_true rfl⟩ (c_X11_bitsOf (zl Z) (zG Z) x3 hu4) rfl [] rfl rfl rfl (Nat.le_of_ble_eq_true rfl) dX11_words_83 86 rfl (S' := [.int u4, .int u3]) rfl ⟨Nat.zero_le _, Nat.zero_le _⟩ ?_
    refine rn_icmp_ge hX dX11_words_86 94 (by decide) 89 rfl ?_ ?_
    · refine rn_sub [1, 2, 3, 4, 5] rfl ?_
      exact (hJ94 _ _ hagain hk102) x1 x2 x3 x4 g_isAwake g_state
    refine rn_sub [1, 2, 3, 5] rfl ?_
    exact (hJ89 _ _ hagain hk102) x1 x2 x4 g_isAwake g_state
  have hJ63 : ∀ (again : Int32 → Int32 → Int32 → Int32 → Int32 → (Nat → Int32) → Option (Int32 × Int32 × (Nat → Int32))) (k102 : Int32 → Int32 → Int32 → (Nat → Int32) → Option (Int32 × Int32 × (Nat → Int32))) (hagain : ∀ (x1 : Int32) (x2 : Int32) (x3 : Int32) (x4 : Int32) (g_isAwake : Int32) (g_state : (Nat → Int32)), Rn Z 6 (Option.map enc) 0 0 26 [(0, .ref a_this), (1, .int x1), (2, .int x2), (3, .int x3), (4, .int x4)] [] [(a_this, .inr (11, [.ref a_state, .ref a_readPage, .int g_isAwake, .ref a_tape, .int g_taped, .int g_fault, .int g_broken, .int g_brokenAt, .int g_spot, .int g_here, .int g_token, .int g_value, .ref a_letters, .int g_hasPlaces, .int g_highest, .ref a_sums, .ref a_aside, .ref a_groups, .ref a_sides, .int g_laid, .int g_groupMany, .int g_isDrawn, .ref a_names, .ref a_firstNames, .ref a_isKept, .ref a_lanes, .ref a_lengths, .ref a_cells, .int g_torn, .ref a_had])), (a_state, .inl ((zG Z).2.1 1, 96, .inl g_state))] (again x1 x2 x3 x4 g_isAwake g_state)) (hk102 : ∀ (x2 : Int32) (x3 : Int32) (g_isAwake : Int32) (g_state : (Nat → Int32)), Rn Z 6 (Option.map enc) 0 0 102 [(2, .int x2), (3, .int x3)] [] [(a_this, .inr (11, [.ref a_state, .ref a_readPage, .int g_isAwake, .ref a_tape, .int g_taped, .int g_fault, .int g_broken, .int g_brokenAt, .int g_spot, .int g_here, .int g_token, .int g_value, .ref a_letters, .int g_hasPlaces, .int g_highest, .ref a_sums, .ref a_aside, .ref a_groups, .ref a_sides, .int g_laid, .int g_groupMany, .int g_isDrawn, .ref a_names, .ref a_firstNames, .ref a_isKept, .ref a_lanes, .ref a_lengths, .ref a_cells, .int g_torn, .ref a_had])), (a_state, .inl ((zG Z).2.1 1, 96, .inl g_state))] (k102 x2 x3 g_isAwake g_state)) (x1 : Int32) (x2 : Int32) (x3 : Int32) (x4 : Int32) (g_isAwake : Int32) (g_state : (Nat → Int32)), Rn Z 6 (Option.map enc) 0 0 63 [(0, .ref a_this), (1, .int x1), (2, .int x2), (3, .int x3), (4, .int x4)] [] [(a_this, .inr (11, [.ref a_state, .ref a_readPage, .int g_isAwake, .ref a_tape, .int g_taped, .int g_fault, .int g_broken, .int g_brokenAt, .int g_spot, .int g_here, .int g_token, .int g_value, .ref a_letters, .int g_hasPlaces, .int g_highest, .ref a_sums, .ref a_aside, .ref a_groups, .ref a_sides, .int g_laid, .int g_groupMany, .int g_isDrawn, .ref a_names, .ref a_firstNames, .ref a_isKept, .ref a_lanes, .ref a_lengths, .ref a_cells, .int g_torn, .ref a_had])), (a_state, .inl ((zG Z).2.1 1, 96, .inl g_state))] (X11_words_J63 again k102 x1 x2 x3 x4 g_isAwake g_state) := by
    intro again k102 hagain hk102 x1 x2 x3 x4 g_isAwake g_state
    unfold X11_words_J63
    refine rn_iconst hX dX11_words_63 64 rfl ic_0 ?_
    exact (hJ64 _ _ hagain hk102) x1 x2 x3 x4 (0 : Int32) g_isAwake g_state
  have hB26 : ∀ (again : Int32 → Int32 → Int32 → Int32 → Int32 → (Nat → Int32) → Option (Int32 × Int32 × (Nat → Int32))) (k102 : Int32 → Int32 → Int32 → (Nat → Int32) → Option (Int32 × Int32 × (Nat → Int32))) (hagain : ∀ (x1 : Int32) (x2 : Int32) (x3 : Int32) (x4 : Int32) (g_isAwake : Int32) (g_state : (Nat → Int32)), Rn Z 6 (Option.map enc) 0 0 26 [(0, .ref a_this), (1, .int x1), (2, .int x2), (3, .int x3), (4, .int x4)] [] [(a_this, .inr (11, [.ref a_state, .ref a_readPage, .int g_isAwake, .ref a_tape, .int g_taped, .int g_fault, .int g_broken, .int g_brokenAt, .int g_spot, .int g_here, .int g_token, .int g_value, .ref a_letters, .int g_hasPlaces, .int g_highest, .ref a_sums, .ref a_aside, .ref a_groups, .ref a_sides, .int g_laid, .int g_groupMany, .int g_isDrawn, .ref a_names, .ref a_firstNames, .ref a_isKept, .ref a_lanes, .ref a_lengths, .ref a_cells, .int g_torn, .ref a_had])), (a_state, .inl ((zG Z).2.1 1, 96, .inl g_state))] (again x1 x2 x3 x4 g_isAwake g_state)) (hk102 : ∀ (x2 : Int32) (x3 : Int32) (g_isAwake : Int32) (g_state : (Nat → Int32)), Rn Z 6 (Option.map enc) 0 0 102 [(2, .int x2), (3, .int x3)] [] [(a_this, .inr (11, [.ref a_state, .ref a_readPage, .int g_isAwake, .ref a_tape, .int g_taped, .int g_fault, .int g_broken, .int g_brokenAt, .int g_spot, .int g_here, .int g_token, .int g_value, .ref a_letters, .int g_hasPlaces, .int g_highest, .ref a_sums, .ref a_aside, .ref a_groups, .ref a_sides, .int g_laid, .int g_groupMany, .int g_isDrawn, .ref a_names, .ref a_firstNames, .ref a_isKept, .ref a_lanes, .ref a_lengths, .ref a_cells, .int g_torn, .ref a_had])), (a_state, .inl ((zG Z).2.1 1, 96, .inl g_state))] (k102 x2 x3 g_isAwake g_state)) (x1 : Int32) (x2 : Int32) (x3 : Int32) (x4 : Int32) (g_isAwake : Int32) (g_state : (Nat → Int32)), Rn Z 6 (Option.map enc) 0 0 26 [(0, .ref a_this), (1, .int x1), (2, .int x2), (3, .int x3), (4, .int x4)] [] [(a_this, .inr (11, [.ref a_state, .ref a_readPage, .int g_isAwake, .ref a_tape, .int g_taped, .int g_fault, .int g_broken, .int g_brokenAt, .int g_spot, .int g_here, .int g_token, .int g_value, .ref a_letters, .int g_hasPlaces, .int g_highest, .ref a_sums, .ref a_aside, .ref a_groups, .ref a_sides, .int g_laid, .int g_groupMany, .int g_isDrawn, .ref a_names, .ref a_firstNames, .ref a_isKept, .ref a_lanes, .ref a_lengths, .ref a_cells, .int g_torn, .ref a_had])), (a_state, .inl ((zG Z).2.1 1, 96, .inl g_state))] (X11_words_B26 again k102 x1 x2 x3 x4 g_isAwake g_state) := by
    intro again k102 hagain hk102 x1 x2 x3 x4 g_isAwake g_state
    unfold X11_words_B26
    refine rn_iload hX dX11_words_26 4 rfl 28 rfl ?_
    refine rn_iconst hX dX11_words_28 29 rfl ic_1 ?_
    refine rn_aload_n hX dX11_words_29 0 rfl 30 rfl ?_
    refine rn_get hX inX11 0 rfl rfl 0 (by decide) fl7 rfl rfl dX11_words_30 33 rfl ?_
    refine rn_bipush hX dX11_words_33 35 rfl bp_21 ?_
    refine rn_ialdk hX 1 rfl cl_21 (vpk (by decide)) dX11_words_35 36 rfl ?_
    refine rn_ishl hX dX11_words_36 37 rfl ?_
    refine rn_icmp_ge hX dX11_words_37 102 (by decide) 40 rfl ?_ ?_
    · refine rn_sub [2, 3] rfl ?_
      exact hk102 x2 x3 g_isAwake g_state
    refine rn_iload hX dX11_words_40 4 rfl 42 rfl ?_
    refine rn_iload_n hX dX11_words_42 1 rfl 43 rfl ?_
    refine rn_ishr hX dX11_words_43 44 rfl ?_
    refine rn_iconst hX dX11_words_44 45 rfl ic_1 ?_
    refine rn_iand hX dX11_words_45 46 rfl ?_
    refine rn_if_ne hX dX11_words_46 63 (by decide) 49 rfl ?_ ?_
    · exact (hJ63 _ _ hagain hk102) x1 x2 x3 x4 g_isAwake g_state
    refine rn_aload_n hX dX11_words_49 0 rfl 50 rfl ?_
    refine rn_iload_n hX dX11_words_50 1 rfl 51 rfl ?_
    refine rn_iload hX dX11_words_51 4 rfl 53 rfl ?_
    refine rn_bind (fun u5 hu5 => ?_)
    refine rn_callV0 hX (gV mcC wd_1365 wd_1367 wd_62 wd_81 wd_1368) rfl hdV_X11_isTold rfl rfl ⟨Nat.le_of_ble_eq_true rfl, Nat.le_of_ble_eq_true rfl⟩ (c_X11_isTold (zl Z) (zG Z) a_this a_state a_readPage a_tape a_letters a_sums a_aside a_groups a_sides a_names a_firstNames a_isKept a_lanes a_lengths a_cells a_had g_isAwake g_taped g_fault g_broken g_brokenAt g_spot g_here g_token g_value g_hasPlaces g_highest g_laid g_groupMany g_isDrawn g_torn g_state x1 x4 hu5) rfl [0, 1] rfl rfl (ci := 11) rfl rfl rfl (Nat.le_of_ble_eq_true rfl) dX11_words_53 56 rfl (S' := [.int u5]) rfl ⟨Nat.zero_le _, Nat.zero_le _⟩ ?_
    refine rn_if_eq hX dX11_words_56 63 (by decide) 59 rfl ?_ ?_
    · exact (hJ63 _ _ hagain hk102) x1 x2 x3 x4 g_isAwake g_state
    refine rn_iconst hX dX11_words_59 60 rfl ic_1 ?_
    refine rn_goto hX dX11_words_60 64 (by decide) ?_
    exact (hJ64 _ _ hagain hk102) x1 x2 x3 x4 (1 : Int32) g_isAwake g_state
  have hL26 : ∀ (k102 : Int32 → Int32 → Int32 → (Nat → Int32) → Option (Int32 × Int32 × (Nat → Int32))) (hk102 : ∀ (x2 : Int32) (x3 : Int32) (g_isAwake : Int32) (g_state : (Nat → Int32)), Rn Z 6 (Option.map enc) 0 0 102 [(2, .int x2), (3, .int x3)] [] [(a_this, .inr (11, [.ref a_state, .ref a_readPage, .int g_isAwake, .ref a_tape, .int g_taped, .int g_fault, .int g_broken, .int g_brokenAt, .int g_spot, .int g_here, .int g_token, .int g_value, .ref a_letters, .int g_hasPlaces, .int g_highest, .ref a_sums, .ref a_aside, .ref a_groups, .ref a_sides, .int g_laid, .int g_groupMany, .int g_isDrawn, .ref a_names, .ref a_firstNames, .ref a_isKept, .ref a_lanes, .ref a_lengths, .ref a_cells, .int g_torn, .ref a_had])), (a_state, .inl ((zG Z).2.1 1, 96, .inl g_state))] (k102 x2 x3 g_isAwake g_state)) (n : Nat) (x1 : Int32) (x2 : Int32) (x3 : Int32) (x4 : Int32) (g_isAwake : Int32) (g_state : (Nat → Int32)), Rn Z 6 (Option.map enc) 0 0 26 [(0, .ref a_this), (1, .int x1), (2, .int x2), (3, .int x3), (4, .int x4)] [] [(a_this, .inr (11, [.ref a_state, .ref a_readPage, .int g_isAwake, .ref a_tape, .int g_taped, .int g_fault, .int g_broken, .int g_brokenAt, .int g_spot, .int g_here, .int g_token, .int g_value, .ref a_letters, .int g_hasPlaces, .int g_highest, .ref a_sums, .ref a_aside, .ref a_groups, .ref a_sides, .int g_laid, .int g_groupMany, .int g_isDrawn, .ref a_names, .ref a_firstNames, .ref a_isKept, .ref a_lanes, .ref a_lengths, .ref a_cells, .int g_torn, .ref a_had])), (a_state, .inl ((zG Z).2.1 1, 96, .inl g_state))] (X11_words_L26 k102 n x1 x2 x3 x4 g_isAwake g_state) := by
    intro k102 hk102 n
    induction n with
    | zero => intros; exact rn_none
    | succ n ih => exact hB26 _ _ ih hk102
  unfold X11_words
  refine rn_aload_n hX dX11_words_0 0 rfl 1 rfl ?_
  refine rn_iload_n hX dX11_words_1 1 rfl 2 rfl ?_
  refine rn_bind (fun u6 hu6 => ?_)
  refine rn_callV hX (gV mcC wd_1148 wd_1150 wd_34 wd_81 wd_1151) rfl hdV_X11_isPlace rfl rfl ⟨Nat.le_of_ble_eq_true rfl, Nat.le_of_ble_eq_true rfl⟩ (c_X11_isPlace (zl Z) (zG Z) a_this a_state a_readPage a_tape a_letters a_sums a_aside a_groups a_sides a_names a_firstNames a_isKept a_lanes a_lengths a_cells a_had g_isAwake g_taped g_fault g_broken g_brokenAt g_spot g_here g_token g_value g_hasPlaces g_highest g_laid g_groupMany g_isDrawn g_torn g_state x1 hu6) rfl [0, 1] rfl rfl rfl (ci := 11) rfl rfl rfl (Nat.le_of_ble_eq_true rfl) dX11_words_2 5 rfl (wn := [(a_this, .inr (11, [.ref a_state, .ref a_readPage, .int u6.2.1, .ref a_tape, .int g_taped, .int g_fault, .int g_broken, .int g_brokenAt, .int g_spot, .int g_here, .int g_token, .int g_value, .ref a_letters, .int g_hasPlaces, .int g_highest, .ref a_sums, .ref a_aside, .ref a_groups, .ref a_sides, .int g_laid, .int g_groupMany, .int g_isDrawn, .ref a_names, .ref a_firstNames, .ref a_isKept, .ref a_lanes, .ref a_lengths, .ref a_cells, .int g_torn, .ref a_had])), (a_state, .inl ((zG Z).2.1 1, 96, .inl u6.2.2))]) rfl (S' := [.int u6.1]) rfl ⟨Nat.zero_le _, Nat.zero_le _⟩ ?_
  refine rn_if_eq hX dX11_words_5 18 (by decide) 8 rfl ?_ ?_
  · refine rn_iconst hX dX11_words_18 19 rfl ic_m1 ?_
    exact rn_iret hX hr (by rw [henc]; rfl) dX11_words_19
  refine rn_iload_n hX dX11_words_8 2 rfl 9 rfl ?_
  refine rn_i2l hX dX11_words_9 10 rfl ?_
  refine rn_lconst hX dX11_words_10 11 rfl lc_0 ?_
  refine rn_lconst hX dX11_words_11 12 rfl lc_1 ?_
  refine rn_callS0 hX (gS mcC wd_1090 wd_1091 wd_81 wd_1092) rfl hdS_X11_in rfl rfl ⟨Nat.le_of_ble_eq_true rfl, Nat.le_of_ble_eq_true rfl⟩ (c_X11_in (zl Z) (zG Z) x2.toInt64 (0 : Int64) (1 : Int64) rfl) rfl [] rfl rfl rfl (Nat.le_of_ble_eq_true rfl) dX11_words_12 15 rfl (S' := [.int (X11_in x2.toInt64 (0 : Int64) (1 : Int64))]) rfl ⟨Nat.zero_le _, Nat.zero_le _⟩ ?_
  refine rn_if_ne hX dX11_words_15 20 (by decide) 18 rfl ?_ ?_
  · refine rn_bipush hX dX11_words_20 22 rfl bp_m4 ?_
    refine rn_istore_n hX dX11_words_22 3 rfl (by decide) (L' := [(3, .int (-4 : Int32)), (0, .ref a_this), (1, .int x1), (2, .int x2)]) rfl 23 rfl ?_
    refine rn_iconst hX dX11_words_23 24 rfl ic_1 ?_
    refine rn_istore hX dX11_words_24 (by decide) (L' := [(4, .int (1 : Int32)), (3, .int (-4 : Int32)), (0, .ref a_this), (1, .int x1), (2, .int x2)]) rfl 26 rfl ?_
    refine rn_sub [2, 3, 4, 1, 0] rfl ?_
    exact (hL26 _ hJ102 1000) x1 x2 (-4 : Int32) (1 : Int32) u6.2.1 u6.2.2
  refine rn_iconst hX dX11_words_18 19 rfl ic_m1 ?_
  exact rn_iret hX hr (by rw [henc]; rfl) dX11_words_19
abbrev rmX11_isAt : Room := { frames := 3, cells := 0, slots := 0, locals := 68 }
theorem hdV_X11_isAt : yX11_isAt.cls = RX11 ∧ yX11_isAt.cls ≠ "java/lang/invoke/MethodHandle" ∧ yX11_isAt.cls ≠ "java/lang/invoke/VarHandle" ∧ (parseMethodDescriptor yX11_isAt.desc).map (fun d => d.parameters.length) = some 4 := by decide +kernel
set_option maxHeartbeats 4000000 in
set_option maxRecDepth 100000 in
theorem c_X11_isAt (l : Launch) (G : GT) (a_this a_state a_readPage a_tape a_letters a_sums a_aside a_groups a_sides a_names a_firstNames a_isKept a_lanes a_lengths a_cells a_had : Nat) (g_isAwake : Int32) (g_taped : Int32) (g_fault : Int32) (g_broken : Int32) (g_brokenAt : Int32) (g_spot : Int32) (g_here : Int32) (g_token : Int32) (g_value : Int32) (g_hasPlaces : Int32) (g_highest : Int32) (g_laid : Int32) (g_groupMany : Int32) (g_isDrawn : Int32) (g_torn : Int32) (g_state : (Nat → Int32)) (x1 : Int32) (x2 : Int32) (x3 : Int32) (x4 : Int32) {u : Int32 × Int32 × (Nat → Int32)} (hu : X11_isAt x1 x2 x3 x4 g_isAwake g_state = some u) : Ctr l G yX11_isAt wsX11_isAt rmX11_isAt [.ref a_this, .int x1, .int x2, .int x3, .int x4] [(a_this, .inr (11, [.ref a_state, .ref a_readPage, .int g_isAwake, .ref a_tape, .int g_taped, .int g_fault, .int g_broken, .int g_brokenAt, .int g_spot, .int g_here, .int g_token, .int g_value, .ref a_letters, .int g_hasPlaces, .int g_highest, .ref a_sums, .ref a_aside, .ref a_groups, .ref a_sides, .int g_laid, .int g_groupMany, .int g_isDrawn, .ref a_names, .ref a_firstNames, .ref a_isKept, .ref a_lanes, .ref a_lengths, .ref a_cells, .int g_torn, .ref a_had])), (a_state, .inl (G.2.1 1, 96, .inl g_state))] (some (.int u.1)) [(a_this, .inr (11, [.ref a_state, .ref a_readPage, .int u.2.1, .ref a_tape, .int g_taped, .int g_fault, .int g_broken, .int g_brokenAt, .int g_spot, .int g_here, .int g_token, .int g_value, .ref a_letters, .int g_hasPlaces, .int g_highest, .ref a_sums, .ref a_aside, .ref a_groups, .ref a_sides, .int g_laid, .int g_groupMany, .int g_isDrawn, .ref a_names, .ref a_firstNames, .ref a_isKept, .ref a_lanes, .ref a_lengths, .ref a_cells, .int g_torn, .ref a_had])), (a_state, .inl (G.2.1 1, 96, .inl u.2.2))] := by
  obtain ⟨enc, henc⟩ : ∃ enc : (Int32 × Int32 × (Nat → Int32)) → Option Value × va_W, enc = fun u => (((some (.int u.1)) : Option Value), ([(a_this, .inr (11, [.ref a_state, .ref a_readPage, .int u.2.1, .ref a_tape, .int g_taped, .int g_fault, .int g_broken, .int g_brokenAt, .int g_spot, .int g_here, .int g_token, .int g_value, .ref a_letters, .int g_hasPlaces, .int g_highest, .ref a_sums, .ref a_aside, .ref a_groups, .ref a_sides, .int g_laid, .int g_groupMany, .int g_isDrawn, .ref a_names, .ref a_firstNames, .ref a_isKept, .ref a_lanes, .ref a_lengths, .ref a_cells, .int g_torn, .ref a_had])), (a_state, .inl (G.2.1 1, 96, .inl u.2.2))] : va_W)) := ⟨_, rfl⟩
  refine ctr_of (cc := cX11_isAt) (own := RX11) (E := Option.map enc) (o := X11_isAt x1 x2 x3 x4 g_isAwake g_state) (by decide) rfl rfl (L := [(0, .ref a_this), (1, .int x1), (2, .int x2), (3, .int x3), (4, .int x4)]) rfl (Nat.le_of_ble_eq_true rfl) (by rw [hu, henc]; rfl) ?_
  intro Z hX hl hG hr
  subst hl; subst hG
  have kl156 : (Cond.constantLong RX11 156 (9999)).before (za Z) (zs Z) = true := hX.wd (mcC _ wd_1168)
  unfold X11_isAt
  refine rn_aload_n hX dX11_isAt_0 0 rfl 1 rfl ?_
  refine rn_iload_n hX dX11_isAt_1 1 rfl 2 rfl ?_
  refine rn_iload_n hX dX11_isAt_2 3 rfl 3 rfl ?_
  refine rn_bind (fun u1 hu1 => ?_)
  refine rn_callV hX (gV mcC wd_1144 wd_1146 wd_33 wd_81 wd_1147) rfl hdV_X11_areTwo rfl rfl ⟨Nat.le_of_ble_eq_true rfl, Nat.le_of_ble_eq_true rfl⟩ (c_X11_areTwo (zl Z) (zG Z) a_this a_state a_readPage a_tape a_letters a_sums a_aside a_groups a_sides a_names a_firstNames a_isKept a_lanes a_lengths a_cells a_had g_isAwake g_taped g_fault g_broken g_brokenAt g_spot g_here g_token g_value g_hasPlaces g_highest g_laid g_groupMany g_isDrawn g_torn g_state x1 x3 hu1) rfl [0, 1] rfl rfl rfl (ci := 11) rfl rfl rfl (Nat.le_of_ble_eq_true rfl) dX11_isAt_3 6 rfl (wn := [(a_this, .inr (11, [.ref a_state, .ref a_readPage, .int u1.2.1, .ref a_tape, .int g_taped, .int g_fault, .int g_broken, .int g_brokenAt, .int g_spot, .int g_here, .int g_token, .int g_value, .ref a_letters, .int g_hasPlaces, .int g_highest, .ref a_sums, .ref a_aside, .ref a_groups, .ref a_sides, .int g_laid, .int g_groupMany, .int g_isDrawn, .ref a_names, .ref a_firstNames, .ref a_isKept, .ref a_lanes, .ref a_lengths, .ref a_cells, .int g_torn, .ref a_had])), (a_state, .inl ((zG Z).2.1 1, 96, .inl u1.2.2))]) rfl (S' := [.int u1.1]) rfl ⟨Nat.zero_le _, Nat.zero_le _⟩ ?_
  refine rn_if_eq hX dX11_isAt_6 38 (by decide) 9 rfl ?_ ?_
  · refine rn_iconst hX dX11_isAt_38 39 rfl ic_0 ?_
    exact rn_zret hX rfl hr (by rw [henc]; rfl) dX11_isAt_39
  refine rn_iload_n hX dX11_isAt_9 2 rfl 10 rfl ?_
  refine rn_i2l hX dX11_isAt_10 11 rfl ?_
  refine rn_lconst hX dX11_isAt_11 12 rfl lc_1 ?_
  refine rn_ldc2 hX kl156 dX11_isAt_12 15 rfl ?_
  refine rn_callS0 hX (gS mcC wd_1090 wd_1091 wd_81 wd_1092) rfl hdS_X11_in rfl rfl ⟨Nat.le_of_ble_eq_true rfl, Nat.le_of_ble_eq_true rfl⟩ (c_X11_in (zl Z) (zG Z) x2.toInt64 (1 : Int64) (9999 : Int64) rfl) rfl [] rfl rfl rfl (Nat.le_of_ble_eq_true rfl) dX11_isAt_15 18 rfl (S' := [.int (X11_in x2.toInt64 (1 : Int64) (9999 : Int64))]) rfl ⟨Nat.zero_le _, Nat.zero_le _⟩ ?_
  refine rn_if_eq hX dX11_isAt_18 38 (by decide) 21 rfl ?_ ?_
  · refine rn_iconst hX dX11_isAt_38 39 rfl ic_0 ?_
    exact rn_zret hX rfl hr (by rw [henc]; rfl) dX11_isAt_39
  refine rn_iload hX dX11_isAt_21 4 rfl 23 rfl ?_
  refine rn_i2l hX dX11_isAt_23 24 rfl ?_
  refine rn_lconst hX dX11_isAt_24 25 rfl lc_1 ?_
  refine rn_ldc2 hX kl156 dX11_isAt_25 28 rfl ?_
  refine rn_callS0 hX (gS mcC wd_1090 wd_1091 wd_81 wd_1092) rfl hdS_X11_in rfl rfl ⟨Nat.le_of_ble_eq_true rfl, Nat.le_of_ble_eq_true rfl⟩ (c_X11_in (zl Z) (zG Z) x4.toInt64 (1 : Int64) (9999 : Int64) rfl) rfl [] rfl rfl rfl (Nat.le_of_ble_eq_true rfl) dX11_isAt_28 31 rfl (S' := [.int (X11_in x4.toInt64 (1 : Int64) (9999 : Int64))]) rfl ⟨Nat.zero_le _, Nat.zero_le _⟩ ?_
  refine rn_if_eq hX dX11_isAt_31 38 (by decide) 34 rfl ?_ ?_
  · refine rn_iconst hX dX11_isAt_38 39 rfl ic_0 ?_
    exact rn_zret hX rfl hr (by rw [henc]; rfl) dX11_isAt_39
  refine rn_iconst hX dX11_isAt_34 35 rfl ic_1 ?_
  refine rn_goto hX dX11_isAt_35 39 (by decide) ?_
  exact rn_zret hX rfl hr (by rw [henc]; rfl) dX11_isAt_39
abbrev rmX11_at : Room := { frames := 4, cells := 0, slots := 0, locals := 92 }
theorem hdV_X11_at : yX11_at.cls = RX11 ∧ yX11_at.cls ≠ "java/lang/invoke/MethodHandle" ∧ yX11_at.cls ≠ "java/lang/invoke/VarHandle" ∧ (parseMethodDescriptor yX11_at.desc).map (fun d => d.parameters.length) = some 4 := by decide +kernel
set_option maxHeartbeats 4000000 in
set_option maxRecDepth 100000 in
theorem c_X11_at (l : Launch) (G : GT) (a_this a_state a_readPage a_tape a_letters a_sums a_aside a_groups a_sides a_names a_firstNames a_isKept a_lanes a_lengths a_cells a_had : Nat) (g_isAwake : Int32) (g_taped : Int32) (g_fault : Int32) (g_broken : Int32) (g_brokenAt : Int32) (g_spot : Int32) (g_here : Int32) (g_token : Int32) (g_value : Int32) (g_hasPlaces : Int32) (g_highest : Int32) (g_laid : Int32) (g_groupMany : Int32) (g_isDrawn : Int32) (g_torn : Int32) (g_state : (Nat → Int32)) (x1 : Int32) (x2 : Int32) (x3 : Int32) (x4 : Int32) {u : Int32 × Int32 × (Nat → Int32)} (hu : X11_at x1 x2 x3 x4 g_isAwake g_state = some u) : Ctr l G yX11_at wsX11_at rmX11_at [.ref a_this, .int x1, .int x2, .int x3, .int x4] [(a_this, .inr (11, [.ref a_state, .ref a_readPage, .int g_isAwake, .ref a_tape, .int g_taped, .int g_fault, .int g_broken, .int g_brokenAt, .int g_spot, .int g_here, .int g_token, .int g_value, .ref a_letters, .int g_hasPlaces, .int g_highest, .ref a_sums, .ref a_aside, .ref a_groups, .ref a_sides, .int g_laid, .int g_groupMany, .int g_isDrawn, .ref a_names, .ref a_firstNames, .ref a_isKept, .ref a_lanes, .ref a_lengths, .ref a_cells, .int g_torn, .ref a_had])), (a_state, .inl (G.2.1 1, 96, .inl g_state))] (some (.int u.1)) [(a_this, .inr (11, [.ref a_state, .ref a_readPage, .int u.2.1, .ref a_tape, .int g_taped, .int g_fault, .int g_broken, .int g_brokenAt, .int g_spot, .int g_here, .int g_token, .int g_value, .ref a_letters, .int g_hasPlaces, .int g_highest, .ref a_sums, .ref a_aside, .ref a_groups, .ref a_sides, .int g_laid, .int g_groupMany, .int g_isDrawn, .ref a_names, .ref a_firstNames, .ref a_isKept, .ref a_lanes, .ref a_lengths, .ref a_cells, .int g_torn, .ref a_had])), (a_state, .inl (G.2.1 1, 96, .inl u.2.2))] := by
  obtain ⟨enc, henc⟩ : ∃ enc : (Int32 × Int32 × (Nat → Int32)) → Option Value × va_W, enc = fun u => (((some (.int u.1)) : Option Value), ([(a_this, .inr (11, [.ref a_state, .ref a_readPage, .int u.2.1, .ref a_tape, .int g_taped, .int g_fault, .int g_broken, .int g_brokenAt, .int g_spot, .int g_here, .int g_token, .int g_value, .ref a_letters, .int g_hasPlaces, .int g_highest, .ref a_sums, .ref a_aside, .ref a_groups, .ref a_sides, .int g_laid, .int g_groupMany, .int g_isDrawn, .ref a_names, .ref a_firstNames, .ref a_isKept, .ref a_lanes, .ref a_lengths, .ref a_cells, .int g_torn, .ref a_had])), (a_state, .inl (G.2.1 1, 96, .inl u.2.2))] : va_W)) := ⟨_, rfl⟩
  refine ctr_of (cc := cX11_at) (own := RX11) (E := Option.map enc) (o := X11_at x1 x2 x3 x4 g_isAwake g_state) (by decide) rfl rfl (L := [(0, .ref a_this), (1, .int x1), (2, .int x2), (3, .int x3), (4, .int x4)]) rfl (Nat.le_of_ble_eq_true rfl) (by rw [hu, henc]; rfl) ?_
  intro Z hX hl hG hr
  subst hl; subst hG
  have fl7 : (Cond.fieldLink RX11 7 "OnlyFarModel" "state" "[I").before (za Z) (zs Z) = true := hX.wd (mcC _ wd_990)
  have inX11 : ∀ w ∈ u_ws RX11 TX11 30, w ∈ wsX11_at := fun w h => mcC w (inC_X11 w h)
  have hJ69 : ∀ (again : Int32 → Int32 → Int32 → Int32 → Int32 → Int32 → Int32 → (Nat → Int32) → Option (Int32 × Int32 × (Nat → Int32))) (hagain : ∀ (x1 : Int32) (x2 : Int32) (x3 : Int32) (x4 : Int32) (x5 : Int32) (x6 : Int32) (g_isAwake : Int32) (g_state : (Nat → Int32)), Rn Z 7 (Option.map enc) 0 0 20 [(0, .ref a_this), (1, .int x1), (2, .int x2), (3, .int x3), (4, .int x4), (5, .int x5), (6, .int x6)] [] [(a_this, .inr (11, [.ref a_state, .ref a_readPage, .int g_isAwake, .ref a_tape, .int g_taped, .int g_fault, .int g_broken, .int g_brokenAt, .int g_spot, .int g_here, .int g_token, .int g_value, .ref a_letters, .int g_hasPlaces, .int g_highest, .ref a_sums, .ref a_aside, .ref a_groups, .ref a_sides, .int g_laid, .int g_groupMany, .int g_isDrawn, .ref a_names, .ref a_firstNames, .ref a_isKept, .ref a_lanes, .ref a_lengths, .ref a_cells, .int g_torn, .ref a_had])), (a_state, .inl ((zG Z).2.1 1, 96, .inl g_state))] (again x1 x2 x3 x4 x5 x6 g_isAwake g_state)) (x1 : Int32) (x2 : Int32) (x3 : Int32) (x4 : Int32) (x6 : Int32) (s0 : Int32) (s1 : Int32) (g_isAwake : Int32) (g_state : (Nat → Int32)), Rn Z 7 (Option.map enc) 0 0 69 [(0, .ref a_this), (1, .int x1), (2, .int x2), (3, .int x3), (4, .int x4), (6, .int x6)] [.int s1, .int s0] [(a_this, .inr (11, [.ref a_state, .ref a_readPage, .int g_isAwake, .ref a_tape, .int g_taped, .int g_fault, .int g_broken, .int g_brokenAt, .int g_spot, .int g_here, .int g_token, .int g_value, .ref a_letters, .int g_hasPlaces, .int g_highest, .ref a_sums, .ref a_aside, .ref a_groups, .ref a_sides, .int g_laid, .int g_groupMany, .int g_isDrawn, .ref a_names, .ref a_firstNames, .ref a_isKept, .ref a_lanes, .ref a_lengths, .ref a_cells, .int g_torn, .ref a_had])), (a_state, .inl ((zG Z).2.1 1, 96, .inl g_state))] (X11_at_J69 again x1 x2 x3 x4 x6 s0 s1 g_isAwake g_state) := by
    intro again hagain x1 x2 x3 x4 x6 s0 s1 g_isAwake g_state
    unfold X11_at_J69
    refine rn_ior hX dX11_at_69 70 rfl ?_
    refine rn_lati (fun v1 => ?_)
    refine rn_istore hX dX11_at_70 (by decide) (L' := [(5, .int v1), (0, .ref a_this), (1, .int x1), (2, .int x2), (3, .int x3), (4, .int x4), (6, .int x6)]) rfl 72 rfl ?_
    refine rn_iinc hX dX11_at_72 6 rfl ic_1 (by decide) (L' := fun v2 => [(6, .int v2), (5, .int v1), (0, .ref a_this), (1, .int x1), (2, .int x2), (3, .int x3), (4, .int x4)]) (fun _ => rfl) 75 rfl (fun v2 => ?_)
    refine rn_goto hX dX11_at_75 20 (by decide) ?_
    refine rn_sub [2, 3, 4, 5, 6, 1, 0] rfl ?_
    exact hagain x1 x2 x3 x4 v1 v2 g_isAwake g_state
  have hJ68 : ∀ (again : Int32 → Int32 → Int32 → Int32 → Int32 → Int32 → Int32 → (Nat → Int32) → Option (Int32 × Int32 × (Nat → Int32))) (hagain : ∀ (x1 : Int32) (x2 : Int32) (x3 : Int32) (x4 : Int32) (x5 : Int32) (x6 : Int32) (g_isAwake : Int32) (g_state : (Nat → Int32)), Rn Z 7 (Option.map enc) 0 0 20 [(0, .ref a_this), (1, .int x1), (2, .int x2), (3, .int x3), (4, .int x4), (5, .int x5), (6, .int x6)] [] [(a_this, .inr (11, [.ref a_state, .ref a_readPage, .int g_isAwake, .ref a_tape, .int g_taped, .int g_fault, .int g_broken, .int g_brokenAt, .int g_spot, .int g_here, .int g_token, .int g_value, .ref a_letters, .int g_hasPlaces, .int g_highest, .ref a_sums, .ref a_aside, .ref a_groups, .ref a_sides, .int g_laid, .int g_groupMany, .int g_isDrawn, .ref a_names, .ref a_firstNames, .ref a_isKept, .ref a_lanes, .ref a_lengths, .ref a_cells, .int g_torn, .ref a_had])), (a_state, .inl ((zG Z).2.1 1, 96, .inl g_state))] (again x1 x2 x3 x4 x5 x6 g_isAwake g_state)) (x1 : Int32) (x2 : Int32) (x3 : Int32) (x4 : Int32) (x6 : Int32) (s0 : Int32) (g_isAwake : Int32) (g_state : (Nat → Int32)), Rn Z 7 (Option.map enc) 0 0 68 [(0, .ref a_this), (1, .int x1), (2, .int x2), (3, .int x3), (4, .int x4), (6, .int x6)] [.int s0] [(a_this, .inr (11, [.ref a_state, .ref a_readPage, .int g_isAwake, .ref a_tape, .int g_taped, .int g_fault, .int g_broken, .int g_brokenAt, .int g_spot, .int g_here, .int g_token, .int g_value, .ref a_letters, .int g_hasPlaces, .int g_highest, .ref a_sums, .ref a_aside, .ref a_groups, .ref a_sides, .int g_laid, .int g_groupMany, .int g_isDrawn, .ref a_names, .ref a_firstNames, .ref a_isKept, .ref a_lanes, .ref a_lengths, .ref a_cells, .int g_torn, .ref a_had])), (a_state, .inl ((zG Z).2.1 1, 96, .inl g_state))] (X11_at_J68 again x1 x2 x3 x4 x6 s0 g_isAwake g_state) := by
    intro again hagain x1 x2 x3 x4 x6 s0 g_isAwake g_state
    unfold X11_at_J68
    refine rn_iconst hX dX11_at_68 69 rfl ic_0 ?_
    exact (hJ69 _ hagain) x1 x2 x3 x4 x6 s0 (0 : Int32) g_isAwake g_state
  have hB20 : ∀ (again : Int32 → Int32 → Int32 → Int32 → Int32 → Int32 → Int32 → (Nat → Int32) → Option (Int32 × Int32 × (Nat → Int32))) (hagain : ∀ (x1 : Int32) (x2 : Int32) (x3 : Int32) (x4 : Int32) (x5 : Int32) (x6 : Int32) (g_isAwake : Int32) (g_state : (Nat → Int32)), Rn Z 7 (Option.map enc) 0 0 20 [(0, .ref a_this), (1, .int x1), (2, .int x2), (3, .int x3), (4, .int x4), (5, .int x5), (6, .int x6)] [] [(a_this, .inr (11, [.ref a_state, .ref a_readPage, .int g_isAwake, .ref a_tape, .int g_taped, .int g_fault, .int g_broken, .int g_brokenAt, .int g_spot, .int g_here, .int g_token, .int g_value, .ref a_letters, .int g_hasPlaces, .int g_highest, .ref a_sums, .ref a_aside, .ref a_groups, .ref a_sides, .int g_laid, .int g_groupMany, .int g_isDrawn, .ref a_names, .ref a_firstNames, .ref a_isKept, .ref a_lanes, .ref a_lengths, .ref a_cells, .int g_torn, .ref a_had])), (a_state, .inl ((zG Z).2.1 1, 96, .inl g_state))] (again x1 x2 x3 x4 x5 x6 g_isAwake g_state)) (x1 : Int32) (x2 : Int32) (x3 : Int32) (x4 : Int32) (x5 : Int32) (x6 : Int32) (g_isAwake : Int32) (g_state : (Nat → Int32)), Rn Z 7 (Option.map enc) 0 0 20 [(0, .ref a_this), (1, .int x1), (2, .int x2), (3, .int x3), (4, .int x4), (5, .int x5), (6, .int x6)] [] [(a_this, .inr (11, [.ref a_state, .ref a_readPage, .int g_isAwake, .ref a_tape, .int g_taped, .int g_fault, .int g_broken, .int g_brokenAt, .int g_spot, .int g_here, .int g_token, .int g_value, .ref a_letters, .int g_hasPlaces, .int g_highest, .ref a_sums, .ref a_aside, .ref a_groups, .ref a_sides, .int g_laid, .int g_groupMany, .int g_isDrawn, .ref a_names, .ref a_firstNames, .ref a_isKept, .ref a_lanes, .ref a_lengths, .ref a_cells, .int g_torn, .ref a_had])), (a_state, .inl ((zG Z).2.1 1, 96, .inl g_state))] (X11_at_B20 again x1 x2 x3 x4 x5 x6 g_isAwake g_state) := by
    intro again hagain x1 x2 x3 x4 x5 x6 g_isAwake g_state
    unfold X11_at_B20
    refine rn_iload hX dX11_at_20 6 rfl 22 rfl ?_
    refine rn_aload_n hX dX11_at_22 0 rfl 23 rfl ?_
    refine rn_get hX inX11 0 rfl rfl 0 (by decide) fl7 rfl rfl dX11_at_23 26 rfl ?_
    refine rn_bipush hX dX11_at_26 28 rfl bp_21 ?_
    refine rn_ialdk hX 1 rfl cl_21 (vpk (by decide)) dX11_at_28 29 rfl ?_
    refine rn_icmp_ge hX dX11_at_29 78 (by decide) 32 rfl ?_ ?_
    · refine rn_iload hX dX11_at_78 5 rfl 80 rfl ?_
      exact rn_iret hX hr (by rw [henc]; rfl) dX11_at_80
    refine rn_iload hX dX11_at_32 5 rfl 34 rfl ?_
    refine rn_aload_n hX dX11_at_34 0 rfl 35 rfl ?_
    refine rn_iload hX dX11_at_35 6 rfl 37 rfl ?_
    refine rn_iload_n hX dX11_at_37 1 rfl 38 rfl ?_
    refine rn_bind (fun u3 hu3 => ?_)
    refine rn_callV0 hX (gV mcC wd_1156 wd_1158 wd_36 wd_81 wd_1159) rfl hdV_X11_sq rfl rfl ⟨Nat.le_of_ble_eq_true rfl, Nat.le_of_ble_eq_true rfl⟩ (c_X11_sq (zl Z) (zG Z) a_this a_state a_readPage a_tape a_letters a_sums a_aside a_groups a_sides a_names a_firstNames a_isKept a_lanes a_lengths a_cells a_had g_isAwake g_taped g_fault g_broken g_brokenAt g_spot g_here g_token g_value g_hasPlaces g_highest g_laid g_groupMany g_isDrawn g_torn g_state x6 x1 hu3) rfl [0, 1] rfl rfl (ci := 11) rfl rfl rfl (Nat.le_of_ble_eq_true rfl) dX11_at_38 41 rfl (S' := [.long u3, .int x5]) rfl ⟨Nat.zero_le _, Nat.zero_le _⟩ ?_
    refine rn_iload_n hX dX11_at_41 2 rfl 42 rfl ?_
    refine rn_i2l hX dX11_at_42 43 rfl ?_
    refine rn_lcmp_ne hX dX11_at_43 44 rfl dX11_at_44 68 (by decide) 47 rfl ?_ ?_
    · refine rn_sub [0, 1, 2, 3, 4, 6] rfl ?_
      exact (hJ68 _ hagain) x1 x2 x3 x4 x6 x5 g_isAwake g_state
    refine rn_aload_n hX dX11_at_47 0 rfl 48 rfl ?_
    refine rn_iload hX dX11_at_48 6 rfl 50 rfl ?_
    refine rn_iload_n hX dX11_at_50 3 rfl 51 rfl ?_
    refine rn_bind (fun u4 hu4 => ?_)
    refine rn_callV0 hX (gV mcC wd_1156 wd_1158 wd_36 wd_81 wd_1159) rfl hdV_X11_sq rfl rfl ⟨Nat.le_of_ble_eq_true rfl, Nat.le_of_ble_eq_true rfl⟩ (c_X11_sq (zl Z) (zG Z) a_this a_state a_readPage a_tape a_letters a_sums a_aside a_groups a_sides a_names a_firstNames a_isKept a_lanes a_lengths a_cells a_had g_isAwake g_taped g_fault g_broken g_brokenAt g_spot g_here g_token g_value g_hasPlaces g_highest g_laid g_groupMany g_isDrawn g_torn g_state x6 x3 hu4) rfl [0, 1] rfl rfl (ci := 11) rfl rfl rfl (Nat.le_of_ble_eq_true rfl) dX11_at_51 54 rfl (S' := [.long u4, .int x5]) rfl ⟨Nat.zero_le _, Nat.zero_le _⟩ ?_
    refine rn_iload hX dX11_at_54 4 rfl 56 rfl ?_
    refine rn_i2l hX dX11_at_56 57 rfl ?_
    refine rn_lcmp_ne hX dX11_at_57 58 rfl dX11_at_58 68 (by decide) 61 rfl ?_ ?_
    · refine rn_sub [0, 1, 2, 3, 4, 6] rfl ?_
      exact (hJ68 _ hagain) x1 x2 x3 x4 x6 x5 g_isAwake g_state
    refine rn_iconst hX dX11_at_61 62 rfl ic_1 ?_
    refine rn_iload hX dX11_at_62 6 rfl 64 rfl ?_
    refine rn_ishl hX dX11_at_64 65 rfl ?_
    refine rn_goto hX dX11_at_65 69 (by decide) ?_
    refine rn_sub [0, 1, 2, 3, 4, 6] rfl ?_
    exact (hJ69 _ hagain) x1 x2 x3 x4 x6 x5 ((1 : Int32) <<< (x6 &&& 31)) g_isAwake g_state
  have hL20 : ∀ (n : Nat) (x1 : Int32) (x2 : Int32) (x3 : Int32) (x4 : Int32) (x5 : Int32) (x6 : Int32) (g_isAwake : Int32) (g_state : (Nat → Int32)), Rn Z 7 (Option.map enc) 0 0 20 [(0, .ref a_this), (1, .int x1), (2, .int x2), (3, .int x3), (4, .int x4), (5, .int x5), (6, .int x6)] [] [(a_this, .inr (11, [.ref a_state, .ref a_readPage, .int g_isAwake, .ref a_tape, .int g_taped, .int g_fault, .int g_broken, .int g_brokenAt, .int g_spot, .int g_here, .int g_token, .int g_value, .ref a_letters, .int g_hasPlaces, .int g_highest, .ref a_sums, .ref a_aside, .ref a_groups, .ref a_sides, .int g_laid, .int g_groupMany, .int g_isDrawn, .ref a_names, .ref a_firstNames, .ref a_isKept, .ref a_lanes, .ref a_lengths, .ref a_cells, .int g_torn, .ref a_had])), (a_state, .inl ((zG Z).2.1 1, 96, .inl g_state))] (X11_at_L20 n x1 x2 x3 x4 x5 x6 g_isAwake g_state) := by
    intro n
    induction n with
    | zero => intros; exact rn_none
    | succ n ih => exact hB20 _ ih
  unfold X11_at
  refine rn_aload_n hX dX11_at_0 0 rfl 1 rfl ?_
  refine rn_iload_n hX dX11_at_1 1 rfl 2 rfl ?_
  refine rn_iload_n hX dX11_at_2 2 rfl 3 rfl ?_
  refine rn_iload_n hX dX11_at_3 3 rfl 4 rfl ?_
  refine rn_iload hX dX11_at_4 4 rfl 6 rfl ?_
  refine rn_bind (fun u5 hu5 => ?_)
  refine rn_callV hX (gV mcC wd_1377 wd_1379 wd_63 wd_81 wd_1380) rfl hdV_X11_isAt rfl rfl ⟨Nat.le_of_ble_eq_true rfl, Nat.le_of_ble_eq_true rfl⟩ (c_X11_isAt (zl Z) (zG Z) a_this a_state a_readPage a_tape a_letters a_sums a_aside a_groups a_sides a_names a_firstNames a_isKept a_lanes a_lengths a_cells a_had g_isAwake g_taped g_fault g_broken g_brokenAt g_spot g_here g_token g_value g_hasPlaces g_highest g_laid g_groupMany g_isDrawn g_torn g_state x1 x2 x3 x4 hu5) rfl [0, 1] rfl rfl rfl (ci := 11) rfl rfl rfl (Nat.le_of_ble_eq_true rfl) dX11_at_6 9 rfl (wn := [(a_this, .inr (11, [.ref a_state, .ref a_readPage, .int u5.2.1, .ref a_tape, .int g_taped, .int g_fault, .int g_broken, .int g_brokenAt, .int g_spot, .int g_here, .int g_token, .int g_value, .ref a_letters, .int g_hasPlaces, .int g_highest, .ref a_sums, .ref a_aside, .ref a_groups, .ref a_sides, .int g_laid, .int g_groupMany, .int g_isDrawn, .ref a_names, .ref a_firstNames, .ref a_isKept, .ref a_lanes, .ref a_lengths, .ref a_cells, .int g_torn, .ref a_had])), (a_state, .inl ((zG Z).2.1 1, 96, .inl u5.2.2))]) rfl (S' := [.int u5.1]) rfl ⟨Nat.zero_le _, Nat.zero_le _⟩ ?_
  refine rn_if_ne hX dX11_at_9 14 (by decide) 12 rfl ?_ ?_
  · refine rn_iconst hX dX11_at_14 15 rfl ic_0 ?_
    refine rn_istore hX dX11_at_15 (by decide) (L' := [(5, .int (0 : Int32)), (0, .ref a_this), (1, .int x1), (2, .int x2), (3, .int x3), (4, .int x4)]) rfl 17 rfl ?_
    refine rn_iconst hX dX11_at_17 18 rfl ic_0 ?_
    refine rn_istore hX dX11_at_18 (by decide) (L' := [(6, .int (0 : Int32)), (5, .int (0 : Int32)), (0, .ref a_this), (1, .int x1), (2, .int x2), (3, .int x3), (4, .int x4)]) rfl 20 rfl ?_
    refine rn_sub [2, 3, 4, 5, 6, 1, 0] rfl ?_
    exact (hL20  1000) x1 x2 x3 x4 (0 : Int32) (0 : Int32) u5.2.1 u5.2.2
  refine rn_iconst hX dX11_at_12 13 rfl ic_m1 ?_
  exact rn_iret hX hr (by rw [henc]; rfl) dX11_at_13
abbrev rmX11_spots : Room := { frames := 4, cells := 0, slots := 0, locals := 92 }
theorem hdV_X11_spots : yX11_spots.cls = RX11 ∧ yX11_spots.cls ≠ "java/lang/invoke/MethodHandle" ∧ yX11_spots.cls ≠ "java/lang/invoke/VarHandle" ∧ (parseMethodDescriptor yX11_spots.desc).map (fun d => d.parameters.length) = some 4 := by decide +kernel
set_option maxHeartbeats 4000000 in
set_option maxRecDepth 100000 in
theorem c_X11_spots (l : Launch) (G : GT) (a_this a_state a_readPage a_tape a_letters a_sums a_aside a_groups a_sides a_names a_firstNames a_isKept a_lanes a_lengths a_cells a_had : Nat) (g_isAwake : Int32) (g_taped : Int32) (g_fault : Int32) (g_broken : Int32) (g_brokenAt : Int32) (g_spot : Int32) (g_here : Int32) (g_token : Int32) (g_value : Int32) (g_hasPlaces : Int32) (g_highest : Int32) (g_laid : Int32) (g_groupMany : Int32) (g_isDrawn : Int32) (g_torn : Int32) (g_state : (Nat → Int32)) (x1 : Int32) (x2 : Int32) (x3 : Int32) (x4 : Int32) {u : Int32 × Int32 × (Nat → Int32)} (hu : X11_spots x1 x2 x3 x4 g_isAwake g_state = some u) : Ctr l G yX11_spots wsX11_spots rmX11_spots [.ref a_this, .int x1, .int x2, .int x3, .int x4] [(a_this, .inr (11, [.ref a_state, .ref a_readPage, .int g_isAwake, .ref a_tape, .int g_taped, .int g_fault, .int g_broken, .int g_brokenAt, .int g_spot, .int g_here, .int g_token, .int g_value, .ref a_letters, .int g_hasPlaces, .int g_highest, .ref a_sums, .ref a_aside, .ref a_groups, .ref a_sides, .int g_laid, .int g_groupMany, .int g_isDrawn, .ref a_names, .ref a_firstNames, .ref a_isKept, .ref a_lanes, .ref a_lengths, .ref a_cells, .int g_torn, .ref a_had])), (a_state, .inl (G.2.1 1, 96, .inl g_state))] (some (.int u.1)) [(a_this, .inr (11, [.ref a_state, .ref a_readPage, .int u.2.1, .ref a_tape, .int g_taped, .int g_fault, .int g_broken, .int g_brokenAt, .int g_spot, .int g_here, .int g_token, .int g_value, .ref a_letters, .int g_hasPlaces, .int g_highest, .ref a_sums, .ref a_aside, .ref a_groups, .ref a_sides, .int g_laid, .int g_groupMany, .int g_isDrawn, .ref a_names, .ref a_firstNames, .ref a_isKept, .ref a_lanes, .ref a_lengths, .ref a_cells, .int g_torn, .ref a_had])), (a_state, .inl (G.2.1 1, 96, .inl u.2.2))] := by
  obtain ⟨enc, henc⟩ : ∃ enc : (Int32 × Int32 × (Nat → Int32)) → Option Value × va_W, enc = fun u => (((some (.int u.1)) : Option Value), ([(a_this, .inr (11, [.ref a_state, .ref a_readPage, .int u.2.1, .ref a_tape, .int g_taped, .int g_fault, .int g_broken, .int g_brokenAt, .int g_spot, .int g_here, .int g_token, .int g_value, .ref a_letters, .int g_hasPlaces, .int g_highest, .ref a_sums, .ref a_aside, .ref a_groups, .ref a_sides, .int g_laid, .int g_groupMany, .int g_isDrawn, .ref a_names, .ref a_firstNames, .ref a_isKept, .ref a_lanes, .ref a_lengths, .ref a_cells, .int g_torn, .ref a_had])), (a_state, .inl (G.2.1 1, 96, .inl u.2.2))] : va_W)) := ⟨_, rfl⟩
  refine ctr_of (cc := cX11_spots) (own := RX11) (E := Option.map enc) (o := X11_spots x1 x2 x3 x4 g_isAwake g_state) (by decide) rfl rfl (L := [(0, .ref a_this), (1, .int x1), (2, .int x2), (3, .int x3), (4, .int x4)]) rfl (Nat.le_of_ble_eq_true rfl) (by rw [hu, henc]; rfl) ?_
  intro Z hX hl hG hr
  subst hl; subst hG
  unfold X11_spots
  refine rn_aload_n hX dX11_spots_0 0 rfl 1 rfl ?_
  refine rn_iload_n hX dX11_spots_1 1 rfl 2 rfl ?_
  refine rn_iload_n hX dX11_spots_2 2 rfl 3 rfl ?_
  refine rn_iload_n hX dX11_spots_3 3 rfl 4 rfl ?_
  refine rn_iload hX dX11_spots_4 4 rfl 6 rfl ?_
  refine rn_bind (fun u1 hu1 => ?_)
  refine rn_callV hX (gV mcC wd_1377 wd_1379 wd_63 wd_81 wd_1380) rfl hdV_X11_isAt rfl rfl ⟨Nat.le_of_ble_eq_true rfl, Nat.le_of_ble_eq_true rfl⟩ (c_X11_isAt (zl Z) (zG Z) a_this a_state a_readPage a_tape a_letters a_sums a_aside a_groups a_sides a_names a_firstNames a_isKept a_lanes a_lengths a_cells a_had g_isAwake g_taped g_fault g_broken g_brokenAt g_spot g_here g_token g_value g_hasPlaces g_highest g_laid g_groupMany g_isDrawn g_torn g_state x1 x2 x3 x4 hu1) rfl [0, 1] rfl rfl rfl (ci := 11) rfl rfl rfl (Nat.le_of_ble_eq_true rfl) dX11_spots_6 9 rfl (wn := [(a_this, .inr (11, [.ref a_state, .ref a_readPage, .int u1.2.1, .ref a_tape, .int g_taped, .int g_fault, .int g_broken, .int g_brokenAt, .int g_spot, .int g_here, .int g_token, .int g_value, .ref a_letters, .int g_hasPlaces, .int g_highest, .ref a_sums, .ref a_aside, .ref a_groups, .ref a_sides, .int g_laid, .int g_groupMany, .int g_isDrawn, .ref a_names, .ref a_firstNames, .ref a_isKept, .ref a_lanes, .ref a_lengths, .ref a_cells, .int g_torn, .ref a_had])), (a_state, .inl ((zG Z).2.1 1, 96, .inl u1.2.2))]) rfl (S' := [.int u1.1]) rfl ⟨Nat.zero_le _, Nat.zero_le _⟩ ?_
  refine rn_if_ne hX dX11_spots_9 14 (by decide) 12 rfl ?_ ?_
  · refine rn_aload_n hX dX11_spots_14 0 rfl 15 rfl ?_
    refine rn_iload_n hX dX11_spots_15 1 rfl 16 rfl ?_
    refine rn_iload_n hX dX11_spots_16 3 rfl 17 rfl ?_
    refine rn_bind (fun u2 hu2 => ?_)
    refine rn_callV0 hX (gV mcC wd_1156 wd_1158 wd_36 wd_81 wd_1159) rfl hdV_X11_sq rfl rfl ⟨Nat.le_of_ble_eq_true rfl, Nat.le_of_ble_eq_true rfl⟩ (c_X11_sq (zl Z) (zG Z) a_this a_state a_readPage a_tape a_letters a_sums a_aside a_groups a_sides a_names a_firstNames a_isKept a_lanes a_lengths a_cells a_had u1.2.1 g_taped g_fault g_broken g_brokenAt g_spot g_here g_token g_value g_hasPlaces g_highest g_laid g_groupMany g_isDrawn g_torn u1.2.2 x1 x3 hu2) rfl [0, 1] rfl rfl (ci := 11) rfl rfl rfl (Nat.le_of_ble_eq_true rfl) dX11_spots_17 20 rfl (S' := [.long u2]) rfl ⟨Nat.zero_le _, Nat.zero_le _⟩ ?_
    refine rn_lconst hX dX11_spots_20 21 rfl lc_0 ?_
    refine rn_lcmp_ne hX dX11_spots_21 22 rfl dX11_spots_22 30 (by decide) 25 rfl ?_ ?_
    · refine rn_iconst hX dX11_spots_30 31 rfl ic_1 ?_
      refine rn_aload_n hX dX11_spots_31 0 rfl 32 rfl ?_
      refine rn_iload_n hX dX11_spots_32 1 rfl 33 rfl ?_
      refine rn_iload_n hX dX11_spots_33 3 rfl 34 rfl ?_
      refine rn_bind (fun u3 hu3 => ?_)
      refine rn_callV0 hX (gV mcC wd_1156 wd_1158 wd_36 wd_81 wd_1159) rfl hdV_X11_sq rfl rfl ⟨Nat.le_of_ble_eq_true rfl, Nat.le_of_ble_eq_true rfl⟩ (c_X11_sq (zl Z) (zG Z) a_this a_state a_readPage a_tape a_letters a_sums a_aside a_groups a_sides a_names a_firstNames a_isKept a_lanes a_lengths a_cells a_had u1.2.1 g_taped g_fault g_broken g_brokenAt g_spot g_here g_token g_value g_hasPlaces g_highest g_laid g_groupMany g_isDrawn g_torn u1.2.2 x1 x3 hu3) rfl [0, 1] rfl rfl (ci := 11) rfl rfl rfl (Nat.le_of_ble_eq_true rfl) dX11_spots_34 37 rfl (S' := [.long u3, .int (1 : Int32)]) rfl ⟨Nat.zero_le _, Nat.zero_le _⟩ ?_
      refine rn_iload_n hX dX11_spots_37 2 rfl 38 rfl ?_
      refine rn_i2l hX dX11_spots_38 39 rfl ?_
      refine rn_iload hX dX11_spots_39 4 rfl 41 rfl ?_
      refine rn_i2l hX dX11_spots_41 42 rfl ?_
      refine rn_callS0 hX (gS mcC wd_1190 wd_1191 wd_81 wd_1192) rfl hdS_X11_wideBy rfl rfl ⟨Nat.le_of_ble_eq_true rfl, Nat.le_of_ble_eq_true rfl⟩ (c_X11_wideBy (zl Z) (zG Z) u3 x2.toInt64 x4.toInt64 rfl) rfl [] rfl rfl rfl (Nat.le_of_ble_eq_true rfl) dX11_spots_42 45 rfl (S' := [.long (X11_wideBy u3 x2.toInt64 x4.toInt64), .int (1 : Int32)]) rfl ⟨Nat.zero_le _, Nat.zero_le _⟩ ?_
      refine rn_callS0 hX (gS mcC wd_1261 wd_1262 wd_81 wd_1263) rfl hdS_X11_signOf rfl rfl ⟨Nat.le_of_ble_eq_true rfl, Nat.le_of_ble_eq_true rfl⟩ (c_X11_signOf (zl Z) (zG Z) (X11_wideBy u3 x2.toInt64 x4.toInt64) rfl) rfl [] rfl rfl rfl (Nat.le_of_ble_eq_true rfl) dX11_spots_45 48 rfl (S' := [.int (X11_signOf (X11_wideBy u3 x2.toInt64 x4.toInt64)), .int (1 : Int32)]) rfl ⟨Nat.zero_le _, Nat.zero_le _⟩ ?_
      refine rn_iadd hX dX11_spots_48 49 rfl ?_
      exact rn_iret hX hr (by rw [henc]; rfl) dX11_spots_49
    refine rn_bipush hX dX11_spots_25 27 rfl bp_m2 ?_
    refine rn_goto hX dX11_spots_27 49 (by decide) ?_
    exact rn_iret hX hr (by rw [henc]; rfl) dX11_spots_49
  refine rn_iconst hX dX11_spots_12 13 rfl ic_m1 ?_
  exact rn_iret hX hr (by rw [henc]; rfl) dX11_spots_13
abbrev rmX11_isLike : Room := { frames := 1, cells := 0, slots := 0, locals := 23 }
theorem hdV_X11_isLike : yX11_isLike.cls = RX11 ∧ yX11_isLike.cls ≠ "java/lang/invoke/MethodHandle" ∧ yX11_isLike.cls ≠ "java/lang/invoke/VarHandle" ∧ (parseMethodDescriptor yX11_isLike.desc).map (fun d => d.parameters.length) = some 2 := by decide +kernel
set_option maxHeartbeats 4000000 in
set_option maxRecDepth 100000 in
theorem c_X11_isLike (l : Launch) (G : GT) (a_this a_names a_state a_readPage a_tape a_letters a_sums a_aside a_groups a_sides a_firstNames a_isKept a_lanes a_lengths a_cells a_had : Nat) (g_isAwake : Int32) (g_taped : Int32) (g_fault : Int32) (g_broken : Int32) (g_brokenAt : Int32) (g_spot : Int32) (g_here : Int32) (g_token : Int32) (g_value : Int32) (g_hasPlaces : Int32) (g_highest : Int32) (g_laid : Int32) (g_groupMany : Int32) (g_isDrawn : Int32) (g_torn : Int32) (g_names : (Nat → Int32)) (g_state : (Nat → Int32)) (x1 : Int32) (x2 : Int32) {u : Int32} (hu : X11_isLike x1 x2 g_names g_state = some u) : Ctr l G yX11_isLike wsX11_isLike rmX11_isLike [.ref a_this, .int x1, .int x2] [(a_this, .inr (11, [.ref a_state, .ref a_readPage, .int g_isAwake, .ref a_tape, .int g_taped, .int g_fault, .int g_broken, .int g_brokenAt, .int g_spot, .int g_here, .int g_token, .int g_value, .ref a_letters, .int g_hasPlaces, .int g_highest, .ref a_sums, .ref a_aside, .ref a_groups, .ref a_sides, .int g_laid, .int g_groupMany, .int g_isDrawn, .ref a_names, .ref a_firstNames, .ref a_isKept, .ref a_lanes, .ref a_lengths, .ref a_cells, .int g_torn, .ref a_had])), (a_names, .inl (G.2.1 1, 7, .inl g_names)), (a_state, .inl (G.2.1 1, 96, .inl g_state))] (some (.int u)) [(a_this, .inr (11, [.ref a_state, .ref a_readPage, .int g_isAwake, .ref a_tape, .int g_taped, .int g_fault, .int g_broken, .int g_brokenAt, .int g_spot, .int g_here, .int g_token, .int g_value, .ref a_letters, .int g_hasPlaces, .int g_highest, .ref a_sums, .ref a_aside, .ref a_groups, .ref a_sides, .int g_laid, .int g_groupMany, .int g_isDrawn, .ref a_names, .ref a_firstNames, .ref a_isKept, .ref a_lanes, .ref a_lengths, .ref a_cells, .int g_torn, .ref a_had])), (a_names, .inl (G.2.1 1, 7, .inl g_names)), (a_state, .inl (G.2.1 1, 96, .inl g_state))] := by
  obtain ⟨enc, henc⟩ : ∃ enc : (Int32) → Option Value × va_W, enc = fun u => (((some (.int u)) : Option Value), ([(a_this, .inr (11, [.ref a_state, .ref a_readPage, .int g_isAwake, .ref a_tape, .int g_taped, .int g_fault, .int g_broken, .int g_brokenAt, .int g_spot, .int g_here, .int g_token, .int g_value, .ref a_letters, .int g_hasPlaces, .int g_highest, .ref a_sums, .ref a_aside, .ref a_groups, .ref a_sides, .int g_laid, .int g_groupMany, .int g_isDrawn, .ref a_names, .ref a_firstNames, .ref a_isKept, .ref a_lanes, .ref a_lengths, .ref a_cells, .int g_torn, .ref a_had])), (a_names, .inl (G.2.1 1, 7, .inl g_names)), (a_state, .inl (G.2.1 1, 96, .inl g_state))] : va_W)) := ⟨_, rfl⟩
  refine ctr_of (cc := cX11_isLike) (own := RX11) (E := Option.map enc) (o := X11_isLike x1 x2 g_names g_state) (by decide) rfl rfl (L := [(0, .ref a_this), (1, .int x1), (2, .int x2)]) rfl (Nat.le_of_ble_eq_true rfl) (by rw [hu, henc]; rfl) ?_
  intro Z hX hl hG hr
  subst hl; subst hG
  have fl34 : (Cond.fieldLink RX11 34 "OnlyFarModel" "names" "[I").before (za Z) (zs Z) = true := hX.wd (mcC _ wd_1012)
  have fl7 : (Cond.fieldLink RX11 7 "OnlyFarModel" "state" "[I").before (za Z) (zs Z) = true := hX.wd (mcC _ wd_990)
  have inX11 : ∀ w ∈ u_ws RX11 TX11 30, w ∈ wsX11_isLike := fun w h => mcC w (inC_X11 w h)
  have hB2 : ∀ (again : Int32 → Int32 → Int32 → Option (Int32)) (hagain : ∀ (x1 : Int32) (x2 : Int32) (x3 : Int32), Rn Z 4 (Option.map enc) 0 0 2 [(0, .ref a_this), (1, .int x1), (2, .int x2), (3, .int x3)] [] [(a_this, .inr (11, [.ref a_state, .ref a_readPage, .int g_isAwake, .ref a_tape, .int g_taped, .int g_fault, .int g_broken, .int g_brokenAt, .int g_spot, .int g_here, .int g_token, .int g_value, .ref a_letters, .int g_hasPlaces, .int g_highest, .ref a_sums, .ref a_aside, .ref a_groups, .ref a_sides, .int g_laid, .int g_groupMany, .int g_isDrawn, .ref a_names, .ref a_firstNames, .ref a_isKept, .ref a_lanes, .ref a_lengths, .ref a_cells, .int g_torn, .ref a_had])), (a_names, .inl ((zG Z).2.1 1, 7, .inl g_names)), (a_state, .inl ((zG Z).2.1 1, 96, .inl g_state))] (again x1 x2 x3)) (x1 : Int32) (x2 : Int32) (x3 : Int32), Rn Z 4 (Option.map enc) 0 0 2 [(0, .ref a_this), (1, .int x1), (2, .int x2), (3, .int x3)] [] [(a_this, .inr (11, [.ref a_state, .ref a_readPage, .int g_isAwake, .ref a_tape, .int g_taped, .int g_fault, .int g_broken, .int g_brokenAt, .int g_spot, .int g_here, .int g_token, .int g_value, .ref a_letters, .int g_hasPlaces, .int g_highest, .ref a_sums, .ref a_aside, .ref a_groups, .ref a_sides, .int g_laid, .int g_groupMany, .int g_isDrawn, .ref a_names, .ref a_firstNames, .ref a_isKept, .ref a_lanes, .ref a_lengths, .ref a_cells, .int g_torn, .ref a_had])), (a_names, .inl ((zG Z).2.1 1, 7, .inl g_names)), (a_state, .inl ((zG Z).2.1 1, 96, .inl g_state))] (X11_isLike_B2 g_names g_state again x1 x2 x3) := by
    intro again hagain x1 x2 x3
    unfold X11_isLike_B2
    refine rn_iload_n hX dX11_isLike_2 3 rfl 3 rfl ?_
    refine rn_iload_n hX dX11_isLike_3 2 rfl 4 rfl ?_
    refine rn_icmp_ge hX dX11_isLike_4 65 (by decide) 7 rfl ?_ ?_
    · refine rn_iconst hX dX11_isLike_65 66 rfl ic_1 ?_
      exact rn_zret hX rfl hr (by rw [henc]; rfl) dX11_isLike_66
    refine rn_aload_n hX dX11_isLike_7 0 rfl 8 rfl ?_
    refine rn_get hX inX11 0 rfl rfl 22 (by decide) fl34 rfl rfl dX11_isLike_8 11 rfl ?_
    refine rn_iload_n hX dX11_isLike_11 3 rfl 12 rfl ?_
    refine rn_gd (fun hi1 => ?_)
    refine rn_iald hX 1 rfl hi1 dX11_isLike_12 13 rfl ?_
    refine rn_aload_n hX dX11_isLike_13 0 rfl 14 rfl ?_
    refine rn_get hX inX11 0 rfl rfl 22 (by decide) fl34 rfl rfl dX11_isLike_14 17 rfl ?_
    refine rn_iload_n hX dX11_isLike_17 2 rfl 18 rfl ?_
    refine rn_gd (fun hi2 => ?_)
    refine rn_iald hX 1 rfl hi2 dX11_isLike_18 19 rfl ?_
    refine rn_icmp_eq hX dX11_isLike_19 57 (by decide) 22 rfl ?_ ?_
    · refine rn_iconst hX dX11_isLike_57 58 rfl ic_0 ?_
      exact rn_zret hX rfl hr (by rw [henc]; rfl) dX11_isLike_58
    refine rn_aload_n hX dX11_isLike_22 0 rfl 23 rfl ?_
    refine rn_get hX inX11 0 rfl rfl 0 (by decide) fl7 rfl rfl dX11_isLike_23 26 rfl ?_
    refine rn_iload_n hX dX11_isLike_26 1 rfl 27 rfl ?_
    refine rn_aload_n hX dX11_isLike_27 0 rfl 28 rfl ?_
    refine rn_get hX inX11 0 rfl rfl 22 (by decide) fl34 rfl rfl dX11_isLike_28 31 rfl ?_
    refine rn_iload_n hX dX11_isLike_31 3 rfl 32 rfl ?_
    refine rn_iald hX 1 rfl hi1 dX11_isLike_32 33 rfl ?_
    refine rn_aload_n hX dX11_isLike_33 0 rfl 34 rfl ?_
    refine rn_get hX inX11 0 rfl rfl 22 (by decide) fl34 rfl rfl dX11_isLike_34 37 rfl ?_
    refine rn_iload_n hX dX11_isLike_37 2 rfl 38 rfl ?_
    refine rn_iald hX 1 rfl hi2 dX11_isLike_38 39 rfl ?_
    refine rn_callS0 hX (gS mcC wd_1133 wd_1134 wd_81 wd_1135) rfl hdS_X11_pairOf rfl rfl ⟨Nat.le_of_ble_eq_true rfl, Nat.le_of_ble_eq_true rfl⟩ (c_X11_pairOf (zl Z) (zG Z) (g_names x3.toNatClampNeg) (g_names x2.toNatClampNeg) rfl) rfl [] rfl rfl rfl (Nat.le_of_ble_eq_true rfl) dX11_isLike_39 42 rfl (S' := [.int (X11_pairOf (g_names x3.toNatClampNeg) (g_names x2.toNatClampNeg)), .int x1, .ref a_state]) rfl ⟨Nat.zero_le _, Nat.zero_le _⟩ ?_
    refine rn_iadd hX dX11_isLike_42 43 rfl ?_
    refine rn_gd (fun hi3 => ?_)
    refine rn_iald hX 2 rfl hi3 dX11_isLike_43 44 rfl ?_
    refine rn_aload_n hX dX11_isLike_44 0 rfl 45 rfl ?_
    refine rn_get hX inX11 0 rfl rfl 0 (by decide) fl7 rfl rfl dX11_isLike_45 48 rfl ?_
    refine rn_iload_n hX dX11_isLike_48 3 rfl 49 rfl ?_
    refine rn_iload_n hX dX11_isLike_49 2 rfl 50 rfl ?_
    refine rn_callS0 hX (gS mcC wd_1133 wd_1134 wd_81 wd_1135) rfl hdS_X11_pairOf rfl rfl ⟨Nat.le_of_ble_eq_true rfl, Nat.le_of_ble_eq_true rfl⟩ (c_X11_pairOf (zl Z) (zG Z) x3 x2 rfl) rfl [] rfl rfl rfl (Nat.le_of_ble_eq_true rfl) dX11_isLike_50 53 rfl (S' := [.int (X11_pairOf x3 x2), .ref a_state, .int (g_state (x1 + (X11_pairOf (g_names x3.toNatClampNeg) (g_names x2.toNatClampNeg))).toNatClampNeg)]) rfl ⟨Nat.zero_le _, Nat.zero_le _⟩ ?_
    refine rn_gd (fun hi4 => ?_)
    refine rn_iald hX 2 rfl hi4 dX11_isLike_53 54 rfl ?_
    refine rn_icmp_eq hX dX11_isLike_54 59 (by decide) 57 rfl ?_ ?_
    · refine rn_iinc hX dX11_isLike_59 3 rfl ic_1 (by decide) (L' := fun v5 => [(3, .int v5), (0, .ref a_this), (1, .int x1), (2, .int x2)]) (fun _ => rfl) 62 rfl (fun v5 => ?_)
      refine rn_goto hX dX11_isLike_62 2 (by decide) ?_
      refine rn_sub [1, 2, 3, 0] rfl ?_
      exact hagain x1 x2 v5
    refine rn_iconst hX dX11_isLike_57 58 rfl ic_0 ?_
    exact rn_zret hX rfl hr (by rw [henc]; rfl) dX11_isLike_58
  have hL2 : ∀ (n : Nat) (x1 : Int32) (x2 : Int32) (x3 : Int32), Rn Z 4 (Option.map enc) 0 0 2 [(0, .ref a_this), (1, .int x1), (2, .int x2), (3, .int x3)] [] [(a_this, .inr (11, [.ref a_state, .ref a_readPage, .int g_isAwake, .ref a_tape, .int g_taped, .int g_fault, .int g_broken, .int g_brokenAt, .int g_spot, .int g_here, .int g_token, .int g_value, .ref a_letters, .int g_hasPlaces, .int g_highest, .ref a_sums, .ref a_aside, .ref a_groups, .ref a_sides, .int g_laid, .int g_groupMany, .int g_isDrawn, .ref a_names, .ref a_firstNames, .ref a_isKept, .ref a_lanes, .ref a_lengths, .ref a_cells, .int g_torn, .ref a_had])), (a_names, .inl ((zG Z).2.1 1, 7, .inl g_names)), (a_state, .inl ((zG Z).2.1 1, 96, .inl g_state))] (X11_isLike_L2 g_names g_state n x1 x2 x3) := by
    intro n
    induction n with
    | zero => intros; exact rn_none
    | succ n ih => exact hB2 _ ih
  unfold X11_isLike
  refine rn_iconst hX dX11_isLike_0 1 rfl ic_0 ?_
  refine rn_istore_n hX dX11_isLike_1 3 rfl (by decide) (L' := [(3, .int (0 : Int32)), (0, .ref a_this), (1, .int x1), (2, .int x2)]) rfl 2 rfl ?_
  refine rn_sub [1, 2, 3, 0] rfl ?_
  exact (hL2  1000) x1 x2 (0 : Int32)
abbrev rmX11_layMaps : Room := { frames := 2, cells := 0, slots := 0, locals := 46 }
theorem hdV_X11_layMaps : yX11_layMaps.cls = RX11 ∧ yX11_layMaps.cls ≠ "java/lang/invoke/MethodHandle" ∧ yX11_layMaps.cls ≠ "java/lang/invoke/VarHandle" ∧ (parseMethodDescriptor yX11_layMaps.desc).map (fun d => d.parameters.length) = some 1 := by decide +kernel
set_option maxHeartbeats 4000000 in
set_option maxRecDepth 100000 in
theorem c_X11_layMaps (l : Launch) (G : GT) (a_this a_firstNames a_names a_state a_readPage a_tape a_letters a_sums a_aside a_groups a_sides a_isKept a_lanes a_lengths a_cells a_had : Nat) (g_isAwake : Int32) (g_taped : Int32) (g_fault : Int32) (g_broken : Int32) (g_brokenAt : Int32) (g_spot : Int32) (g_here : Int32) (g_token : Int32) (g_value : Int32) (g_hasPlaces : Int32) (g_highest : Int32) (g_laid : Int32) (g_groupMany : Int32) (g_isDrawn : Int32) (g_torn : Int32) (g_firstNames : (Nat → Int32)) (g_names : (Nat → Int32)) (g_state : (Nat → Int32)) (x1 : Int32) {u : Int32 × (Nat → Int32) × (Nat → Int32)} (hu : X11_layMaps x1 g_firstNames g_names g_state = some u) : Ctr l G yX11_layMaps wsX11_layMaps rmX11_layMaps [.ref a_this, .int x1] [(a_this, .inr (11, [.ref a_state, .ref a_readPage, .int g_isAwake, .ref a_tape, .int g_taped, .int g_fault, .int g_broken, .int g_brokenAt, .int g_spot, .int g_here, .int g_token, .int g_value, .ref a_letters, .int g_hasPlaces, .int g_highest, .ref a_sums, .ref a_aside, .ref a_groups, .ref a_sides, .int g_laid, .int g_groupMany, .int g_isDrawn, .ref a_names, .ref a_firstNames, .ref a_isKept, .ref a_lanes, .ref a_lengths, .ref a_cells, .int g_torn, .ref a_had])), (a_firstNames, .inl (G.2.1 1, 7, .inl g_firstNames)), (a_names, .inl (G.2.1 1, 7, .inl g_names)), (a_state, .inl (G.2.1 1, 96, .inl g_state))] (some (.int u.1)) [(a_this, .inr (11, [.ref a_state, .ref a_readPage, .int g_isAwake, .ref a_tape, .int g_taped, .int g_fault, .int g_broken, .int g_brokenAt, .int g_spot, .int g_here, .int g_token, .int g_value, .ref a_letters, .int g_hasPlaces, .int g_highest, .ref a_sums, .ref a_aside, .ref a_groups, .ref a_sides, .int g_laid, .int g_groupMany, .int g_isDrawn, .ref a_names, .ref a_firstNames, .ref a_isKept, .ref a_lanes, .ref a_lengths, .ref a_cells, .int g_torn, .ref a_had])), (a_firstNames, .inl (G.2.1 1, 7, .inl u.2.1)), (a_names, .inl (G.2.1 1, 7, .inl u.2.2)), (a_state, .inl (G.2.1 1, 96, .inl g_state))] := by
  obtain ⟨enc, henc⟩ : ∃ enc : (Int32 × (Nat → Int32) × (Nat → Int32)) → Option Value × va_W, enc = fun u => (((some (.int u.1)) : Option Value), ([(a_this, .inr (11, [.ref a_state, .ref a_readPage, .int g_isAwake, .ref a_tape, .int g_taped, .int g_fault, .int g_broken, .int g_brokenAt, .int g_spot, .int g_here, .int g_token, .int g_value, .ref a_letters, .int g_hasPlaces, .int g_highest, .ref a_sums, .ref a_aside, .ref a_groups, .ref a_sides, .int g_laid, .int g_groupMany, .int g_isDrawn, .ref a_names, .ref a_firstNames, .ref a_isKept, .ref a_lanes, .ref a_lengths, .ref a_cells, .int g_torn, .ref a_had])), (a_firstNames, .inl (G.2.1 1, 7, .inl u.2.1)), (a_names, .inl (G.2.1 1, 7, .inl u.2.2)), (a_state, .inl (G.2.1 1, 96, .inl g_state))] : va_W)) := ⟨_, rfl⟩
  refine ctr_of (cc := cX11_layMaps) (own := RX11) (E := Option.map enc) (o := X11_layMaps x1 g_firstNames g_names g_state) (by decide) rfl rfl (L := [(0, .ref a_this), (1, .int x1)]) rfl (Nat.le_of_ble_eq_true rfl) (by rw [hu, henc]; rfl) ?_
  intro Z hX hl hG hr
  subst hl; subst hG
  have fl34 : (Cond.fieldLink RX11 34 "OnlyFarModel" "names" "[I").before (za Z) (zs Z) = true := hX.wd (mcC _ wd_1012)
  have fl37 : (Cond.fieldLink RX11 37 "OnlyFarModel" "firstNames" "[I").before (za Z) (zs Z) = true := hX.wd (mcC _ wd_1013)
  have fl7 : (Cond.fieldLink RX11 7 "OnlyFarModel" "state" "[I").before (za Z) (zs Z) = true := hX.wd (mcC _ wd_990)
  have inX11 : ∀ w ∈ u_ws RX11 TX11 30, w ∈ wsX11_layMaps := fun w h => mcC w (inC_X11 w h)
  have hJ119 : ∀ (again : Int32 → Int32 → Int32 → Int32 → (Nat → Int32) → (Nat → Int32) → Option (Int32 × (Nat → Int32) × (Nat → Int32))) (hagain : ∀ (x1 : Int32) (x2 : Int32) (x3 : Int32) (x4 : Int32) (g_firstNames : (Nat → Int32)) (g_names : (Nat → Int32)), Rn Z 6 (Option.map enc) 0 0 35 [(0, .ref a_this), (1, .int x1), (2, .int x2), (3, .int x3), (4, .int x4)] [] [(a_this, .inr (11, [.ref a_state, .ref a_readPage, .int g_isAwake, .ref a_tape, .int g_taped, .int g_fault, .int g_broken, .int g_brokenAt, .int g_spot, .int g_here, .int g_token, .int g_value, .ref a_letters, .int g_hasPlaces, .int g_highest, .ref a_sums, .ref a_aside, .ref a_groups, .ref a_sides, .int g_laid, .int g_groupMany, .int g_isDrawn, .ref a_names, .ref a_firstNames, .ref a_isKept, .ref a_lanes, .ref a_lengths, .ref a_cells, .int g_torn, .ref a_had])), (a_firstNames, .inl ((zG Z).2.1 1, 7, .inl g_firstNames)), (a_names, .inl ((zG Z).2.1 1, 7, .inl g_names)), (a_state, .inl ((zG Z).2.1 1, 96, .inl g_state))] (again x1 x2 x3 x4 g_firstNames g_names)) (x1 : Int32) (x2 : Int32) (x3 : Int32) (x4 : Int32) (g_firstNames : (Nat → Int32)) (g_names : (Nat → Int32)), Rn Z 6 (Option.map enc) 0 0 119 [(0, .ref a_this), (1, .int x1), (2, .int x2), (3, .int x3), (4, .int x4)] [] [(a_this, .inr (11, [.ref a_state, .ref a_readPage, .int g_isAwake, .ref a_tape, .int g_taped, .int g_fault, .int g_broken, .int g_brokenAt, .int g_spot, .int g_here, .int g_token, .int g_value, .ref a_letters, .int g_hasPlaces, .int g_highest, .ref a_sums, .ref a_aside, .ref a_groups, .ref a_sides, .int g_laid, .int g_groupMany, .int g_isDrawn, .ref a_names, .ref a_firstNames, .ref a_isKept, .ref a_lanes, .ref a_lengths, .ref a_cells, .int g_torn, .ref a_had])), (a_firstNames, .inl ((zG Z).2.1 1, 7, .inl g_firstNames)), (a_names, .inl ((zG Z).2.1 1, 7, .inl g_names)), (a_state, .inl ((zG Z).2.1 1, 96, .inl g_state))] (X11_layMaps_J119 again x1 x2 x3 x4 g_firstNames g_names) := by
    intro again hagain x1 x2 x3 x4 g_firstNames g_names
    unfold X11_layMaps_J119
    refine rn_iinc hX dX11_layMaps_119 3 rfl ic_1 (by decide) (L' := fun v1 => [(3, .int v1), (0, .ref a_this), (1, .int x1), (2, .int x2), (4, .int x4)]) (fun _ => rfl) 122 rfl (fun v1 => ?_)
    refine rn_goto hX dX11_layMaps_122 35 (by decide) ?_
    refine rn_sub [1, 2, 3, 0, 4] rfl ?_
    exact hagain x1 x2 v1 x4 g_firstNames g_names
  have hB89 : ∀ (again : Int32 → Int32 → Int32 → Int32 → Int32 → (Nat → Int32) → (Nat → Int32) → Option (Int32 × (Nat → Int32) × (Nat → Int32))) (k119 : Int32 → Int32 → Int32 → Int32 → (Nat → Int32) → (Nat → Int32) → Option (Int32 × (Nat → Int32) × (Nat → Int32))) (hagain : ∀ (x1 : Int32) (x2 : Int32) (x3 : Int32) (x4 : Int32) (x5 : Int32) (g_firstNames : (Nat → Int32)) (g_names : (Nat → Int32)), Rn Z 6 (Option.map enc) 0 0 89 [(0, .ref a_this), (1, .int x1), (2, .int x2), (3, .int x3), (4, .int x4), (5, .int x5)] [] [(a_this, .inr (11, [.ref a_state, .ref a_readPage, .int g_isAwake, .ref a_tape, .int g_taped, .int g_fault, .int g_broken, .int g_brokenAt, .int g_spot, .int g_here, .int g_token, .int g_value, .ref a_letters, .int g_hasPlaces, .int g_highest, .ref a_sums, .ref a_aside, .ref a_groups, .ref a_sides, .int g_laid, .int g_groupMany, .int g_isDrawn, .ref a_names, .ref a_firstNames, .ref a_isKept, .ref a_lanes, .ref a_lengths, .ref a_cells, .int g_torn, .ref a_had])), (a_firstNames, .inl ((zG Z).2.1 1, 7, .inl g_firstNames)), (a_names, .inl ((zG Z).2.1 1, 7, .inl g_names)), (a_state, .inl ((zG Z).2.1 1, 96, .inl g_state))] (again x1 x2 x3 x4 x5 g_firstNames g_names)) (hk119 : ∀ (x1 : Int32) (x2 : Int32) (x3 : Int32) (x4 : Int32) (g_firstNames : (Nat → Int32)) (g_names : (Nat → Int32)), Rn Z 6 (Option.map enc) 0 0 119 [(0, .ref a_this), (1, .int x1), (2, .int x2), (3, .int x3), (4, .int x4)] [] [(a_this, .inr (11, [.ref a_state, .ref a_readPage, .int g_isAwake, .ref a_tape, .int g_taped, .int g_fault, .int g_broken, .int g_brokenAt, .int g_spot, .int g_here, .int g_token, .int g_value, .ref a_letters, .int g_hasPlaces, .int g_highest, .ref a_sums, .ref a_aside, .ref a_groups, .ref a_sides, .int g_laid, .int g_groupMany, .int g_isDrawn, .ref a_names, .ref a_firstNames, .ref a_isKept, .ref a_lanes, .ref a_lengths, .ref a_cells, .int g_torn, .ref a_had])), (a_firstNames, .inl ((zG Z).2.1 1, 7, .inl g_firstNames)), (a_names, .inl ((zG Z).2.1 1, 7, .inl g_names)), (a_state, .inl ((zG Z).2.1 1, 96, .inl g_state))] (k119 x1 x2 x3 x4 g_firstNames g_names)) (x1 : Int32) (x2 : Int32) (x3 : Int32) (x4 : Int32) (x5 : Int32) (g_firstNames : (Nat → Int32)) (g_names : (Nat → Int32)), Rn Z 6 (Option.map enc) 0 0 89 [(0, .ref a_this), (1, .int x1), (2, .int x2), (3, .int x3), (4, .int x4), (5, .int x5)] [] [(a_this, .inr (11, [.ref a_state, .ref a_readPage, .int g_isAwake, .ref a_tape, .int g_taped, .int g_fault, .int g_broken, .int g_brokenAt, .int g_spot, .int g_here, .int g_token, .int g_value, .ref a_letters, .int g_hasPlaces, .int g_highest, .ref a_sums, .ref a_aside, .ref a_groups, .ref a_sides, .int g_laid, .int g_groupMany, .int g_isDrawn, .ref a_names, .ref a_firstNames, .ref a_isKept, .ref a_lanes, .ref a_lengths, .ref a_cells, .int g_torn, .ref a_had])), (a_firstNames, .inl ((zG Z).2.1 1, 7, .inl g_firstNames)), (a_names, .inl ((zG Z).2.1 1, 7, .inl g_names)), (a_state, .inl ((zG Z).2.1 1, 96, .inl g_state))] (X11_layMaps_B89 again k119 x1 x2 x3 x4 x5 g_firstNames g_names) := by
    intro again k119 hagain hk119 x1 x2 x3 x4 x5 g_firstNames g_names
    unfold X11_layMaps_B89
    refine rn_iload hX dX11_layMaps_89 5 rfl 91 rfl ?_
    refine rn_iload_n hX dX11_layMaps_91 2 rfl 92 rfl ?_
    refine rn_icmp_ge hX dX11_layMaps_92 119 (by decide) 95 rfl ?_ ?_
    · refine rn_sub [0, 1, 2, 3, 4] rfl ?_
      exact hk119 x1 x2 x3 x4 g_firstNames g_names
    refine rn_iload_n hX dX11_layMaps_95 3 rfl 96 rfl ?_
    refine rn_if_ne hX dX11_layMaps_96 119 (by decide) 99 rfl ?_ ?_
    · refine rn_sub [0, 1, 2, 3, 4] rfl ?_
      exact hk119 x1 x2 x3 x4 g_firstNames g_names
    refine rn_aload_n hX dX11_layMaps_99 0 rfl 100 rfl ?_
    refine rn_get hX inX11 0 rfl rfl 23 (by decide) fl37 rfl rfl dX11_layMaps_100 103 rfl ?_
    refine rn_iload hX dX11_layMaps_103 5 rfl 105 rfl ?_
    refine rn_aload_n hX dX11_layMaps_105 0 rfl 106 rfl ?_
    refine rn_get hX inX11 0 rfl rfl 22 (by decide) fl34 rfl rfl dX11_layMaps_106 109 rfl ?_
    refine rn_iload hX dX11_layMaps_109 5 rfl 111 rfl ?_
    refine rn_gd (fun hi2 => ?_)
    refine rn_iald hX 2 rfl hi2 dX11_layMaps_111 112 rfl ?_
    refine rn_iast hX 1 rfl hi2 dX11_layMaps_112 113 rfl (w1 := fun m3 => [(a_this, .inr (11, [.ref a_state, .ref a_readPage, .int g_isAwake, .ref a_tape, .int g_taped, .int g_fault, .int g_broken, .int g_brokenAt, .int g_spot, .int g_here, .int g_token, .int g_value, .ref a_letters, .int g_hasPlaces, .int g_highest, .ref a_sums, .ref a_aside, .ref a_groups, .ref a_sides, .int g_laid, .int g_groupMany, .int g_isDrawn, .ref a_names, .ref a_firstNames, .ref a_isKept, .ref a_lanes, .ref a_lengths, .ref a_cells, .int g_torn, .ref a_had])), (a_firstNames, .inl ((zG Z).2.1 1, 7, .inl m3)), (a_names, .inl ((zG Z).2.1 1, 7, .inl g_names)), (a_state, .inl ((zG Z).2.1 1, 96, .inl g_state))]) (fun _ => rfl) (fun m3 => ?_)
    refine rn_iinc hX dX11_layMaps_113 5 rfl ic_1 (by decide) (L' := fun v4 => [(5, .int v4), (0, .ref a_this), (1, .int x1), (2, .int x2), (3, .int x3), (4, .int x4)]) (fun _ => rfl) 116 rfl (fun v4 => ?_)
    refine rn_goto hX dX11_layMaps_116 89 (by decide) ?_
    refine rn_sub [1, 2, 3, 4, 5, 0] rfl ?_
    exact hagain x1 x2 x3 x4 v4 m3 g_names
  have hL89 : ∀ (k119 : Int32 → Int32 → Int32 → Int32 → (Nat → Int32) → (Nat → Int32) → Option (Int32 × (Nat → Int32) × (Nat → Int32))) (hk119 : ∀ (x1 : Int32) (x2 : Int32) (x3 : Int32) (x4 : Int32) (g_firstNames : (Nat → Int32)) (g_names : (Nat → Int32)), Rn Z 6 (Option.map enc) 0 0 119 [(0, .ref a_this), (1, .int x1), (2, .int x2), (3, .int x3), (4, .int x4)] [] [(a_this, .inr (11, [.ref a_state, .ref a_readPage, .int g_isAwake, .ref a_tape, .int g_taped, .int g_fault, .int g_broken, .int g_brokenAt, .int g_spot, .int g_here, .int g_token, .int g_value, .ref a_letters, .int g_hasPlaces, .int g_highest, .ref a_sums, .ref a_aside, .ref a_groups, .ref a_sides, .int g_laid, .int g_groupMany, .int g_isDrawn, .ref a_names, .ref a_firstNames, .ref a_isKept, .ref a_lanes, .ref a_lengths, .ref a_cells, .int g_torn, .ref a_had])), (a_firstNames, .inl ((zG Z).2.1 1, 7, .inl g_firstNames)), (a_names, .inl ((zG Z).2.1 1, 7, .inl g_names)), (a_state, .inl ((zG Z).2.1 1, 96, .inl g_state))] (k119 x1 x2 x3 x4 g_firstNames g_names)) (n : Nat) (x1 : Int32) (x2 : Int32) (x3 : Int32) (x4 : Int32) (x5 : Int32) (g_firstNames : (Nat → Int32)) (g_names : (Nat → Int32)), Rn Z 6 (Option.map enc) 0 0 89 [(0, .ref a_this), (1, .int x1), (2, .int x2), (3, .int x3), (4, .int x4), (5, .int x5)] [] [(a_this, .inr (11, [.ref a_state, .ref a_readPage, .int g_isAwake, .ref a_tape, .int g_taped, .int g_fault, .int g_broken, .int g_brokenAt, .int g_spot, .int g_here, .int g_token, .int g_value, .ref a_letters, .int g_hasPlaces, .int g_highest, .ref a_sums, .ref a_aside, .ref a_groups, .ref a_sides, .int g_laid, .int g_groupMany, .int g_isDrawn, .ref a_names, .ref a_firstNames, .ref a_isKept, .ref a_lanes, .ref a_lengths, .ref a_cells, .int g_torn, .ref a_had])), (a_firstNames, .inl ((zG Z).2.1 1, 7, .inl g_firstNames)), (a_names, .inl ((zG Z).2.1 1, 7, .inl g_names)), (a_state, .inl ((zG Z).2.1 1, 96, .inl g_state))] (X11_layMaps_L89 k119 n x1 x2 x3 x4 x5 g_firstNames g_names) := by
    intro k119 hk119 n
    induction n with
    | zero => intros; exact rn_none
    | succ n ih => exact hB89 _ _ ih hk119
  have hB35 : ∀ (again : Int32 → Int32 → Int32 → Int32 → (Nat → Int32) → (Nat → Int32) → Option (Int32 × (Nat → Int32) × (Nat → Int32))) (hagain : ∀ (x1 : Int32) (x2 : Int32) (x3 : Int32) (x4 : Int32) (g_firstNames : (Nat → Int32)) (g_names : (Nat → Int32)), Rn Z 6 (Option.map enc) 0 0 35 [(0, .ref a_this), (1, .int x1), (2, .int x2), (3, .int x3), (4, .int x4)] [] [(a_this, .inr (11, [.ref a_state, .ref a_readPage, .int g_isAwake, .ref a_tape, .int g_taped, .int g_fault, .int g_broken, .int g_brokenAt, .int g_spot, .int g_here, .int g_token, .int g_value, .ref a_letters, .int g_hasPlaces, .int g_highest, .ref a_sums, .ref a_aside, .ref a_groups, .ref a_sides, .int g_laid, .int g_groupMany, .int g_isDrawn, .ref a_names, .ref a_firstNames, .ref a_isKept, .ref a_lanes, .ref a_lengths, .ref a_cells, .int g_torn, .ref a_had])), (a_firstNames, .inl ((zG Z).2.1 1, 7, .inl g_firstNames)), (a_names, .inl ((zG Z).2.1 1, 7, .inl g_names)), (a_state, .inl ((zG Z).2.1 1, 96, .inl g_state))] (again x1 x2 x3 x4 g_firstNames g_names)) (x1 : Int32) (x2 : Int32) (x3 : Int32) (x4 : Int32) (g_firstNames : (Nat → Int32)) (g_names : (Nat → Int32)), Rn Z 6 (Option.map enc) 0 0 35 [(0, .ref a_this), (1, .int x1), (2, .int x2), (3, .int x3), (4, .int x4)] [] [(a_this, .inr (11, [.ref a_state, .ref a_readPage, .int g_isAwake, .ref a_tape, .int g_taped, .int g_fault, .int g_broken, .int g_brokenAt, .int g_spot, .int g_here, .int g_token, .int g_value, .ref a_letters, .int g_hasPlaces, .int g_highest, .ref a_sums, .ref a_aside, .ref a_groups, .ref a_sides, .int g_laid, .int g_groupMany, .int g_isDrawn, .ref a_names, .ref a_firstNames, .ref a_isKept, .ref a_lanes, .ref a_lengths, .ref a_cells, .int g_torn, .ref a_had])), (a_firstNames, .inl ((zG Z).2.1 1, 7, .inl g_firstNames)), (a_names, .inl ((zG Z).2.1 1, 7, .inl g_names)), (a_state, .inl ((zG Z).2.1 1, 96, .inl g_state))] (X11_layMaps_B35 g_state again x1 x2 x3 x4 g_firstNames g_names) := by
    intro again hagain x1 x2 x3 x4 g_firstNames g_names
    unfold X11_layMaps_B35
    refine rn_iload hX dX11_layMaps_35 4 rfl 37 rfl ?_
    refine rn_if_lt hX dX11_layMaps_37 139 (by decide) 40 rfl ?_ ?_
    · refine rn_iload_n hX dX11_layMaps_139 3 rfl 140 rfl ?_
      exact rn_iret hX hr (by rw [henc]; rfl) dX11_layMaps_140
    refine rn_aload_n hX dX11_layMaps_40 0 rfl 41 rfl ?_
    refine rn_get hX inX11 0 rfl rfl 22 (by decide) fl34 rfl rfl dX11_layMaps_41 44 rfl ?_
    refine rn_iload hX dX11_layMaps_44 4 rfl 46 rfl ?_
    refine rn_dup2 hX dX11_layMaps_46 47 rfl rfl rfl ?_
    refine rn_gd (fun hi5 => ?_)
    refine rn_iald hX 2 rfl hi5 dX11_layMaps_47 48 rfl ?_
    refine rn_iconst hX dX11_layMaps_48 49 rfl ic_1 ?_
    refine rn_iadd hX dX11_layMaps_49 50 rfl ?_
    refine rn_iast hX 2 rfl hi5 dX11_layMaps_50 51 rfl (w1 := fun m6 => [(a_this, .inr (11, [.ref a_state, .ref a_readPage, .int g_isAwake, .ref a_tape, .int g_taped, .int g_fault, .int g_broken, .int g_brokenAt, .int g_spot, .int g_here, .int g_token, .int g_value, .ref a_letters, .int g_hasPlaces, .int g_highest, .ref a_sums, .ref a_aside, .ref a_groups, .ref a_sides, .int g_laid, .int g_groupMany, .int g_isDrawn, .ref a_names, .ref a_firstNames, .ref a_isKept, .ref a_lanes, .ref a_lengths, .ref a_cells, .int g_torn, .ref a_had])), (a_firstNames, .inl ((zG Z).2.1 1, 7, .inl g_firstNames)), (a_names, .inl ((zG Z).2.1 1, 7, .inl m6)), (a_state, .inl ((zG Z).2.1 1, 96, .inl g_state))]) (fun _ => rfl) (fun m6 => ?_)
    refine rn_aload_n hX dX11_layMaps_51 0 rfl 52 rfl ?_
    refine rn_get hX inX11 0 rfl rfl 22 (by decide) fl34 rfl rfl dX11_layMaps_52 55 rfl ?_
    refine rn_iload hX dX11_layMaps_55 4 rfl 57 rfl ?_
    refine rn_iald hX 2 rfl hi5 dX11_layMaps_57 58 rfl ?_
    refine rn_iload_n hX dX11_layMaps_58 2 rfl 59 rfl ?_
    refine rn_icmp_ne hX dX11_layMaps_59 68 (by decide) 62 rfl ?_ ?_
    · refine rn_aload_n hX dX11_layMaps_68 0 rfl 69 rfl ?_
      refine rn_iload_n hX dX11_layMaps_69 1 rfl 70 rfl ?_
      refine rn_iload hX dX11_layMaps_70 4 rfl 72 rfl ?_
      refine rn_bind (fun u7 hu7 => ?_)
      refine rn_callV0 hX (gV mcC wd_1393 wd_1395 wd_65 wd_81 wd_1396) rfl hdV_X11_isLike rfl rfl ⟨Nat.le_of_ble_eq_true rfl, Nat.le_of_ble_eq_true rfl⟩ (c_X11_isLike (zl Z) (zG Z) a_this a_names a_state a_readPage a_tape a_letters a_sums a_aside a_groups a_sides a_firstNames a_isKept a_lanes a_lengths a_cells a_had g_isAwake g_taped g_fault g_broken g_brokenAt g_spot g_here g_token g_value g_hasPlaces g_highest g_laid g_groupMany g_isDrawn g_torn m6 g_state x1 x4 hu7) rfl [0, 2, 3] rfl rfl (ci := 11) rfl rfl rfl (Nat.le_of_ble_eq_true rfl) dX11_layMaps_72 75 rfl (S' := [.int u7]) rfl ⟨Nat.zero_le _, Nat.zero_le _⟩ ?_
      refine rn_if_eq hX dX11_layMaps_75 35 (by decide) 78 rfl ?_ ?_
      · exact hagain x1 x2 x3 x4 g_firstNames m6
      refine rn_iload hX dX11_layMaps_78 4 rfl 80 rfl ?_
      refine rn_iload_n hX dX11_layMaps_80 2 rfl 81 rfl ?_
      refine rn_iconst hX dX11_layMaps_81 82 rfl ic_1 ?_
      refine rn_isub hX dX11_layMaps_82 83 rfl ?_
      refine rn_icmp_ne hX dX11_layMaps_83 125 (by decide) 86 rfl ?_ ?_
      · refine rn_iinc hX dX11_layMaps_125 4 rfl ic_1 (by decide) (L' := fun v8 => [(4, .int v8), (0, .ref a_this), (1, .int x1), (2, .int x2), (3, .int x3)]) (fun _ => rfl) 128 rfl (fun v8 => ?_)
        refine rn_aload_n hX dX11_layMaps_128 1 rfl 129 rfl ?_
        refine rn_get hX inX11 0 rfl rfl 22 (by decide) fl34 rfl rfl dX11_layMaps_129 132 rfl ?_
        refine rn_iload hX dX11_layMaps_132 0 rfl 134 rfl ?_
        refine rn_iconst hX dX11_layMaps_134 135 rfl ic_m1 ?_
        refine rn_gd (fun hi9 => ?_)
        refine rn_iast hX 2 rfl hi9 dX11_layMaps_135 136 rfl (w1 := fun m10 => [(a_this, .inr (11, [.ref a_state, .ref a_readPage, .int g_isAwake, .ref a_tape, .int g_taped, .int g_fault, .int g_broken, .int g_brokenAt, .int g_spot, .int g_here, .int g_token, .int g_value, .ref a_letters, .int g_hasPlaces, .int g_highest, .ref a_sums, .ref a_aside, .ref a_groups, .ref a_sides, .int g_laid, .int g_groupMany, .int g_isDrawn, .ref a_names, .ref a_firstNames, .ref a_isKept, .ref a_lanes, .ref a_lengths, .ref a_cells, .int g_torn, .ref a_had])), (a_firstNames, .inl ((zG Z).2.1 1, 7, .inl g_firstNames)), (a_names, .inl ((zG Z).2.1 1, 7, .inl m10)), (a_state, .inl ((zG Z).2.1 1, 96, .inl g_state))]) (fun _ => rfl) (fun m10 => ?_)
        refine rn_goto hX dX11_layMaps_136 35 (by decide) ?_
        refine rn_sub [1, 2, 3, 4, 0] rfl ?_
        exact hagain x1 x2 x3 v8 g_firstNames m10
      refine rn_iconst hX dX11_layMaps_86 87 rfl ic_0 ?_
      refine rn_istore hX dX11_layMaps_87 (by decide) (L' := [(5, .int (0 : Int32)), (0, .ref a_this), (1, .int x1), (2, .int x2), (3, .int x3), (4, .int x4)]) rfl 89 rfl ?_
      refine rn_sub [1, 2, 3, 4, 5, 0] rfl ?_
      exact (hL89 _ (hJ119 _ hagain) 2000000) x1 x2 x3 x4 (0 : Int32) g_firstNames m6
    refine rn_iinc hX dX11_layMaps_62 4 rfl ic_m1 (by decide) (L' := fun v11 => [(4, .int v11), (0, .ref a_this), (1, .int x1), (2, .int x2), (3, .int x3)]) (fun _ => rfl) 65 rfl (fun v11 => ?_)
    refine rn_goto hX dX11_layMaps_65 35 (by decide) ?_
    refine rn_sub [1, 2, 3, 4, 0] rfl ?_
    exact hagain x1 x2 x3 v11 g_firstNames m6
  have hL35 : ∀ (n : Nat) (x1 : Int32) (x2 : Int32) (x3 : Int32) (x4 : Int32) (g_firstNames : (Nat → Int32)) (g_names : (Nat → Int32)), Rn Z 6 (Option.map enc) 0 0 35 [(0, .ref a_this), (1, .int x1), (2, .int x2), (3, .int x3), (4, .int x4)] [] [(a_this, .inr (11, [.ref a_state, .ref a_readPage, .int g_isAwake, .ref a_tape, .int g_taped, .int g_fault, .int g_broken, .int g_brokenAt, .int g_spot, .int g_here, .int g_token, .int g_value, .ref a_letters, .int g_hasPlaces, .int g_highest, .ref a_sums, .ref a_aside, .ref a_groups, .ref a_sides, .int g_laid, .int g_groupMany, .int g_isDrawn, .ref a_names, .ref a_firstNames, .ref a_isKept, .ref a_lanes, .ref a_lengths, .ref a_cells, .int g_torn, .ref a_had])), (a_firstNames, .inl ((zG Z).2.1 1, 7, .inl g_firstNames)), (a_names, .inl ((zG Z).2.1 1, 7, .inl g_names)), (a_state, .inl ((zG Z).2.1 1, 96, .inl g_state))] (X11_layMaps_L35 g_state n x1 x2 x3 x4 g_firstNames g_names) := by
    intro n
    induction n with
    | zero => intros; exact rn_none
    | succ n ih => exact hB35 _ ih
  unfold X11_layMaps
  refine rn_aload_n hX dX11_layMaps_0 0 rfl 1 rfl ?_
  refine rn_get hX inX11 0 rfl rfl 0 (by decide) fl7 rfl rfl dX11_layMaps_1 4 rfl ?_
  refine rn_bipush hX dX11_layMaps_4 6 rfl bp_21 ?_
  refine rn_ialdk hX 3 rfl cl_21 (vpk (by decide)) dX11_layMaps_6 7 rfl ?_
  refine rn_lati (fun v12 => ?_)
  refine rn_istore_n hX dX11_layMaps_7 2 rfl (by decide) (L' := [(2, .int v12), (0, .ref a_this), (1, .int x1)]) rfl 8 rfl ?_
  refine rn_iconst hX dX11_layMaps_8 9 rfl ic_0 ?_
  refine rn_istore_n hX dX11_layMaps_9 3 rfl (by decide) (L' := [(3, .int (0 : Int32)), (2, .int v12), (0, .ref a_this), (1, .int x1)]) rfl 10 rfl ?_
  refine rn_iconst hX dX11_layMaps_10 11 rfl ic_0 ?_
  refine rn_istore hX dX11_layMaps_11 (by decide) (L' := [(4, .int (0 : Int32)), (3, .int (0 : Int32)), (2, .int v12), (0, .ref a_this), (1, .int x1)]) rfl 13 rfl ?_
  refine rn_aload_n hX dX11_layMaps_13 3 rfl 14 rfl ?_
  refine rn_get hX inX11 0 rfl rfl 0 (by decide) fl7 rfl rfl dX11_layMaps_14 17 rfl ?_
  refine rn_iload_n hX dX11_layMaps_17 4 rfl 18 rfl ?_
  refine rn_bipush hX dX11_layMaps_18 20 rfl bp_21 ?_
  refine rn_iadd hX dX11_layMaps_20 21 rfl ?_
  refine rn_gd (fun hi13 => ?_)
  refine rn_iald hX 3 rfl hi13 dX11_layMaps_21 22 rfl ?_
  refine rn_iload_n hX dX11_layMaps_22 2 rfl 23 rfl ?_
  refine rn_icmp_eq hX dX11_layMaps_23 28 (by decide) 26 rfl ?_ ?_
  · refine rn_aload_n hX dX11_layMaps_28 3 rfl 29 rfl ?_
    refine rn_get hX inX11 0 rfl rfl 22 (by decide) fl34 rfl rfl dX11_layMaps_29 32 rfl ?_
    refine rn_iconst hX dX11_layMaps_32 33 rfl ic_0 ?_
    refine rn_iconst hX dX11_layMaps_33 34 rfl ic_m1 ?_
    refine rn_iastk hX 2 rfl cl_0 (vpk (by decide)) dX11_layMaps_34 35 rfl (w1 := fun m14 => [(a_this, .inr (11, [.ref a_state, .ref a_readPage, .int g_isAwake, .ref a_tape, .int g_taped, .int g_fault, .int g_broken, .int g_brokenAt, .int g_spot, .int g_here, .int g_token, .int g_value, .ref a_letters, .int g_hasPlaces, .int g_highest, .ref a_sums, .ref a_aside, .ref a_groups, .ref a_sides, .int g_laid, .int g_groupMany, .int g_isDrawn, .ref a_names, .ref a_firstNames, .ref a_isKept, .ref a_lanes, .ref a_lengths, .ref a_cells, .int g_torn, .ref a_had])), (a_firstNames, .inl ((zG Z).2.1 1, 7, .inl g_firstNames)), (a_names, .inl ((zG Z).2.1 1, 7, .inl m14)), (a_state, .inl ((zG Z).2.1 1, 96, .inl g_state))]) (fun _ => rfl) (fun m14 => ?_)
    refine rn_sub [3, 4, 2, 1, 0] rfl ?_
    exact (hL35  2000000) x1 v12 (0 : Int32) (0 : Int32) g_firstNames m14
  refine rn_iconst hX dX11_layMaps_26 27 rfl ic_0 ?_
  exact rn_iret hX hr (by rw [henc]; rfl) dX11_layMaps_27
abbrev rmX11_maps : Room := { frames := 3, cells := 0, slots := 0, locals := 71 }
theorem hdV_X11_maps : yX11_maps.cls = RX11 ∧ yX11_maps.cls ≠ "java/lang/invoke/MethodHandle" ∧ yX11_maps.cls ≠ "java/lang/invoke/VarHandle" ∧ (parseMethodDescriptor yX11_maps.desc).map (fun d => d.parameters.length) = some 2 := by decide +kernel
set_option maxHeartbeats 4000000 in
set_option maxRecDepth 100000 in
theorem c_X11_maps (l : Launch) (G : GT) (a_this a_firstNames a_isKept a_names a_state a_readPage a_tape a_letters a_sums a_aside a_groups a_sides a_lanes a_lengths a_cells a_had : Nat) (g_isAwake : Int32) (g_taped : Int32) (g_fault : Int32) (g_broken : Int32) (g_brokenAt : Int32) (g_spot : Int32) (g_here : Int32) (g_token : Int32) (g_value : Int32) (g_hasPlaces : Int32) (g_highest : Int32) (g_laid : Int32) (g_groupMany : Int32) (g_isDrawn : Int32) (g_torn : Int32) (g_firstNames : (Nat → Int32)) (g_isKept : (Nat → Int32)) (g_names : (Nat → Int32)) (g_state : (Nat → Int32)) (x1 : Int32) (x2 : Int32) {u : Int32 × Int32 × (Nat → Int32) × (Nat → Int32) × (Nat → Int32)} (hu : X11_maps x1 x2 g_isAwake g_firstNames g_isKept g_names g_state = some u) : Ctr l G yX11_maps wsX11_maps rmX11_maps [.ref a_this, .int x1, .int x2] [(a_this, .inr (11, [.ref a_state, .ref a_readPage, .int g_isAwake, .ref a_tape, .int g_taped, .int g_fault, .int g_broken, .int g_brokenAt, .int g_spot, .int g_here, .int g_token, .int g_value, .ref a_letters, .int g_hasPlaces, .int g_highest, .ref a_sums, .ref a_aside, .ref a_groups, .ref a_sides, .int g_laid, .int g_groupMany, .int g_isDrawn, .ref a_names, .ref a_firstNames, .ref a_isKept, .ref a_lanes, .ref a_lengths, .ref a_cells, .int g_torn, .ref a_had])), (a_firstNames, .inl (G.2.1 1, 7, .inl g_firstNames)), (a_isKept, .inl (G.2.1 2, 2, .inl g_isKept)), (a_names, .inl (G.2.1 1, 7, .inl g_names)), (a_state, .inl (G.2.1 1, 96, .inl g_state))] (some (.int u.1)) [(a_this, .inr (11, [.ref a_state, .ref a_readPage, .int u.2.1, .ref a_tape, .int g_taped, .int g_fault, .int g_broken, .int g_brokenAt, .int g_spot, .int g_here, .int g_token, .int g_value, .ref a_letters, .int g_hasPlaces, .int g_highest, .ref a_sums, .ref a_aside, .ref a_groups, .ref a_sides, .int g_laid, .int g_groupMany, .int g_isDrawn, .ref a_names, .ref a_firstNames, .ref a_isKept, .ref a_lanes, .ref a_lengths, .ref a_cells, .int g_torn, .ref a_had])), (a_firstNames, .inl (G.2.1 1, 7, .inl u.2.2.1)), (a_isKept, .inl (G.2.1 2, 2, .inl g_isKept)), (a_names, .inl (G.2.1 1, 7, .inl u.2.2.2.1)), (a_state, .inl (G.2.1 1, 96, .inl u.2.2.2.2))] := by
  obtain ⟨enc, henc⟩ : ∃ enc : (Int32 × Int32 × (Nat → Int32) × (Nat → Int32) × (Nat → Int32)) → Option Value × va_W, enc = fun u => (((some (.int u.1)) : Option Value), ([(a_this, .inr (11, [.ref a_state, .ref a_readPage, .int u.2.1, .ref a_tape, .int g_taped, .int g_fault, .int g_broken, .int g_brokenAt, .int g_spot, .int g_here, .int g_token, .int g_value, .ref a_letters, .int g_hasPlaces, .int g_highest, .ref a_sums, .ref a_aside, .ref a_groups, .ref a_sides, .int g_laid, .int g_groupMany, .int g_isDrawn, .ref a_names, .ref a_firstNames, .ref a_isKept, .ref a_lanes, .ref a_lengths, .ref a_cells, .int g_torn, .ref a_had])), (a_firstNames, .inl (G.2.1 1, 7, .inl u.2.2.1)), (a_isKept, .inl (G.2.1 2, 2, .inl g_isKept)), (a_names, .inl (G.2.1 1, 7, .inl u.2.2.2.1)), (a_state, .inl (G.2.1 1, 96, .inl u.2.2.2.2))] : va_W)) := ⟨_, rfl⟩
  refine ctr_of (cc := cX11_maps) (own := RX11) (E := Option.map enc) (o := X11_maps x1 x2 g_isAwake g_firstNames g_isKept g_names g_state) (by decide) rfl rfl (L := [(0, .ref a_this), (1, .int x1), (2, .int x2)]) rfl (Nat.le_of_ble_eq_true rfl) (by rw [hu, henc]; rfl) ?_
  intro Z hX hl hG hr
  subst hl; subst hG
  have fl37 : (Cond.fieldLink RX11 37 "OnlyFarModel" "firstNames" "[I").before (za Z) (zs Z) = true := hX.wd (mcC _ wd_1013)
  have fl40 : (Cond.fieldLink RX11 40 "OnlyFarModel" "isKept" "[Z").before (za Z) (zs Z) = true := hX.wd (mcC _ wd_1014)
  have fl7 : (Cond.fieldLink RX11 7 "OnlyFarModel" "state" "[I").before (za Z) (zs Z) = true := hX.wd (mcC _ wd_990)
  have kl265 : (Cond.constantLong RX11 265 (10)).before (za Z) (zs Z) = true := hX.wd (mcC _ wd_1325)
  have inX11 : ∀ w ∈ u_ws RX11 TX11 30, w ∈ wsX11_maps := fun w h => mcC w (inC_X11 w h)
  have hJ42 : ∀ (x1 : Int32) (x2 : Int32) (g_isAwake : Int32) (g_firstNames : (Nat → Int32)) (g_names : (Nat → Int32)) (g_state : (Nat → Int32)), Rn Z 4 (Option.map enc) 0 0 42 [(0, .ref a_this), (1, .int x1), (2, .int x2)] [] [(a_this, .inr (11, [.ref a_state, .ref a_readPage, .int g_isAwake, .ref a_tape, .int g_taped, .int g_fault, .int g_broken, .int g_brokenAt, .int g_spot, .int g_here, .int g_token, .int g_value, .ref a_letters, .int g_hasPlaces, .int g_highest, .ref a_sums, .ref a_aside, .ref a_groups, .ref a_sides, .int g_laid, .int g_groupMany, .int g_isDrawn, .ref a_names, .ref a_firstNames, .ref a_isKept, .ref a_lanes, .ref a_lengths, .ref a_cells, .int g_torn, .ref a_had])), (a_firstNames, .inl ((zG Z).2.1 1, 7, .inl g_firstNames)), (a_isKept, .inl ((zG Z).2.1 2, 2, .inl g_isKept)), (a_names, .inl ((zG Z).2.1 1, 7, .inl g_names)), (a_state, .inl ((zG Z).2.1 1, 96, .inl g_state))] (X11_maps_J42 g_isKept x1 x2 g_isAwake g_firstNames g_names g_state) := by
    intro x1 x2 g_isAwake g_firstNames g_names g_state
    unfold X11_maps_J42
    refine rn_aload_n hX dX11_maps_42 0 rfl 43 rfl ?_
    refine rn_get hX inX11 0 rfl rfl 24 (by decide) fl40 rfl rfl dX11_maps_43 46 rfl ?_
    refine rn_iload_n hX dX11_maps_46 1 rfl 47 rfl ?_
    refine rn_gd (fun hi1 => ?_)
    refine rn_zald hX 2 rfl hi1 dX11_maps_47 48 rfl ?_
    refine rn_if_ne hX dX11_maps_48 54 (by decide) 51 rfl ?_ ?_
    · refine rn_aload_n hX dX11_maps_54 0 rfl 55 rfl ?_
      refine rn_bipush hX dX11_maps_55 57 rfl bp_32 ?_
      refine rn_iload_n hX dX11_maps_57 1 rfl 58 rfl ?_
      refine rn_iconst hX dX11_maps_58 59 rfl ic_1 ?_
      refine rn_iadd hX dX11_maps_59 60 rfl ?_
      refine rn_imul hX dX11_maps_60 61 rfl ?_
      refine rn_bind (fun u2 hu2 => ?_)
      refine rn_callV hX (gV mcC wd_1389 wd_1391 wd_64 wd_81 wd_1392) rfl hdV_X11_layMaps rfl rfl ⟨Nat.le_of_ble_eq_true rfl, Nat.le_of_ble_eq_true rfl⟩ (c_X11_layMaps (zl Z) (zG Z) a_this a_firstNames a_names a_state a_readPage a_tape a_letters a_sums a_aside a_groups a_sides a_isKept a_lanes a_lengths a_cells a_had g_isAwake g_taped g_fault g_broken g_brokenAt g_spot g_here g_token g_value g_hasPlaces g_highest g_laid g_groupMany g_isDrawn g_torn g_firstNames g_names g_state ((32 : Int32) * (x1 + (1 : Int32))) hu2) rfl [0, 1, 3, 4] rfl rfl rfl (ci := 11) rfl rfl rfl (Nat.le_of_ble_eq_true rfl) dX11_maps_61 64 rfl (wn := [(a_this, .inr (11, [.ref a_state, .ref a_readPage, .int g_isAwake, .ref a_tape, .int g_taped, .int g_fault, .int g_broken, .int g_brokenAt, .int g_spot, .int g_here, .int g_token, .int g_value, .ref a_letters, .int g_hasPlaces, .int g_highest, .ref a_sums, .ref a_aside, .ref a_groups, .ref a_sides, .int g_laid, .int g_groupMany, .int g_isDrawn, .ref a_names, .ref a_firstNames, .ref a_isKept, .ref a_lanes, .ref a_lengths, .ref a_cells, .int g_torn, .ref a_had])), (a_firstNames, .inl ((zG Z).2.1 1, 7, .inl u2.2.1)), (a_isKept, .inl ((zG Z).2.1 2, 2, .inl g_isKept)), (a_names, .inl ((zG Z).2.1 1, 7, .inl u2.2.2)), (a_state, .inl ((zG Z).2.1 1, 96, .inl g_state))]) rfl (S' := [.int u2.1]) rfl ⟨Nat.zero_le _, Nat.zero_le _⟩ ?_
      refine rn_istore_n hX dX11_maps_64 3 rfl (by decide) (L' := [(3, .int u2.1), (0, .ref a_this), (1, .int x1), (2, .int x2)]) rfl 65 rfl ?_
      refine rn_iload_n hX dX11_maps_65 3 rfl 66 rfl ?_
      refine rn_if_ne hX dX11_maps_66 73 (by decide) 69 rfl ?_ ?_
      · refine rn_iload_n hX dX11_maps_73 0 rfl 74 rfl ?_
        refine rn_if_ne hX dX11_maps_74 82 (by decide) 77 rfl ?_ ?_
        · refine rn_aload_n hX dX11_maps_82 1 rfl 83 rfl ?_
          refine rn_get hX inX11 0 rfl rfl 23 (by decide) fl37 rfl rfl dX11_maps_83 86 rfl ?_
          refine rn_iload_n hX dX11_maps_86 3 rfl 87 rfl ?_
          refine rn_bipush hX dX11_maps_87 89 rfl bp_10 ?_
          refine rn_isub hX dX11_maps_89 90 rfl ?_
          refine rn_gd (fun hi3 => ?_)
          refine rn_iald hX 1 rfl hi3 dX11_maps_90 91 rfl ?_
          exact rn_iret hX hr (by rw [henc]; rfl) dX11_maps_91
        refine rn_bipush hX dX11_maps_77 79 rfl bp_m4 ?_
        refine rn_goto hX dX11_maps_79 91 (by decide) ?_
        exact rn_iret hX hr (by rw [henc]; rfl) dX11_maps_91
      refine rn_iload_n hX dX11_maps_69 0 rfl 70 rfl ?_
      refine rn_goto hX dX11_maps_70 91 (by decide) ?_
      exact rn_iret hX hr (by rw [henc]; rfl) dX11_maps_91
    refine rn_bipush hX dX11_maps_51 53 rfl bp_m2 ?_
    exact rn_iret hX hr (by rw [henc]; rfl) dX11_maps_53
  unfold X11_maps
  refine rn_aload_n hX dX11_maps_0 0 rfl 1 rfl ?_
  refine rn_lat (fun u4 hu4 => ?_)
  refine rn_callV hX (gV mcC wd_1152 wd_1154 wd_35 wd_81 wd_1155) rfl hdV_X11_awake rfl rfl ⟨Nat.le_of_ble_eq_true rfl, Nat.le_of_ble_eq_true rfl⟩ (c_X11_awake (zl Z) (zG Z) a_this a_state a_readPage a_tape a_letters a_sums a_aside a_groups a_sides a_names a_firstNames a_isKept a_lanes a_lengths a_cells a_had g_isAwake g_taped g_fault g_broken g_brokenAt g_spot g_here g_token g_value g_hasPlaces g_highest g_laid g_groupMany g_isDrawn g_torn g_state hu4) rfl [0, 4] rfl rfl rfl (ci := 11) rfl rfl rfl (Nat.le_of_ble_eq_true rfl) dX11_maps_1 4 rfl (wn := [(a_this, .inr (11, [.ref a_state, .ref a_readPage, .int u4.1, .ref a_tape, .int g_taped, .int g_fault, .int g_broken, .int g_brokenAt, .int g_spot, .int g_here, .int g_token, .int g_value, .ref a_letters, .int g_hasPlaces, .int g_highest, .ref a_sums, .ref a_aside, .ref a_groups, .ref a_sides, .int g_laid, .int g_groupMany, .int g_isDrawn, .ref a_names, .ref a_firstNames, .ref a_isKept, .ref a_lanes, .ref a_lengths, .ref a_cells, .int g_torn, .ref a_had])), (a_firstNames, .inl ((zG Z).2.1 1, 7, .inl g_firstNames)), (a_isKept, .inl ((zG Z).2.1 2, 2, .inl g_isKept)), (a_names, .inl ((zG Z).2.1 1, 7, .inl g_names)), (a_state, .inl ((zG Z).2.1 1, 96, .inl u4.2))]) rfl (S' := []) rfl ⟨Nat.zero_le _, Nat.zero_le _⟩ ?_
  refine rn_iload_n hX dX11_maps_4 1 rfl 5 rfl ?_
  refine rn_i2l hX dX11_maps_5 6 rfl ?_
  refine rn_lconst hX dX11_maps_6 7 rfl lc_0 ?_
  refine rn_lconst hX dX11_maps_7 8 rfl lc_1 ?_
  refine rn_callS0 hX (gS mcC wd_1090 wd_1091 wd_81 wd_1092) rfl hdS_X11_in rfl rfl ⟨Nat.le_of_ble_eq_true rfl, Nat.le_of_ble_eq_true rfl⟩ (c_X11_in (zl Z) (zG Z) x1.toInt64 (0 : Int64) (1 : Int64) rfl) rfl [] rfl rfl rfl (Nat.le_of_ble_eq_true rfl) dX11_maps_8 11 rfl (S' := [.int (X11_in x1.toInt64 (0 : Int64) (1 : Int64))]) rfl ⟨Nat.zero_le _, Nat.zero_le _⟩ ?_
  refine rn_if_eq hX dX11_maps_11 40 (by decide) 14 rfl ?_ ?_
  · refine rn_iconst hX dX11_maps_40 41 rfl ic_m1 ?_
    exact rn_iret hX hr (by rw [henc]; rfl) dX11_maps_41
  refine rn_iload_n hX dX11_maps_14 2 rfl 15 rfl ?_
  refine rn_if_eq hX dX11_maps_15 42 (by decide) 18 rfl ?_ ?_
  · exact hJ42 x1 x2 u4.1 g_firstNames g_names u4.2
  refine rn_iload_n hX dX11_maps_18 2 rfl 19 rfl ?_
  refine rn_i2l hX dX11_maps_19 20 rfl ?_
  refine rn_ldc2 hX kl265 dX11_maps_20 23 rfl ?_
  refine rn_bipush hX dX11_maps_23 25 rfl bp_9 ?_
  refine rn_aload_n hX dX11_maps_25 0 rfl 26 rfl ?_
  refine rn_get hX inX11 0 rfl rfl 0 (by decide) fl7 rfl rfl dX11_maps_26 29 rfl ?_
  refine rn_bipush hX dX11_maps_29 31 rfl bp_21 ?_
  refine rn_ialdk hX 4 rfl cl_21 (vpk (by decide)) dX11_maps_31 32 rfl ?_
  refine rn_iadd hX dX11_maps_32 33 rfl ?_
  refine rn_i2l hX dX11_maps_33 34 rfl ?_
  refine rn_callS0 hX (gS mcC wd_1090 wd_1091 wd_81 wd_1092) rfl hdS_X11_in rfl rfl ⟨Nat.le_of_ble_eq_true rfl, Nat.le_of_ble_eq_true rfl⟩ (c_X11_in (zl Z) (zG Z) x2.toInt64 (10 : Int64) (((9 : Int32) + (u4.2 21)).toInt64) rfl) rfl [] rfl rfl rfl (Nat.le_of_ble_eq_true rfl) dX11_maps_34 37 rfl (S' := [.int (X11_in x2.toInt64 (10 : Int64) (((9 : Int32) + (u4.2 21)).toInt64))]) rfl ⟨Nat.zero_le _, Nat.zero_le _⟩ ?_
  refine rn_if_ne hX dX11_maps_37 42 (by decide) 40 rfl ?_ ?_
  · exact hJ42 x1 x2 u4.1 g_firstNames g_names u4.2
  refine rn_iconst hX dX11_maps_40 41 rfl ic_m1 ?_
  exact rn_iret hX hr (by rw [henc]; rfl) dX11_maps_41
abbrev rmX11_part : Room := { frames := 1, cells := 0, slots := 0, locals := 25 }
theorem hdV_X11_part : yX11_part.cls = RX11 ∧ yX11_part.cls ≠ "java/lang/invoke/MethodHandle" ∧ yX11_part.cls ≠ "java/lang/invoke/VarHandle" ∧ (parseMethodDescriptor yX11_part.desc).map (fun d => d.parameters.length) = some 1 := by decide +kernel
set_option maxHeartbeats 4000000 in
set_option maxRecDepth 100000 in
theorem c_X11_part (l : Launch) (G : GT) (a_this a_state a_readPage a_tape a_letters a_sums a_aside a_groups a_sides a_names a_firstNames a_isKept a_lanes a_lengths a_cells a_had : Nat) (g_isAwake : Int32) (g_taped : Int32) (g_fault : Int32) (g_broken : Int32) (g_brokenAt : Int32) (g_spot : Int32) (g_here : Int32) (g_token : Int32) (g_value : Int32) (g_hasPlaces : Int32) (g_highest : Int32) (g_laid : Int32) (g_groupMany : Int32) (g_isDrawn : Int32) (g_torn : Int32) (g_state : (Nat → Int32)) (x1 : Int32) {u : Int32 × (Nat → Int32)} (hu : X11_part x1 g_state = some u) : Ctr l G yX11_part wsX11_part rmX11_part [.ref a_this, .int x1] [(a_this, .inr (11, [.ref a_state, .ref a_readPage, .int g_isAwake, .ref a_tape, .int g_taped, .int g_fault, .int g_broken, .int g_brokenAt, .int g_spot, .int g_here, .int g_token, .int g_value, .ref a_letters, .int g_hasPlaces, .int g_highest, .ref a_sums, .ref a_aside, .ref a_groups, .ref a_sides, .int g_laid, .int g_groupMany, .int g_isDrawn, .ref a_names, .ref a_firstNames, .ref a_isKept, .ref a_lanes, .ref a_lengths, .ref a_cells, .int g_torn, .ref a_had])), (a_state, .inl (G.2.1 1, 96, .inl g_state))] (some (.int u.1)) [(a_this, .inr (11, [.ref a_state, .ref a_readPage, .int g_isAwake, .ref a_tape, .int g_taped, .int g_fault, .int g_broken, .int g_brokenAt, .int g_spot, .int g_here, .int g_token, .int g_value, .ref a_letters, .int g_hasPlaces, .int g_highest, .ref a_sums, .ref a_aside, .ref a_groups, .ref a_sides, .int g_laid, .int g_groupMany, .int g_isDrawn, .ref a_names, .ref a_firstNames, .ref a_isKept, .ref a_lanes, .ref a_lengths, .ref a_cells, .int g_torn, .ref a_had])), (a_state, .inl (G.2.1 1, 96, .inl u.2))] := by
  obtain ⟨enc, henc⟩ : ∃ enc : (Int32 × (Nat → Int32)) → Option Value × va_W, enc = fun u => (((some (.int u.1)) : Option Value), ([(a_this, .inr (11, [.ref a_state, .ref a_readPage, .int g_isAwake, .ref a_tape, .int g_taped, .int g_fault, .int g_broken, .int g_brokenAt, .int g_spot, .int g_here, .int g_token, .int g_value, .ref a_letters, .int g_hasPlaces, .int g_highest, .ref a_sums, .ref a_aside, .ref a_groups, .ref a_sides, .int g_laid, .int g_groupMany, .int g_isDrawn, .ref a_names, .ref a_firstNames, .ref a_isKept, .ref a_lanes, .ref a_lengths, .ref a_cells, .int g_torn, .ref a_had])), (a_state, .inl (G.2.1 1, 96, .inl u.2))] : va_W)) := ⟨_, rfl⟩
  refine ctr_of (cc := cX11_part) (own := RX11) (E := Option.map enc) (o := X11_part x1 g_state) (by decide) rfl rfl (L := [(0, .ref a_this), (1, .int x1)]) rfl (Nat.le_of_ble_eq_true rfl) (by rw [hu, henc]; rfl) ?_
  intro Z hX hl hG hr
  subst hl; subst hG
  have fl7 : (Cond.fieldLink RX11 7 "OnlyFarModel" "state" "[I").before (za Z) (zs Z) = true := hX.wd (mcC _ wd_990)
  have kl292 : (Cond.constantLong RX11 292 (99)).before (za Z) (zs Z) = true := hX.wd (mcC _ wd_1401)
  have inX11 : ∀ w ∈ u_ws RX11 TX11 30, w ∈ wsX11_part := fun w h => mcC w (inC_X11 w h)
  unfold X11_part
  refine rn_iload_n hX dX11_part_0 1 rfl 1 rfl ?_
  refine rn_i2l hX dX11_part_1 2 rfl ?_
  refine rn_lconst hX dX11_part_2 3 rfl lc_1 ?_
  refine rn_ldc2 hX kl292 dX11_part_3 6 rfl ?_
  refine rn_callS0 hX (gS mcC wd_1090 wd_1091 wd_81 wd_1092) rfl hdS_X11_in rfl rfl ⟨Nat.le_of_ble_eq_true rfl, Nat.le_of_ble_eq_true rfl⟩ (c_X11_in (zl Z) (zG Z) x1.toInt64 (1 : Int64) (99 : Int64) rfl) rfl [] rfl rfl rfl (Nat.le_of_ble_eq_true rfl) dX11_part_6 9 rfl (S' := [.int (X11_in x1.toInt64 (1 : Int64) (99 : Int64))]) rfl ⟨Nat.zero_le _, Nat.zero_le _⟩ ?_
  refine rn_if_ne hX dX11_part_9 14 (by decide) 12 rfl ?_ ?_
  · refine rn_aload_n hX dX11_part_14 0 rfl 15 rfl ?_
    refine rn_get hX inX11 0 rfl rfl 0 (by decide) fl7 rfl rfl dX11_part_15 18 rfl ?_
    refine rn_bipush hX dX11_part_18 20 rfl bp_30 ?_
    refine rn_ialdk hX 1 rfl cl_30 (vpk (by decide)) dX11_part_20 21 rfl ?_
    refine rn_bipush hX dX11_part_21 23 rfl bp_8 ?_
    refine rn_icmp_ne hX dX11_part_23 29 (by decide) 26 rfl ?_ ?_
    · refine rn_aload_n hX dX11_part_29 0 rfl 30 rfl ?_
      refine rn_get hX inX11 0 rfl rfl 0 (by decide) fl7 rfl rfl dX11_part_30 33 rfl ?_
      refine rn_bipush hX dX11_part_33 35 rfl bp_22 ?_
      refine rn_aload_n hX dX11_part_35 0 rfl 36 rfl ?_
      refine rn_get hX inX11 0 rfl rfl 0 (by decide) fl7 rfl rfl dX11_part_36 39 rfl ?_
      refine rn_bipush hX dX11_part_39 41 rfl bp_30 ?_
      refine rn_ialdk hX 1 rfl cl_30 (vpk (by decide)) dX11_part_41 42 rfl ?_
      refine rn_iadd hX dX11_part_42 43 rfl ?_
      refine rn_iload_n hX dX11_part_43 1 rfl 44 rfl ?_
      refine rn_gd (fun hi1 => ?_)
      refine rn_iast hX 1 rfl hi1 dX11_part_44 45 rfl (w1 := fun m2 => [(a_this, .inr (11, [.ref a_state, .ref a_readPage, .int g_isAwake, .ref a_tape, .int g_taped, .int g_fault, .int g_broken, .int g_brokenAt, .int g_spot, .int g_here, .int g_token, .int g_value, .ref a_letters, .int g_hasPlaces, .int g_highest, .ref a_sums, .ref a_aside, .ref a_groups, .ref a_sides, .int g_laid, .int g_groupMany, .int g_isDrawn, .ref a_names, .ref a_firstNames, .ref a_isKept, .ref a_lanes, .ref a_lengths, .ref a_cells, .int g_torn, .ref a_had])), (a_state, .inl ((zG Z).2.1 1, 96, .inl m2))]) (fun _ => rfl) (fun m2 => ?_)
      refine rn_aload_n hX dX11_part_45 0 rfl 46 rfl ?_
      refine rn_get hX inX11 0 rfl rfl 0 (by decide) fl7 rfl rfl dX11_part_46 49 rfl ?_
      refine rn_bipush hX dX11_part_49 51 rfl bp_30 ?_
      refine rn_dup2 hX dX11_part_51 52 rfl rfl rfl ?_
      refine rn_ialdk hX 1 rfl cl_30 (vpk (by decide)) dX11_part_52 53 rfl ?_
      refine rn_iconst hX dX11_part_53 54 rfl ic_1 ?_
      refine rn_iadd hX dX11_part_54 55 rfl ?_
      refine rn_iastk hX 1 rfl cl_30 (vpk (by decide)) dX11_part_55 56 rfl (w1 := fun m3 => [(a_this, .inr (11, [.ref a_state, .ref a_readPage, .int g_isAwake, .ref a_tape, .int g_taped, .int g_fault, .int g_broken, .int g_brokenAt, .int g_spot, .int g_here, .int g_token, .int g_value, .ref a_letters, .int g_hasPlaces, .int g_highest, .ref a_sums, .ref a_aside, .ref a_groups, .ref a_sides, .int g_laid, .int g_groupMany, .int g_isDrawn, .ref a_names, .ref a_firstNames, .ref a_isKept, .ref a_lanes, .ref a_lengths, .ref a_cells, .int g_torn, .ref a_had])), (a_state, .inl ((zG Z).2.1 1, 96, .inl m3))]) (fun _ => rfl) (fun m3 => ?_)
      refine rn_aload_n hX dX11_part_56 0 rfl 57 rfl ?_
      refine rn_get hX inX11 0 rfl rfl 0 (by decide) fl7 rfl rfl dX11_part_57 60 rfl ?_
      refine rn_bipush hX dX11_part_60 62 rfl bp_30 ?_
      refine rn_ialdk hX 1 rfl cl_30 (vpk (by decide)) dX11_part_62 63 rfl ?_
      exact rn_iret hX hr (by rw [henc]; rfl) dX11_part_63
    refine rn_bipush hX dX11_part_26 28 rfl bp_m3 ?_
    exact rn_iret hX hr (by rw [henc]; rfl) dX11_part_28
  refine rn_iconst hX dX11_part_12 13 rfl ic_m1 ?_
  exact rn_iret hX hr (by rw [henc]; rfl) dX11_part_13
abbrev rmX11_clear : Room := { frames := 0, cells := 0, slots := 0, locals := 0 }
theorem hdV_X11_clear : yX11_clear.cls = RX11 ∧ yX11_clear.cls ≠ "java/lang/invoke/MethodHandle" ∧ yX11_clear.cls ≠ "java/lang/invoke/VarHandle" ∧ (parseMethodDescriptor yX11_clear.desc).map (fun d => d.parameters.length) = some 0 := by decide +kernel
set_option maxHeartbeats 4000000 in
set_option maxRecDepth 100000 in
theorem c_X11_clear (l : Launch) (G : GT) (a_this a_state a_readPage a_tape a_letters a_sums a_aside a_groups a_sides a_names a_firstNames a_isKept a_lanes a_lengths a_cells a_had : Nat) (g_isAwake : Int32) (g_taped : Int32) (g_fault : Int32) (g_broken : Int32) (g_brokenAt : Int32) (g_spot : Int32) (g_here : Int32) (g_token : Int32) (g_value : Int32) (g_hasPlaces : Int32) (g_highest : Int32) (g_laid : Int32) (g_groupMany : Int32) (g_isDrawn : Int32) (g_torn : Int32) (g_state : (Nat → Int32)) {u : Int32 × (Nat → Int32)} (hu : X11_clear g_state = u) : Ctr l G yX11_clear wsX11_clear rmX11_clear [.ref a_this] [(a_this, .inr (11, [.ref a_state, .ref a_readPage, .int g_isAwake, .ref a_tape, .int g_taped, .int g_fault, .int g_broken, .int g_brokenAt, .int g_spot, .int g_here, .int g_token, .int g_value, .ref a_letters, .int g_hasPlaces, .int g_highest, .ref a_sums, .ref a_aside, .ref a_groups, .ref a_sides, .int g_laid, .int g_groupMany, .int g_isDrawn, .ref a_names, .ref a_firstNames, .ref a_isKept, .ref a_lanes, .ref a_lengths, .ref a_cells, .int g_torn, .ref a_had])), (a_state, .inl (G.2.1 1, 96, .inl g_state))] (some (.int u.1)) [(a_this, .inr (11, [.ref a_state, .ref a_readPage, .int g_isAwake, .ref a_tape, .int g_taped, .int g_fault, .int g_broken, .int g_brokenAt, .int g_spot, .int g_here, .int g_token, .int g_value, .ref a_letters, .int g_hasPlaces, .int g_highest, .ref a_sums, .ref a_aside, .ref a_groups, .ref a_sides, .int g_laid, .int g_groupMany, .int g_isDrawn, .ref a_names, .ref a_firstNames, .ref a_isKept, .ref a_lanes, .ref a_lengths, .ref a_cells, .int g_torn, .ref a_had])), (a_state, .inl (G.2.1 1, 96, .inl u.2))] := by
  obtain ⟨enc, henc⟩ : ∃ enc : (Int32 × (Nat → Int32)) → Option Value × va_W, enc = fun u => (((some (.int u.1)) : Option Value), ([(a_this, .inr (11, [.ref a_state, .ref a_readPage, .int g_isAwake, .ref a_tape, .int g_taped, .int g_fault, .int g_broken, .int g_brokenAt, .int g_spot, .int g_here, .int g_token, .int g_value, .ref a_letters, .int g_hasPlaces, .int g_highest, .ref a_sums, .ref a_aside, .ref a_groups, .ref a_sides, .int g_laid, .int g_groupMany, .int g_isDrawn, .ref a_names, .ref a_firstNames, .ref a_isKept, .ref a_lanes, .ref a_lengths, .ref a_cells, .int g_torn, .ref a_had])), (a_state, .inl (G.2.1 1, 96, .inl u.2))] : va_W)) := ⟨_, rfl⟩
  refine ctr_of (cc := cX11_clear) (own := RX11) (E := fun o => some (enc o)) (o := X11_clear g_state) (by decide) rfl rfl (L := [(0, .ref a_this)]) rfl (Nat.le_of_ble_eq_true rfl) (by rw [hu, henc]) ?_
  intro Z hX hl hG hr
  subst hl; subst hG
  have fl7 : (Cond.fieldLink RX11 7 "OnlyFarModel" "state" "[I").before (za Z) (zs Z) = true := hX.wd (mcC _ wd_990)
  have inX11 : ∀ w ∈ u_ws RX11 TX11 30, w ∈ wsX11_clear := fun w h => mcC w (inC_X11 w h)
  unfold X11_clear
  refine rn_aload_n hX dX11_clear_0 0 rfl 1 rfl ?_
  refine rn_get hX inX11 0 rfl rfl 0 (by decide) fl7 rfl rfl dX11_clear_1 4 rfl ?_
  refine rn_bipush hX dX11_clear_4 6 rfl bp_30 ?_
  refine rn_ialdk hX 1 rfl cl_30 (vpk (by decide)) dX11_clear_6 7 rfl ?_
  refine rn_lati (fun v1 => ?_)
  refine rn_istore_n hX dX11_clear_7 1 rfl (by decide) (L' := [(1, .int v1), (0, .ref a_this)]) rfl 8 rfl ?_
  refine rn_aload_n hX dX11_clear_8 1 rfl 9 rfl ?_
  refine rn_get hX inX11 0 rfl rfl 0 (by decide) fl7 rfl rfl dX11_clear_9 12 rfl ?_
  refine rn_bipush hX dX11_clear_12 14 rfl bp_30 ?_
  refine rn_iconst hX dX11_clear_14 15 rfl ic_0 ?_
  refine rn_iastk hX 1 rfl cl_30 (vpk (by decide)) dX11_clear_15 16 rfl (w1 := fun m2 => [(a_this, .inr (11, [.ref a_state, .ref a_readPage, .int g_isAwake, .ref a_tape, .int g_taped, .int g_fault, .int g_broken, .int g_brokenAt, .int g_spot, .int g_here, .int g_token, .int g_value, .ref a_letters, .int g_hasPlaces, .int g_highest, .ref a_sums, .ref a_aside, .ref a_groups, .ref a_sides, .int g_laid, .int g_groupMany, .int g_isDrawn, .ref a_names, .ref a_firstNames, .ref a_isKept, .ref a_lanes, .ref a_lengths, .ref a_cells, .int g_torn, .ref a_had])), (a_state, .inl ((zG Z).2.1 1, 96, .inl m2))]) (fun _ => rfl) (fun m2 => ?_)
  refine rn_iload_n hX dX11_clear_16 0 rfl 17 rfl ?_
  exact rn_iret hX hr (by rw [henc]) dX11_clear_17
