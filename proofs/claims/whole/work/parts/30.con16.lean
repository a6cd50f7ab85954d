abbrev rmX11_doubt : Room := { frames := 6, cells := 0, slots := 0, locals := 152 }
theorem hdV_X11_doubt : yX11_doubt.cls = RX11 ∧ yX11_doubt.cls ≠ "java/lang/invoke/MethodHandle" ∧ yX11_doubt.cls ≠ "java/lang/invoke/VarHandle" ∧ (parseMethodDescriptor yX11_doubt.desc).map (fun d => d.parameters.length) = some 1 := by decide +kernel
set_option maxHeartbeats 4000000 in
set_option maxRecDepth 100000 in
theorem c_X11_doubt (l : Launch) (G : GT) (a_this a_state a_sums a_readPage a_tape a_letters a_aside a_groups a_sides a_names a_firstNames a_isKept a_lanes a_lengths a_cells a_had : Nat) (g_isAwake : Int32) (g_taped : Int32) (g_fault : Int32) (g_broken : Int32) (g_brokenAt : Int32) (g_spot : Int32) (g_here : Int32) (g_token : Int32) (g_value : Int32) (g_hasPlaces : Int32) (g_highest : Int32) (g_laid : Int32) (g_groupMany : Int32) (g_isDrawn : Int32) (g_torn : Int32) (g_state : (Nat → Int32)) (g_sums : (Nat → Int32)) (x1 : Int32) {u : Int32 × Int32 × (Nat → Int32) × (Nat → Int32)} (hu : X11_doubt x1 g_isAwake g_state g_sums = some u) : Ctr l G yX11_doubt wsX11_doubt rmX11_doubt [.ref a_this, .int x1] [(a_this, .inr (11, [.ref a_state, .ref a_readPage, .int g_isAwake, .ref a_tape, .int g_taped, .int g_fault, .int g_broken, .int g_brokenAt, .int g_spot, .int g_here, .int g_token, .int g_value, .ref a_letters, .int g_hasPlaces, .int g_highest, .ref a_sums, .ref a_aside, .ref a_groups, .ref a_sides, .int g_laid, .int g_groupMany, .int g_isDrawn, .ref a_names, .ref a_firstNames, .ref a_isKept, .ref a_lanes, .ref a_lengths, .ref a_cells, .int g_torn, .ref a_had])), (a_state, .inl (G.2.1 1, 96, .inl g_state)), (a_sums, .inl (G.2.1 1, 4, .inl g_sums))] (some (.int u.1)) [(a_this, .inr (11, [.ref a_state, .ref a_readPage, .int u.2.1, .ref a_tape, .int g_taped, .int g_fault, .int g_broken, .int g_brokenAt, .int g_spot, .int g_here, .int g_token, .int g_value, .ref a_letters, .int g_hasPlaces, .int g_highest, .ref a_sums, .ref a_aside, .ref a_groups, .ref a_sides, .int g_laid, .int g_groupMany, .int g_isDrawn, .ref a_names, .ref a_firstNames, .ref a_isKept, .ref a_lanes, .ref a_lengths, .ref a_cells, .int g_torn, .ref a_had])), (a_state, .inl (G.2.1 1, 96, .inl u.2.2.1)), (a_sums, .inl (G.2.1 1, 4, .inl u.2.2.2))] := by
  obtain ⟨enc, henc⟩ : ∃ enc : (Int32 × Int32 × (Nat → Int32) × (Nat → Int32)) → Option Value × va_W, enc = fun u => (((some (.int u.1)) : Option Value), ([(a_this, .inr (11, [.ref a_state, .ref a_readPage, .int u.2.1, .ref a_tape, .int g_taped, .int g_fault, .int g_broken, .int g_brokenAt, .int g_spot, .int g_here, .int g_token, .int g_value, .ref a_letters, .int g_hasPlaces, .int g_highest, .ref a_sums, .ref a_aside, .ref a_groups, .ref a_sides, .int g_laid, .int g_groupMany, .int g_isDrawn, .ref a_names, .ref a_firstNames, .ref a_isKept, .ref a_lanes, .ref a_lengths, .ref a_cells, .int g_torn, .ref a_had])), (a_state, .inl (G.2.1 1, 96, .inl u.2.2.1)), (a_sums, .inl (G.2.1 1, 4, .inl u.2.2.2))] : va_W)) := ⟨_, rfl⟩
  refine ctr_of (cc := cX11_doubt) (own := RX11) (E := Option.map enc) (o := X11_doubt x1 g_isAwake g_state g_sums) (by decide) rfl rfl (L := [(0, .ref a_this), (1, .int x1)]) rfl (Nat.le_of_ble_eq_true rfl) (by rw [hu, henc]; rfl) ?_
  intro Z hX hl hG hr
  subst hl; subst hG
  have fl22 : (Cond.fieldLink RX11 22 "OnlyFarModel" "sums" "[I").before (za Z) (zs Z) = true := hX.wd (mcC _ wd_1005)
  have fl7 : (Cond.fieldLink RX11 7 "OnlyFarModel" "state" "[I").before (za Z) (zs Z) = true := hX.wd (mcC _ wd_990)
  have inX11 : ∀ w ∈ u_ws RX11 TX11 30, w ∈ wsX11_doubt := fun w h => mcC w (inC_X11 w h)
  have hJ152 : ∀ (x1 : Int32) (x2 : Int32) (x3 : Int32) (x4 : Int32) (g_isAwake : Int32) (g_state : (Nat → Int32)) (g_sums : (Nat → Int32)), Rn Z 7 (Option.map enc) 0 0 152 [(1, .int x1), (2, .int x2), (3, .int x3), (4, .int x4)] [] [(a_this, .inr (11, [.ref a_state, .ref a_readPage, .int g_isAwake, .ref a_tape, .int g_taped, .int g_fault, .int g_broken, .int g_brokenAt, .int g_spot, .int g_here, .int g_token, .int g_value, .ref a_letters, .int g_hasPlaces, .int g_highest, .ref a_sums, .ref a_aside, .ref a_groups, .ref a_sides, .int g_laid, .int g_groupMany, .int g_isDrawn, .ref a_names, .ref a_firstNames, .ref a_isKept, .ref a_lanes, .ref a_lengths, .ref a_cells, .int g_torn, .ref a_had])), (a_state, .inl ((zG Z).2.1 1, 96, .inl g_state)), (a_sums, .inl ((zG Z).2.1 1, 4, .inl g_sums))] (X11_doubt_J152 x1 x2 x3 x4 g_isAwake g_state g_sums) := by
    intro x1 x2 x3 x4 g_isAwake g_state g_sums
    unfold X11_doubt_J152
    refine rn_iload hX dX11_doubt_152 3 rfl 154 rfl ?_
    refine rn_bipush hX dX11_doubt_154 156 rfl bp_m4 ?_
    refine rn_icmp_eq hX dX11_doubt_156 163 (by decide) 159 rfl ?_ ?_
    · refine rn_iload hX dX11_doubt_163 3 rfl 165 rfl ?_
      refine rn_goto hX dX11_doubt_165 171 (by decide) ?_
      exact rn_iret hX hr (by rw [henc]; rfl) dX11_doubt_171
    refine rn_iload_n hX dX11_doubt_159 0 rfl 160 rfl ?_
    refine rn_if_ne hX dX11_doubt_160 168 (by decide) 163 rfl ?_ ?_
    · refine rn_iload_n hX dX11_doubt_168 1 rfl 169 rfl ?_
      refine rn_iload_n hX dX11_doubt_169 2 rfl 170 rfl ?_
      refine rn_isub hX dX11_doubt_170 171 rfl ?_
      exact rn_iret hX hr (by rw [henc]; rfl) dX11_doubt_171
    refine rn_iload hX dX11_doubt_163 3 rfl 165 rfl ?_
    refine rn_goto hX dX11_doubt_165 171 (by decide) ?_
    exact rn_iret hX hr (by rw [henc]; rfl) dX11_doubt_171
  have hJ146 : ∀ (again : Int32 → Int32 → Int32 → Int32 → Int32 → Int32 → (Nat → Int32) → (Nat → Int32) → Option (Int32 × Int32 × (Nat → Int32) × (Nat → Int32))) (k152 : Int32 → Int32 → Int32 → Int32 → Int32 → (Nat → Int32) → (Nat → Int32) → Option (Int32 × Int32 × (Nat → Int32) × (Nat → Int32))) (hagain : ∀ (x1 : Int32) (x2 : Int32) (x3 : Int32) (x4 : Int32) (x5 : Int32) (g_isAwake : Int32) (g_state : (Nat → Int32)) (g_sums : (Nat → Int32)), Rn Z 7 (Option.map enc) 0 0 43 [(0, .ref a_this), (1, .int x1), (2, .int x2), (3, .int x3), (4, .int x4), (5, .int x5)] [] [(a_this, .inr (11, [.ref a_state, .ref a_readPage, .int g_isAwake, .ref a_tape, .int g_taped, .int g_fault, .int g_broken, .int g_brokenAt, .int g_spot, .int g_here, .int g_token, .int g_value, .ref a_letters, .int g_hasPlaces, .int g_highest, .ref a_sums, .ref a_aside, .ref a_groups, .ref a_sides, .int g_laid, .int g_groupMany, .int g_isDrawn, .ref a_names, .ref a_firstNames, .ref a_isKept, .ref a_lanes, .ref a_lengths, .ref a_cells, .int g_torn, .ref a_had])), (a_state, .inl ((zG Z).2.1 1, 96, .inl g_state)), (a_sums, .inl ((zG Z).2.1 1, 4, .inl g_sums))] (again x1 x2 x3 x4 x5 g_isAwake g_state g_sums)) (hk152 : ∀ (x1 : Int32) (x2 : Int32) (x3 : Int32) (x4 : Int32) (g_isAwake : Int32) (g_state : (Nat → Int32)) (g_sums : (Nat → Int32)), Rn Z 7 (Option.map enc) 0 0 152 [(1, .int x1), (2, .int x2), (3, .int x3), (4, .int x4)] [] [(a_this, .inr (11, [.ref a_state, .ref a_readPage, .int g_isAwake, .ref a_tape, .int g_taped, .int g_fault, .int g_broken, .int g_brokenAt, .int g_spot, .int g_here, .int g_token, .int g_value, .ref a_letters, .int g_hasPlaces, .int g_highest, .ref a_sums, .ref a_aside, .ref a_groups, .ref a_sides, .int g_laid, .int g_groupMany, .int g_isDrawn, .ref a_names, .ref a_firstNames, .ref a_isKept, .ref a_lanes, .ref a_lengths, .ref a_cells, .int g_torn, .ref a_had])), (a_state, .inl ((zG Z).2.1 1, 96, .inl g_state)), (a_sums, .inl ((zG Z).2.1 1, 4, .inl g_sums))] (k152 x1 x2 x3 x4 g_isAwake g_state g_sums)) (x1 : Int32) (x2 : Int32) (x3 : Int32) (x4 : Int32) (x5 : Int32) (g_isAwake : Int32) (g_state : (Nat → Int32)) (g_sums : (Nat → Int32)), Rn Z 7 (Option.map enc) 0 0 146 [(0, .ref a_this), (1, .int x1), (2, .int x2), (3, .int x3), (4, .int x4), (5, .int x5)] [] [(a_this, .inr (11, [.ref a_state, .ref a_readPage, .int g_isAwake, .ref a_tape, .int g_taped, .int g_fault, .int g_broken, .int g_brokenAt, .int g_spot, .int g_here, .int g_token, .int g_value, .ref a_letters, .int g_hasPlaces, .int g_highest, .ref a_sums, .ref a_aside, .ref a_groups, .ref a_sides, .int g_laid, .int g_groupMany, .int g_isDrawn, .ref a_names, .ref a_firstNames, .ref a_isKept, .ref a_lanes, .ref a_lengths, .ref a_cells, .int g_torn, .ref a_had])), (a_state, .inl ((zG Z).2.1 1, 96, .inl g_state)), (a_sums, .inl ((zG Z).2.1 1, 4, .inl g_sums))] (X11_doubt_J146 again k152 x1 x2 x3 x4 x5 g_isAwake g_state g_sums) := by
    intro again k152 hagain hk152 x1 x2 x3 x4 x5 g_isAwake g_state g_sums
    unfold X11_doubt_J146
    refine rn_iinc hX dX11_doubt_146 5 rfl ic_1 (by decide) (L' := fun v1 => [(5, .int v1), (0, .ref a_this), (1, .int x1), (2, .int x2), (3, .int x3), (4, .int x4)]) (fun _ => rfl) 149 rfl (fun v1 => ?_)
    refine rn_goto hX dX11_doubt_149 43 (by decide) ?_
    refine rn_sub [1, 2, 3, 4, 5, 0] rfl ?_
    exact hagain x1 x2 x3 x4 v1 g_isAwake g_state g_sums
  have hJ145 : ∀ (again : Int32 → Int32 → Int32 → Int32 → Int32 → Int32 → (Nat → Int32) → (Nat → Int32) → Option (Int32 × Int32 × (Nat → Int32) × (Nat → Int32))) (k152 : Int32 → Int32 → Int32 → Int32 → Int32 → (Nat → Int32) → (Nat → Int32) → Option (Int32 × Int32 × (Nat → Int32) × (Nat → Int32))) (hagain : ∀ (x1 : Int32) (x2 : Int32) (x3 : Int32) (x4 : Int32) (x5 : Int32) (g_isAwake : Int32) (g_state : (Nat → Int32)) (g_sums : (Nat → Int32)), Rn Z 7 (Option.map enc) 0 0 43 [(0, .ref a_this), (1, .int x1), (2, .int x2), (3, .int x3), (4, .int x4), (5, .int x5)] [] [(a_this, .inr (11, [.ref a_state, .ref a_readPage, .int g_isAwake, .ref a_tape, .int g_taped, .int g_fault, .int g_broken, .int g_brokenAt, .int g_spot, .int g_here, .int g_token, .int g_value, .ref a_letters, .int g_hasPlaces, .int g_highest, .ref a_sums, .ref a_aside, .ref a_groups, .ref a_sides, .int g_laid, .int g_groupMany, .int g_isDrawn, .ref a_names, .ref a_firstNames, .ref a_isKept, .ref a_lanes, .ref a_lengths, .ref a_cells, .int g_torn, .ref a_had])), (a_state, .inl ((zG Z).2.1 1, 96, .inl g_state)), (a_sums, .inl ((zG Z).2.1 1, 4, .inl g_sums))] (again x1 x2 x3 x4 x5 g_isAwake g_state g_sums)) (hk152 : ∀ (x1 : Int32) (x2 : Int32) (x3 : Int32) (x4 : Int32) (g_isAwake : Int32) (g_state : (Nat → Int32)) (g_sums : (Nat → Int32)), Rn Z 7 (Option.map enc) 0 0 152 [(1, .int x1), (2, .int x2), (3, .int x3), (4, .int x4)] [] [(a_this, .inr (11, [.ref a_state, .ref a_readPage, .int g_isAwake, .ref a_tape, .int g_taped, .int g_fault, .int g_broken, .int g_brokenAt, .int g_spot, .int g_here, .int g_token, .int g_value, .ref a_letters, .int g_hasPlaces, .int g_highest, .ref a_sums, .ref a_aside, .ref a_groups, .ref a_sides, .int g_laid, .int g_groupMany, .int g_isDrawn, .ref a_names, .ref a_firstNames, .ref a_isKept, .ref a_lanes, .ref a_lengths, .ref a_cells, .int g_torn, .ref a_had])), (a_state, .inl ((zG Z).2.1 1, 96, .inl g_state)), (a_sums, .inl ((zG Z).2.1 1, 4, .inl g_sums))] (k152 x1 x2 x3 x4 g_isAwake g_state g_sums)) (x1 : Int32) (x2 : Int32) (x4 : Int32) (x5 : Int32) (s0 : Int32) (g_isAwake : Int32) (g_state : (Nat → Int32)) (g_sums : (Nat → Int32)), Rn Z 7 (Option.map enc) 0 0 145 [(0, .ref a_this), (1, .int x1), (2, .int x2), (4, .int x4), (5, .int x5)] [.int s0] [(a_this, .inr (11, [.ref a_state, .ref a_readPage, .int g_isAwake, .ref a_tape, .int g_taped, .int g_fault, .int g_broken, .int g_brokenAt, .int g_spot, .int g_here, .int g_token, .int g_value, .ref a_letters, .int g_hasPlaces, .int g_highest, .ref a_sums, .ref a_aside, .ref a_groups, .ref a_sides, .int g_laid, .int g_groupMany, .int g_isDrawn, .ref a_names, .ref a_firstNames, .ref a_isKept, .ref a_lanes, .ref a_lengths, .ref a_cells, .int g_torn, .ref a_had])), (a_state, .inl ((zG Z).2.1 1, 96, .inl g_state)), (a_sums, .inl ((zG Z).2.1 1, 4, .inl g_sums))] (X11_doubt_J145 again k152 x1 x2 x4 x5 s0 g_isAwake g_state g_sums) := by
    intro again k152 hagain hk152 x1 x2 x4 x5 s0 g_isAwake g_state g_sums
    unfold X11_doubt_J145
    refine rn_istore_n hX dX11_doubt_145 3 rfl (by decide) (L' := [(3, .int s0), (0, .ref a_this), (1, .int x1), (2, .int x2), (4, .int x4), (5, .int x5)]) rfl 146 rfl ?_
    refine rn_sub [1, 2, 3, 0, 4, 5] rfl ?_
    exact (hJ146 _ _ hagain hk152) x1 x2 s0 x4 x5 g_isAwake g_state g_sums
  have hJ109 : ∀ (again : Int32 → Int32 → Int32 → Int32 → Int32 → Int32 → (Nat → Int32) → (Nat → Int32) → Option (Int32 × Int32 × (Nat → Int32) × (Nat → Int32))) (k152 : Int32 → Int32 → Int32 → Int32 → Int32 → (Nat → Int32) → (Nat → Int32) → Option (Int32 × Int32 × (Nat → Int32) × (Nat → Int32))) (hagain : ∀ (x1 : Int32) (x2 : Int32) (x3 : Int32) (x4 : Int32) (x5 : Int32) (g_isAwake : Int32) (g_state : (Nat → Int32)) (g_sums : (Nat → Int32)), Rn Z 7 (Option.map enc) 0 0 43 [(0, .ref a_this), (1, .int x1), (2, .int x2), (3, .int x3), (4, .int x4), (5, .int x5)] [] [(a_this, .inr (11, [.ref a_state, .ref a_readPage, .int g_isAwake, .ref a_tape, .int g_taped, .int g_fault, .int g_broken, .int g_brokenAt, .int g_spot, .int g_here, .int g_token, .int g_value, .ref a_letters, .int g_hasPlaces, .int g_highest, .ref a_sums, .ref a_aside, .ref a_groups, .ref a_sides, .int g_laid, .int g_groupMany, .int g_isDrawn, .ref a_names, .ref a_firstNames, .ref a_isKept, .ref a_lanes, .ref a_lengths, .ref a_cells, .int g_torn, .ref a_had])), (a_state, .inl ((zG Z).2.1 1, 96, .inl g_state)), (a_sums, .inl ((zG Z).2.1 1, 4, .inl g_sums))] (again x1 x2 x3 x4 x5 g_isAwake g_state g_sums)) (hk152 : ∀ (x1 : Int32) (x2 : Int32) (x3 : Int32) (x4 : Int32) (g_isAwake : Int32) (g_state : (Nat → Int32)) (g_sums : (Nat → Int32)), Rn Z 7 (Option.map enc) 0 0 152 [(1, .int x1), (2, .int x2), (3, .int x3), (4, .int x4)] [] [(a_this, .inr (11, [.ref a_state, .ref a_readPage, .int g_isAwake, .ref a_tape, .int g_taped, .int g_fault, .int g_broken, .int g_brokenAt, .int g_spot, .int g_here, .int g_token, .int g_value, .ref a_letters, .int g_hasPlaces, .int g_highest, .ref a_sums, .ref a_aside, .ref a_groups, .ref a_sides, .int g_laid, .int g_groupMany, .int g_isDrawn, .ref a_names, .ref a_firstNames, .ref a_isKept, .ref a_lanes, .ref a_lengths, .ref a_cells, .int g_torn, .ref a_had])), (a_state, .inl ((zG Z).2.1 1, 96, .inl g_state)), (a_sums, .inl ((zG Z).2.1 1, 4, .inl g_sums))] (k152 x1 x2 x3 x4 g_isAwake g_state g_sums)) (x1 : Int32) (x2 : Int32) (x3 : Int32) (x5 : Int32) (s0 : Int32) (g_isAwake : Int32) (g_state : (Nat → Int32)) (g_sums : (Nat → Int32)), Rn Z 7 (Option.map enc) 0 0 109 [(0, .ref a_this), (1, .int x1), (2, .int x2), (3, .int x3), (5, .int x5)] [.int s0] [(a_this, .inr (11, [.ref a_state, .ref a_readPage, .int g_isAwake, .ref a_tape, .int g_taped, .int g_fault, .int g_broken, .int g_brokenAt, .int g_spot, .int g_here, .int g_token, .int g_value, .ref a_letters, .int g_hasPlaces, .int g_highest, .ref a_sums, .ref a_aside, .ref a_groups, .ref a_sides, .int g_laid, .int g_groupMany, .int g_isDrawn, .ref a_names, .ref a_firstNames, .ref a_isKept, .ref a_lanes, .ref a_lengths, .ref a_cells, .int g_torn, .ref a_had])), (a_state, .inl ((zG Z).2.1 1, 96, .inl g_state)), (a_sums, .inl ((zG Z).2.1 1, 4, .inl g_sums))] (X11_doubt_J109 again k152 x1 x2 x3 x5 s0 g_isAwake g_state g_sums) := by
    intro again k152 hagain hk152 x1 x2 x3 x5 s0 g_isAwake g_state g_sums
    unfold X11_doubt_J109
    refine rn_istore hX dX11_doubt_109 (by decide) (L' := [(4, .int s0), (0, .ref a_this), (1, .int x1), (2, .int x2), (3, .int x3), (5, .int x5)]) rfl 111 rfl ?_
    refine rn_aload_n hX dX11_doubt_111 1 rfl 112 rfl ?_
    refine rn_get hX inX11 0 rfl rfl 15 (by decide) fl22 rfl rfl dX11_doubt_112 115 rfl ?_
    refine rn_iconst hX dX11_doubt_115 116 rfl ic_0 ?_
    refine rn_ialdk hX 2 rfl cl_0 (vpk (by decide)) dX11_doubt_116 117 rfl ?_
    refine rn_aload_n hX dX11_doubt_117 1 rfl 118 rfl ?_
    refine rn_get hX inX11 0 rfl rfl 15 (by decide) fl22 rfl rfl dX11_doubt_118 121 rfl ?_
    refine rn_iconst hX dX11_doubt_121 122 rfl ic_1 ?_
    refine rn_ialdk hX 2 rfl cl_1 (vpk (by decide)) dX11_doubt_122 123 rfl ?_
    refine rn_iadd hX dX11_doubt_123 124 rfl ?_
    refine rn_iload_n hX dX11_doubt_124 4 rfl 125 rfl ?_
    refine rn_icmp_ge hX dX11_doubt_125 144 (by decide) 128 rfl ?_ ?_
    · refine rn_iload_n hX dX11_doubt_144 4 rfl 145 rfl ?_
      refine rn_sub [1, 2, 3, 0, 5] rfl ?_
      exact (hJ145 _ _ hagain hk152) x1 x2 s0 x5 x3 g_isAwake g_state g_sums
    refine rn_aload_n hX dX11_doubt_128 1 rfl 129 rfl ?_
    refine rn_get hX inX11 0 rfl rfl 15 (by decide) fl22 rfl rfl dX11_doubt_129 132 rfl ?_
    refine rn_iconst hX dX11_doubt_132 133 rfl ic_0 ?_
    refine rn_ialdk hX 2 rfl cl_0 (vpk (by decide)) dX11_doubt_133 134 rfl ?_
    refine rn_aload_n hX dX11_doubt_134 1 rfl 135 rfl ?_
    refine rn_get hX inX11 0 rfl rfl 15 (by decide) fl22 rfl rfl dX11_doubt_135 138 rfl ?_
    refine rn_iconst hX dX11_doubt_138 139 rfl ic_1 ?_
    refine rn_ialdk hX 2 rfl cl_1 (vpk (by decide)) dX11_doubt_139 140 rfl ?_
    refine rn_iadd hX dX11_doubt_140 141 rfl ?_
    refine rn_goto hX dX11_doubt_141 145 (by decide) ?_
    refine rn_sub [1, 2, 3, 0, 5] rfl ?_
    exact (hJ145 _ _ hagain hk152) x1 x2 s0 x5 ((g_sums 0) + (g_sums 1)) g_isAwake g_state g_sums
  have hB43 : ∀ (again : Int32 → Int32 → Int32 → Int32 → Int32 → Int32 → (Nat → Int32) → (Nat → Int32) → Option (Int32 × Int32 × (Nat → Int32) × (Nat → Int32))) (k152 : Int32 → Int32 → Int32 → Int32 → Int32 → (Nat → Int32) → (Nat → Int32) → Option (Int32 × Int32 × (Nat → Int32) × (Nat → Int32))) (hagain : ∀ (x1 : Int32) (x2 : Int32) (x3 : Int32) (x4 : Int32) (x5 : Int32) (g_isAwake : Int32) (g_state : (Nat → Int32)) (g_sums : (Nat → Int32)), Rn Z 7 (Option.map enc) 0 0 43 [(0, .ref a_this), (1, .int x1), (2, .int x2), (3, .int x3), (4, .int x4), (5, .int x5)] [] [(a_this, .inr (11, [.ref a_state, .ref a_readPage, .int g_isAwake, .ref a_tape, .int g_taped, .int g_fault, .int g_broken, .int g_brokenAt, .int g_spot, .int g_here, .int g_token, .int g_value, .ref a_letters, .int g_hasPlaces, .int g_highest, .ref a_sums, .ref a_aside, .ref a_groups, .ref a_sides, .int g_laid, .int g_groupMany, .int g_isDrawn, .ref a_names, .ref a_firstNames, .ref a_isKept, .ref a_lanes, .ref a_lengths, .ref a_cells, .int g_torn, .ref a_had])), (a_state, .inl ((zG Z).2.1 1, 96, .inl g_state)), (a_sums, .inl ((zG Z).2.1 1, 4, .inl g_sums))] (again x1 x2 x3 x4 x5 g_isAwake g_state g_sums)) (hk152 : ∀ (x1 : Int32) (x2 : Int32) (x3 : Int32) (x4 : Int32) (g_isAwake : Int32) (g_state : (Nat → Int32)) (g_sums : (Nat → Int32)), Rn Z 7 (Option.map enc) 0 0 152 [(1, .int x1), (2, .int x2), (3, .int x3), (4, .int x4)] [] [(a_this, .inr (11, [.ref a_state, .ref a_readPage, .int g_isAwake, .ref a_tape, .int g_taped, .int g_fault, .int g_broken, .int g_brokenAt, .int g_spot, .int g_here, .int g_token, .int g_value, .ref a_letters, .int g_hasPlaces, .int g_highest, .ref a_sums, .ref a_aside, .ref a_groups, .ref a_sides, .int g_laid, .int g_groupMany, .int g_isDrawn, .ref a_names, .ref a_firstNames, .ref a_isKept, .ref a_lanes, .ref a_lengths, .ref a_cells, .int g_torn, .ref a_had])), (a_state, .inl ((zG Z).2.1 1, 96, .inl g_state)), (a_sums, .inl ((zG Z).2.1 1, 4, .inl g_sums))] (k152 x1 x2 x3 x4 g_isAwake g_state g_sums)) (x1 : Int32) (x2 : Int32) (x3 : Int32) (x4 : Int32) (x5 : Int32) (g_isAwake : Int32) (g_state : (Nat → Int32)) (g_sums : (Nat → Int32)), Rn Z 7 (Option.map enc) 0 0 43 [(0, .ref a_this), (1, .int x1), (2, .int x2), (3, .int x3), (4, .int x4), (5, .int x5)] [] [(a_this, .inr (11, [.ref a_state, .ref a_readPage, .int g_isAwake, .ref a_tape, .int g_taped, .int g_fault, .int g_broken, .int g_brokenAt, .int g_spot, .int g_here, .int g_token, .int g_value, .ref a_letters, .int g_hasPlaces, .int g_highest, .ref a_sums, .ref a_aside, .ref a_groups, .ref a_sides, .int g_laid, .int g_groupMany, .int g_isDrawn, .ref a_names, .ref a_firstNames, .ref a_isKept, .ref a_lanes, .ref a_lengths, .ref a_cells, .int g_torn, .ref a_had])), (a_state, .inl ((zG Z).2.1 1, 96, .inl g_state)), (a_sums, .inl ((zG Z).2.1 1, 4, .inl g_sums))] (X11_doubt_B43 again k152 x1 x2 x3 x4 x5 g_isAwake g_state g_sums) := by
    intro again k152 hagain hk152 x1 x2 x3 x4 x5 g_isAwake g_state g_sums
    unfold X11_doubt_B43
    refine rn_iload hX dX11_doubt_43 5 rfl 45 rfl ?_
    refine rn_bipush hX dX11_doubt_45 47 rfl bp_21 ?_
    refine rn_icmp_ge hX dX11_doubt_47 152 (by decide) 50 rfl ?_ ?_
    · refine rn_sub [1, 2, 3, 4] rfl ?_
      exact hk152 x1 x2 x3 x4 g_isAwake g_state g_sums
    refine rn_aload_n hX dX11_doubt_50 0 rfl 51 rfl ?_
    refine rn_get hX inX11 0 rfl rfl 0 (by decide) fl7 rfl rfl dX11_doubt_51 54 rfl ?_
    refine rn_iload hX dX11_doubt_54 5 rfl 56 rfl ?_
    refine rn_gd (fun hi2 => ?_)
    refine rn_iald hX 1 rfl hi2 dX11_doubt_56 57 rfl ?_
    refine rn_lati (fun v3 => ?_)
    refine rn_istore hX dX11_doubt_57 (by decide) (L' := [(6, .int v3), (0, .ref a_this), (1, .int x1), (2, .int x2), (3, .int x3), (4, .int x4), (5, .int x5)]) rfl 59 rfl ?_
    refine rn_iload hX dX11_doubt_59 0 rfl 61 rfl ?_
    refine rn_if_le hX dX11_doubt_61 146 (by decide) 64 rfl ?_ ?_
    · refine rn_sub [1, 2, 3, 4, 5, 6] rfl ?_
      exact (hJ146 _ _ hagain hk152) x1 x2 x3 x4 x5 g_isAwake g_state g_sums
    refine rn_aload_n hX dX11_doubt_64 1 rfl 65 rfl ?_
    refine rn_get hX inX11 0 rfl rfl 0 (by decide) fl7 rfl rfl dX11_doubt_65 68 rfl ?_
    refine rn_iload hX dX11_doubt_68 6 rfl 70 rfl ?_
    refine rn_iconst hX dX11_doubt_70 71 rfl ic_0 ?_
    refine rn_iast hX 1 rfl hi2 dX11_doubt_71 72 rfl (w1 := fun m4 => [(a_this, .inr (11, [.ref a_state, .ref a_readPage, .int g_isAwake, .ref a_tape, .int g_taped, .int g_fault, .int g_broken, .int g_brokenAt, .int g_spot, .int g_here, .int g_token, .int g_value, .ref a_letters, .int g_hasPlaces, .int g_highest, .ref a_sums, .ref a_aside, .ref a_groups, .ref a_sides, .int g_laid, .int g_groupMany, .int g_isDrawn, .ref a_names, .ref a_firstNames, .ref a_isKept, .ref a_lanes, .ref a_lengths, .ref a_cells, .int g_torn, .ref a_had])), (a_state, .inl ((zG Z).2.1 1, 96, .inl m4)), (a_sums, .inl ((zG Z).2.1 1, 4, .inl g_sums))]) (fun _ => rfl) (fun m4 => ?_)
    refine rn_aload_n hX dX11_doubt_72 1 rfl 73 rfl ?_
    refine rn_bind (fun u5 hu5 => ?_)
    refine rn_callV hX (gV mcC wd_1229 wd_1231 wd_46 wd_81 wd_1232) rfl hdV_X11_layWrong rfl rfl ⟨Nat.le_of_ble_eq_true rfl, Nat.le_of_ble_eq_true rfl⟩ (c_X11_layWrong (zl Z) (zG Z) a_this a_state a_sums a_readPage a_tape a_letters a_aside a_groups a_sides a_names a_firstNames a_isKept a_lanes a_lengths a_cells a_had g_isAwake g_taped g_fault g_broken g_brokenAt g_spot g_here g_token g_value g_hasPlaces g_highest g_laid g_groupMany g_isDrawn g_torn m4 g_sums hu5) rfl [0, 1, 2] rfl rfl rfl (ci := 11) rfl rfl rfl (Nat.le_of_ble_eq_true rfl) dX11_doubt_73 76 rfl (wn := [(a_this, .inr (11, [.ref a_state, .ref a_readPage, .int g_isAwake, .ref a_tape, .int g_taped, .int g_fault, .int g_broken, .int g_brokenAt, .int g_spot, .int g_here, .int g_token, .int g_value, .ref a_letters, .int g_hasPlaces, .int g_highest, .ref a_sums, .ref a_aside, .ref a_groups, .ref a_sides, .int g_laid, .int g_groupMany, .int g_isDrawn, .ref a_names, .ref a_firstNames, .ref a_isKept, .ref a_lanes, .ref a_lengths, .ref a_cells, .int g_torn, .ref a_had])), (a_state, .inl ((zG Z).2.1 1, 96, .inl m4)), (a_sums, .inl ((zG Z).2.1 1, 4, .inl u5))]) rfl (S' := []) rfl ⟨Nat.zero_le _, Nat.zero_le _⟩ ?_
    refine rn_aload_n hX dX11_doubt_76 1 rfl 77 rfl ?_
    refine rn_get hX inX11 0 rfl rfl 0 (by decide) fl7 rfl rfl dX11_doubt_77 80 rfl ?_
    refine rn_iload hX dX11_doubt_80 6 rfl 82 rfl ?_
    refine rn_iload hX dX11_doubt_82 0 rfl 84 rfl ?_
    refine rn_iast hX 1 rfl hi2 dX11_doubt_84 85 rfl (w1 := fun m6 => [(a_this, .inr (11, [.ref a_state, .ref a_readPage, .int g_isAwake, .ref a_tape, .int g_taped, .int g_fault, .int g_broken, .int g_brokenAt, .int g_spot, .int g_here, .int g_token, .int g_value, .ref a_letters, .int g_hasPlaces, .int g_highest, .ref a_sums, .ref a_aside, .ref a_groups, .ref a_sides, .int g_laid, .int g_groupMany, .int g_isDrawn, .ref a_names, .ref a_firstNames, .ref a_isKept, .ref a_lanes, .ref a_lengths, .ref a_cells, .int g_torn, .ref a_had])), (a_state, .inl ((zG Z).2.1 1, 96, .inl m6)), (a_sums, .inl ((zG Z).2.1 1, 4, .inl u5))]) (fun _ => rfl) (fun m6 => ?_)
    refine rn_aload_n hX dX11_doubt_85 1 rfl 86 rfl ?_
    refine rn_get hX inX11 0 rfl rfl 15 (by decide) fl22 rfl rfl dX11_doubt_86 89 rfl ?_
    refine rn_iconst hX dX11_doubt_89 90 rfl ic_0 ?_
    refine rn_ialdk hX 2 rfl cl_0 (vpk (by decide)) dX11_doubt_90 91 rfl ?_
    refine rn_aload_n hX dX11_doubt_91 1 rfl 92 rfl ?_
    refine rn_get hX inX11 0 rfl rfl 15 (by decide) fl22 rfl rfl dX11_doubt_92 95 rfl ?_
    refine rn_iconst hX dX11_doubt_95 96 rfl ic_1 ?_
    refine rn_ialdk hX 2 rfl cl_1 (vpk (by decide)) dX11_doubt_96 97 rfl ?_
    refine rn_iadd hX dX11_doubt_97 98 rfl ?_
    refine rn_iload_n hX dX11_doubt_98 4 rfl 99 rfl ?_
    refine rn_icmp_ge hX dX11_doubt_99 107 (by decide) 102 rfl ?_ ?_
    · refine rn_iload hX dX11_doubt_107 5 rfl 109 rfl ?_
      refine rn_sub [1, 2, 3, 4, 6] rfl ?_
      exact (hJ109 _ _ hagain hk152) x1 x2 x3 x5 x4 g_isAwake m6 u5
    refine rn_iload hX dX11_doubt_102 6 rfl 104 rfl ?_
    refine rn_goto hX dX11_doubt_104 109 (by decide) ?_
    refine rn_sub [1, 2, 3, 4, 6] rfl ?_
    exact (hJ109 _ _ hagain hk152) x1 x2 x3 x5 x5 g_isAwake m6 u5
  have hL43 : ∀ (k152 : Int32 → Int32 → Int32 → Int32 → Int32 → (Nat → Int32) → (Nat → Int32) → Option (Int32 × Int32 × (Nat → Int32) × (Nat → Int32))) (hk152 : ∀ (x1 : Int32) (x2 : Int32) (x3 : Int32) (x4 : Int32) (g_isAwake : Int32) (g_state : (Nat → Int32)) (g_sums : (Nat → Int32)), Rn Z 7 (Option.map enc) 0 0 152 [(1, .int x1), (2, .int x2), (3, .int x3), (4, .int x4)] [] [(a_this, .inr (11, [.ref a_state, .ref a_readPage, .int g_isAwake, .ref a_tape, .int g_taped, .int g_fault, .int g_broken, .int g_brokenAt, .int g_spot, .int g_here, .int g_token, .int g_value, .ref a_letters, .int g_hasPlaces, .int g_highest, .ref a_sums, .ref a_aside, .ref a_groups, .ref a_sides, .int g_laid, .int g_groupMany, .int g_isDrawn, .ref a_names, .ref a_firstNames, .ref a_isKept, .ref a_lanes, .ref a_lengths, .ref a_cells, .int g_torn, .ref a_had])), (a_state, .inl ((zG Z).2.1 1, 96, .inl g_state)), (a_sums, .inl ((zG Z).2.1 1, 4, .inl g_sums))] (k152 x1 x2 x3 x4 g_isAwake g_state g_sums)) (n : Nat) (x1 : Int32) (x2 : Int32) (x3 : Int32) (x4 : Int32) (x5 : Int32) (g_isAwake : Int32) (g_state : (Nat → Int32)) (g_sums : (Nat → Int32)), Rn Z 7 (Option.map enc) 0 0 43 [(0, .ref a_this), (1, .int x1), (2, .int x2), (3, .int x3), (4, .int x4), (5, .int x5)] [] [(a_this, .inr (11, [.ref a_state, .ref a_readPage, .int g_isAwake, .ref a_tape, .int g_taped, .int g_fault, .int g_broken, .int g_brokenAt, .int g_spot, .int g_here, .int g_token, .int g_value, .ref a_letters, .int g_hasPlaces, .int g_highest, .ref a_sums, .ref a_aside, .ref a_groups, .ref a_sides, .int g_laid, .int g_groupMany, .int g_isDrawn, .ref a_names, .ref a_firstNames, .ref a_isKept, .ref a_lanes, .ref a_lengths, .ref a_cells, .int g_torn, .ref a_had])), (a_state, .inl ((zG Z).2.1 1, 96, .inl g_state)), (a_sums, .inl ((zG Z).2.1 1, 4, .inl g_sums))] (X11_doubt_L43 k152 n x1 x2 x3 x4 x5 g_isAwake g_state g_sums) := by
    intro k152 hk152 n
    induction n with
    | zero => intros; exact rn_none
    | succ n ih => exact hB43 _ _ ih hk152
  unfold X11_doubt
  refine rn_aload_n hX dX11_doubt_0 0 rfl 1 rfl ?_
  refine rn_lat (fun u7 hu7 => ?_)
  refine rn_callV hX (gV mcC wd_1152 wd_1154 wd_35 wd_81 wd_1155) rfl hdV_X11_awake rfl rfl ⟨Nat.le_of_ble_eq_true rfl, Nat.le_of_ble_eq_true rfl⟩ (c_X11_awake (zl Z) (zG Z) a_this a_state a_readPage a_tape a_letters a_sums a_aside a_groups a_sides a_names a_firstNames a_isKept a_lanes a_lengths a_cells a_had g_isAwake g_taped g_fault g_broken g_brokenAt g_spot g_here g_token g_value g_hasPlaces g_highest g_laid g_groupMany g_isDrawn g_torn g_state hu7) rfl [0, 1] rfl rfl rfl (ci := 11) rfl rfl rfl (Nat.le_of_ble_eq_true rfl) dX11_doubt_1 4 rfl (wn := [(a_this, .inr (11, [.ref a_state, .ref a_readPage, .int u7.1, .ref a_tape, .int g_taped, .int g_fault, .int g_broken, .int g_brokenAt, .int g_spot, .int g_here, .int g_token, .int g_value, .ref a_letters, .int g_hasPlaces, .int g_highest, .ref a_sums, .ref a_aside, .ref a_groups, .ref a_sides, .int g_laid, .int g_groupMany, .int g_isDrawn, .ref a_names, .ref a_firstNames, .ref a_isKept, .ref a_lanes, .ref a_lengths, .ref a_cells, .int g_torn, .ref a_had])), (a_state, .inl ((zG Z).2.1 1, 96, .inl u7.2)), (a_sums, .inl ((zG Z).2.1 1, 4, .inl g_sums))]) rfl (S' := []) rfl ⟨Nat.zero_le _, Nat.zero_le _⟩ ?_
  refine rn_iload_n hX dX11_doubt_4 1 rfl 5 rfl ?_
  refine rn_i2l hX dX11_doubt_5 6 rfl ?_
  refine rn_lconst hX dX11_doubt_6 7 rfl lc_0 ?_
  refine rn_lconst hX dX11_doubt_7 8 rfl lc_1 ?_
  refine rn_callS0 hX (gS mcC wd_1090 wd_1091 wd_81 wd_1092) rfl hdS_X11_in rfl rfl ⟨Nat.le_of_ble_eq_true rfl, Nat.le_of_ble_eq_true rfl⟩ (c_X11_in (zl Z) (zG Z) x1.toInt64 (0 : Int64) (1 : Int64) rfl) rfl [] rfl rfl rfl (Nat.le_of_ble_eq_true rfl) dX11_doubt_8 11 rfl (S' := [.int (X11_in x1.toInt64 (0 : Int64) (1 : Int64))]) rfl ⟨Nat.zero_le _, Nat.zero_le _⟩ ?_
  refine rn_if_ne hX dX11_doubt_11 16 (by decide) 14 rfl ?_ ?_
  · refine rn_aload_n hX dX11_doubt_16 0 rfl 17 rfl ?_
    refine rn_bind (fun u8 hu8 => ?_)
    refine rn_callV hX (gV mcC wd_1229 wd_1231 wd_46 wd_81 wd_1232) rfl hdV_X11_layWrong rfl rfl ⟨Nat.le_of_ble_eq_true rfl, Nat.le_of_ble_eq_true rfl⟩ (c_X11_layWrong (zl Z) (zG Z) a_this a_state a_sums a_readPage a_tape a_letters a_aside a_groups a_sides a_names a_firstNames a_isKept a_lanes a_lengths a_cells a_had u7.1 g_taped g_fault g_broken g_brokenAt g_spot g_here g_token g_value g_hasPlaces g_highest g_laid g_groupMany g_isDrawn g_torn u7.2 g_sums hu8) rfl [0, 1, 2] rfl rfl rfl (ci := 11) rfl rfl rfl (Nat.le_of_ble_eq_true rfl) dX11_doubt_17 20 rfl (wn := [(a_this, .inr (11, [.ref a_state, .ref a_readPage, .int u7.1, .ref a_tape, .int g_taped, .int g_fault, .int g_broken, .int g_brokenAt, .int g_spot, .int g_here, .int g_token, .int g_value, .ref a_letters, .int g_hasPlaces, .int g_highest, .ref a_sums, .ref a_aside, .ref a_groups, .ref a_sides, .int g_laid, .int g_groupMany, .int g_isDrawn, .ref a_names, .ref a_firstNames, .ref a_isKept, .ref a_lanes, .ref a_lengths, .ref a_cells, .int g_torn, .ref a_had])), (a_state, .inl ((zG Z).2.1 1, 96, .inl u7.2)), (a_sums, .inl ((zG Z).2.1 1, 4, .inl u8))]) rfl (S' := []) rfl ⟨Nat.zero_le _, Nat.zero_le _⟩ ?_
    refine rn_aload_n hX dX11_doubt_20 0 rfl 21 rfl ?_
    refine rn_get hX inX11 0 rfl rfl 15 (by decide) fl22 rfl rfl dX11_doubt_21 24 rfl ?_
    refine rn_iconst hX dX11_doubt_24 25 rfl ic_0 ?_
    refine rn_ialdk hX 2 rfl cl_0 (vpk (by decide)) dX11_doubt_25 26 rfl ?_
    refine rn_aload_n hX dX11_doubt_26 0 rfl 27 rfl ?_
    refine rn_get hX inX11 0 rfl rfl 15 (by decide) fl22 rfl rfl dX11_doubt_27 30 rfl ?_
    refine rn_iconst hX dX11_doubt_30 31 rfl ic_1 ?_
    refine rn_ialdk hX 2 rfl cl_1 (vpk (by decide)) dX11_doubt_31 32 rfl ?_
    refine rn_iadd hX dX11_doubt_32 33 rfl ?_
    refine rn_lati (fun v9 => ?_)
    refine rn_istore_n hX dX11_doubt_33 2 rfl (by decide) (L' := [(2, .int v9), (0, .ref a_this), (1, .int x1)]) rfl 34 rfl ?_
    refine rn_iload_n hX dX11_doubt_34 0 rfl 35 rfl ?_
    refine rn_istore_n hX dX11_doubt_35 3 rfl (by decide) (L' := [(3, .int v9), (2, .int v9), (0, .ref a_this), (1, .int x1)]) rfl 36 rfl ?_
    refine rn_bipush hX dX11_doubt_36 38 rfl bp_m4 ?_
    refine rn_istore hX dX11_doubt_38 (by decide) (L' := [(4, .int (-4 : Int32)), (3, .int v9), (2, .int v9), (0, .ref a_this), (1, .int x1)]) rfl 40 rfl ?_
    refine rn_iconst hX dX11_doubt_40 41 rfl ic_0 ?_
    refine rn_istore hX dX11_doubt_41 (by decide) (L' := [(5, .int (0 : Int32)), (4, .int (-4 : Int32)), (3, .int v9), (2, .int v9), (0, .ref a_this), (1, .int x1)]) rfl 43 rfl ?_
    refine rn_sub [4, 5, 3, 2, 1, 0] rfl ?_
    exact (hL43 _ hJ152 1000) x1 v9 v9 (-4 : Int32) (0 : Int32) u7.1 u7.2 u8
  refine rn_iconst hX dX11_doubt_14 15 rfl ic_m1 ?_
  exact rn_iret hX hr (by rw [henc]; rfl) dX11_doubt_15
abbrev rmX11_signOf : Room := { frames := 0, cells := 0, slots := 0, locals := 0 }
theorem hdS_X11_signOf : yX11_signOf.cls ≠ "java/lang/invoke/MethodHandle" ∧ yX11_signOf.cls ≠ "java/lang/invoke/VarHandle" ∧ (parseMethodDescriptor yX11_signOf.desc).map (fun d => d.parameters.length) = some 1 := by decide +kernel
set_option maxHeartbeats 4000000 in
set_option maxRecDepth 100000 in
theorem c_X11_signOf (l : Launch) (G : GT) (x0 : Int64) {u : Int32} (hu : X11_signOf x0 = u) : Ctr l G yX11_signOf wsX11_signOf rmX11_signOf [.long x0] [] (some (.int u)) [] := by
  obtain ⟨enc, henc⟩ : ∃ enc : (Int32) → Option Value × va_W, enc = fun u => (((some (.int u)) : Option Value), ([] : va_W)) := ⟨_, rfl⟩
  refine ctr_of (cc := cX11_signOf) (own := RX11) (E := fun o => some (enc o)) (o := X11_signOf x0) (by decide) rfl rfl (L := [(0, .long x0)]) rfl (Nat.le_of_ble_eq_true rfl) (by rw [hu, henc]) ?_
  intro Z hX hl hG hr
  subst hl; subst hG
  unfold X11_signOf
  refine rn_lload_n hX dX11_signOf_0 0 rfl 1 rfl ?_
  refine rn_lconst hX dX11_signOf_1 2 rfl lc_0 ?_
  refine rn_lcmp_le hX dX11_signOf_2 3 rfl dX11_signOf_3 10 (by decide) 6 rfl ?_ ?_
  · refine rn_lload_n hX dX11_signOf_10 0 rfl 11 rfl ?_
    refine rn_lconst hX dX11_signOf_11 12 rfl lc_0 ?_
    refine rn_lcmp_ge hX dX11_signOf_12 13 rfl dX11_signOf_13 20 (by decide) 16 rfl ?_ ?_
    · refine rn_iconst hX dX11_signOf_20 21 rfl ic_0 ?_
      exact rn_iret hX hr (by rw [henc]) dX11_signOf_21
    refine rn_iconst hX dX11_signOf_16 17 rfl ic_m1 ?_
    refine rn_goto hX dX11_signOf_17 21 (by decide) ?_
    exact rn_iret hX hr (by rw [henc]) dX11_signOf_21
  refine rn_iconst hX dX11_signOf_6 7 rfl ic_1 ?_
  refine rn_goto hX dX11_signOf_7 21 (by decide) ?_
  exact rn_iret hX hr (by rw [henc]) dX11_signOf_21
abbrev rmX11_bend : Room := { frames := 4, cells := 0, slots := 0, locals := 91 }
theorem hdV_X11_bend : yX11_bend.cls = RX11 ∧ yX11_bend.cls ≠ "java/lang/invoke/MethodHandle" ∧ yX11_bend.cls ≠ "java/lang/invoke/VarHandle" ∧ (parseMethodDescriptor yX11_bend.desc).map (fun d => d.parameters.length) = some 3 := by decide +kernel
set_option maxHeartbeats 4000000 in
set_option maxRecDepth 100000 in
theorem c_X11_bend (l : Launch) (G : GT) (a_this a_state a_readPage a_tape a_letters a_sums a_aside a_groups a_sides a_names a_firstNames a_isKept a_lanes a_lengths a_cells a_had : Nat) (g_isAwake : Int32) (g_taped : Int32) (g_fault : Int32) (g_broken : Int32) (g_brokenAt : Int32) (g_spot : Int32) (g_here : Int32) (g_token : Int32) (g_value : Int32) (g_hasPlaces : Int32) (g_highest : Int32) (g_laid : Int32) (g_groupMany : Int32) (g_isDrawn : Int32) (g_torn : Int32) (g_state : (Nat → Int32)) (x1 : Int32) (x2 : Int32) (x3 : Int32) {u : Int32 × Int32 × (Nat → Int32)} (hu : X11_bend x1 x2 x3 g_isAwake g_state = some u) : Ctr l G yX11_bend wsX11_bend rmX11_bend [.ref a_this, .int x1, .int x2, .int x3] [(a_this, .inr (11, [.ref a_state, .ref a_readPage, .int g_isAwake, .ref a_tape, .int g_taped, .int g_fault, .int g_broken, .int g_brokenAt, .int g_spot, .int g_here, .int g_token, .int g_value, .ref a_letters, .int g_hasPlaces, .int g_highest, .ref a_sums, .ref a_aside, .ref a_groups, .ref a_sides, .int g_laid, .int g_groupMany, .int g_isDrawn, .ref a_names, .ref a_firstNames, .ref a_isKept, .ref a_lanes, .ref a_lengths, .ref a_cells, .int g_torn, .ref a_had])), (a_state, .inl (G.2.1 1, 96, .inl g_state))] (some (.int u.1)) [(a_this, .inr (11, [.ref a_state, .ref a_readPage, .int u.2.1, .ref a_tape, .int g_taped, .int g_fault, .int g_broken, .int g_brokenAt, .int g_spot, .int g_here, .int g_token, .int g_value, .ref a_letters, .int g_hasPlaces, .int g_highest, .ref a_sums, .ref a_aside, .ref a_groups, .ref a_sides, .int g_laid, .int g_groupMany, .int g_isDrawn, .ref a_names, .ref a_firstNames, .ref a_isKept, .ref a_lanes, .ref a_lengths, .ref a_cells, .int g_torn, .ref a_had])), (a_state, .inl (G.2.1 1, 96, .inl u.2.2))] := by
  obtain ⟨enc, henc⟩ : ∃ enc : (Int32 × Int32 × (Nat → Int32)) → Option Value × va_W, enc = fun u => (((some (.int u.1)) : Option Value), ([(a_this, .inr (11, [.ref a_state, .ref a_readPage, .int u.2.1, .ref a_tape, .int g_taped, .int g_fault, .int g_broken, .int g_brokenAt, .int g_spot, .int g_here, .int g_token, .int g_value, .ref a_letters, .int g_hasPlaces, .int g_highest, .ref a_sums, .ref a_aside, .ref a_groups, .ref a_sides, .int g_laid, .int g_groupMany, .int g_isDrawn, .ref a_names, .ref a_firstNames, .ref a_isKept, .ref a_lanes, .ref a_lengths, .ref a_cells, .int g_torn, .ref a_had])), (a_state, .inl (G.2.1 1, 96, .inl u.2.2))] : va_W)) := ⟨_, rfl⟩
  refine ctr_of (cc := cX11_bend) (own := RX11) (E := Option.map enc) (o := X11_bend x1 x2 x3 g_isAwake g_state) (by decide) rfl rfl (L := [(0, .ref a_this), (1, .int x1), (2, .int x2), (3, .int x3)]) rfl (Nat.le_of_ble_eq_true rfl) (by rw [hu, henc]; rfl) ?_
  intro Z hX hl hG hr
  subst hl; subst hG
  unfold X11_bend
  refine rn_aload_n hX dX11_bend_0 0 rfl 1 rfl ?_
  refine rn_iload_n hX dX11_bend_1 1 rfl 2 rfl ?_
  refine rn_iload_n hX dX11_bend_2 2 rfl 3 rfl ?_
  refine rn_iload_n hX dX11_bend_3 3 rfl 4 rfl ?_
  refine rn_bind (fun u1 hu1 => ?_)
  refine rn_callV hX (gV mcC wd_1177 wd_1179 wd_38 wd_81 wd_1180) rfl hdV_X11_areThree rfl rfl ⟨Nat.le_of_ble_eq_true rfl, Nat.le_of_ble_eq_true rfl⟩ (c_X11_areThree (zl Z) (zG Z) a_this a_state a_readPage a_tape a_letters a_sums a_aside a_groups a_sides a_names a_firstNames a_isKept a_lanes a_lengths a_cells a_had g_isAwake g_taped g_fault g_broken g_brokenAt g_spot g_here g_token g_value g_hasPlaces g_highest g_laid g_groupMany g_isDrawn g_torn g_state x1 x2 x3 hu1) rfl [0, 1] rfl rfl rfl (ci := 11) rfl rfl rfl (Nat.le_of_ble_eq_true rfl) dX11_bend_4 7 rfl (wn := [(a_this, .inr (11, [.ref a_state, .ref a_readPage, .int u1.2.1, .ref a_tape, .int g_taped, .int g_fault, .int g_broken, .int g_brokenAt, .int g_spot, .int g_here, .int g_token, .int g_value, .ref a_letters, .int g_hasPlaces, .int g_highest, .ref a_sums, .ref a_aside, .ref a_groups, .ref a_sides, .int g_laid, .int g_groupMany, .int g_isDrawn, .ref a_names, .ref a_firstNames, .ref a_isKept, .ref a_lanes, .ref a_lengths, .ref a_cells, .int g_torn, .ref a_had])), (a_state, .inl ((zG Z).2.1 1, 96, .inl u1.2.2))]) rfl (S' := [.int u1.1]) rfl ⟨Nat.zero_le _, Nat.zero_le _⟩ ?_
  refine rn_if_ne hX dX11_bend_7 12 (by decide) 10 rfl ?_ ?_
  · refine rn_aload_n hX dX11_bend_12 0 rfl 13 rfl ?_
    refine rn_iload_n hX dX11_bend_13 1 rfl 14 rfl ?_
    refine rn_iload_n hX dX11_bend_14 2 rfl 15 rfl ?_
    refine rn_iload_n hX dX11_bend_15 3 rfl 16 rfl ?_
    refine rn_bind (fun u2 hu2 => ?_)
    refine rn_callV0 hX (gV mcC wd_1182 wd_1184 wd_39 wd_81 wd_1185) rfl hdV_X11_areTold rfl rfl ⟨Nat.le_of_ble_eq_true rfl, Nat.le_of_ble_eq_true rfl⟩ (c_X11_areTold (zl Z) (zG Z) a_this a_state a_readPage a_tape a_letters a_sums a_aside a_groups a_sides a_names a_firstNames a_isKept a_lanes a_lengths a_cells a_had u1.2.1 g_taped g_fault g_broken g_brokenAt g_spot g_here g_token g_value g_hasPlaces g_highest g_laid g_groupMany g_isDrawn g_torn u1.2.2 x1 x2 x3 hu2) rfl [0, 1] rfl rfl (ci := 11) rfl rfl rfl (Nat.le_of_ble_eq_true rfl) dX11_bend_16 19 rfl (S' := [.int u2]) rfl ⟨Nat.zero_le _, Nat.zero_le _⟩ ?_
    refine rn_if_ne hX dX11_bend_19 25 (by decide) 22 rfl ?_ ?_
    · refine rn_aload_n hX dX11_bend_25 0 rfl 26 rfl ?_
      refine rn_iload_n hX dX11_bend_26 2 rfl 27 rfl ?_
      refine rn_iload_n hX dX11_bend_27 1 rfl 28 rfl ?_
      refine rn_iload_n hX dX11_bend_28 3 rfl 29 rfl ?_
      refine rn_bind (fun u3 hu3 => ?_)
      refine rn_callV0 hX (gV mcC wd_1220 wd_1222 wd_45 wd_81 wd_1223) rfl hdV_X11_dot rfl rfl ⟨Nat.le_of_ble_eq_true rfl, Nat.le_of_ble_eq_true rfl⟩ (c_X11_dot (zl Z) (zG Z) a_this a_state a_readPage a_tape a_letters a_sums a_aside a_groups a_sides a_names a_firstNames a_isKept a_lanes a_lengths a_cells a_had u1.2.1 g_taped g_fault g_broken g_brokenAt g_spot g_here g_token g_value g_hasPlaces g_highest g_laid g_groupMany g_isDrawn g_torn u1.2.2 x2 x1 x3 hu3) rfl [0, 1] rfl rfl (ci := 11) rfl rfl rfl (Nat.le_of_ble_eq_true rfl) dX11_bend_29 32 rfl (S' := [.long u3]) rfl ⟨Nat.zero_le _, Nat.zero_le _⟩ ?_
      refine rn_lconst hX dX11_bend_32 33 rfl lc_0 ?_
      refine rn_lcmp_ge hX dX11_bend_33 34 rfl dX11_bend_34 41 (by decide) 37 rfl ?_ ?_
      · refine rn_aload_n hX dX11_bend_41 0 rfl 42 rfl ?_
        refine rn_iload_n hX dX11_bend_42 2 rfl 43 rfl ?_
        refine rn_iload_n hX dX11_bend_43 1 rfl 44 rfl ?_
        refine rn_iload_n hX dX11_bend_44 3 rfl 45 rfl ?_
        refine rn_bind (fun u4 hu4 => ?_)
        refine rn_callV0 hX (gV mcC wd_1220 wd_1222 wd_45 wd_81 wd_1223) rfl hdV_X11_dot rfl rfl ⟨Nat.le_of_ble_eq_true rfl, Nat.le_of_ble_eq_true rfl⟩ (c_X11_dot (zl Z) (zG Z) a_this a_state a_readPage a_tape a_letters a_sums a_aside a_groups a_sides a_names a_firstNames a_isKept a_lanes a_lengths a_cells a_had u1.2.1 g_taped g_fault g_broken g_brokenAt g_spot g_here g_token g_value g_hasPlaces g_highest g_laid g_groupMany g_isDrawn g_torn u1.2.2 x2 x1 x3 hu4) rfl [0, 1] rfl rfl (ci := 11) rfl rfl rfl (Nat.le_of_ble_eq_true rfl) dX11_bend_45 48 rfl (S' := [.long u4]) rfl ⟨Nat.zero_le _, Nat.zero_le _⟩ ?_
        refine rn_callS0 hX (gS mcC wd_1261 wd_1262 wd_81 wd_1263) rfl hdS_X11_signOf rfl rfl ⟨Nat.le_of_ble_eq_true rfl, Nat.le_of_ble_eq_true rfl⟩ (c_X11_signOf (zl Z) (zG Z) u4 rfl) rfl [] rfl rfl rfl (Nat.le_of_ble_eq_true rfl) dX11_bend_48 51 rfl (S' := [.int (X11_signOf u4)]) rfl ⟨Nat.zero_le _, Nat.zero_le _⟩ ?_
        exact rn_iret hX hr (by rw [henc]; rfl) dX11_bend_51
      refine rn_iconst hX dX11_bend_37 38 rfl ic_2 ?_
      refine rn_goto hX dX11_bend_38 51 (by decide) ?_
      exact rn_iret hX hr (by rw [henc]; rfl) dX11_bend_51
    refine rn_bipush hX dX11_bend_22 24 rfl bp_m4 ?_
    exact rn_iret hX hr (by rw [henc]; rfl) dX11_bend_24
  refine rn_iconst hX dX11_bend_10 11 rfl ic_m1 ?_
  exact rn_iret hX hr (by rw [henc]; rfl) dX11_bend_11
abbrev rmX11_lowest : Room := { frames := 0, cells := 0, slots := 0, locals := 0 }
theorem hdS_X11_lowest : yX11_lowest.cls ≠ "java/lang/invoke/MethodHandle" ∧ yX11_lowest.cls ≠ "java/lang/invoke/VarHandle" ∧ (parseMethodDescriptor yX11_lowest.desc).map (fun d => d.parameters.length) = some 3 := by decide +kernel
set_option maxHeartbeats 4000000 in
set_option maxRecDepth 100000 in
theorem c_X11_lowest (l : Launch) (G : GT) (x0 : Int64) (x2 : Int64) (x4 : Int32) {u : Int64} (hu : X11_lowest x0 x2 x4 = some u) : Ctr l G yX11_lowest wsX11_lowest rmX11_lowest [.long x0, .long x2, .int x4] [] (some (.long u)) [] := by
  obtain ⟨enc, henc⟩ : ∃ enc : (Int64) → Option Value × va_W, enc = fun u => (((some (.long u)) : Option Value), ([] : va_W)) := ⟨_, rfl⟩
  refine ctr_of (cc := cX11_lowest) (own := RX11) (E := Option.map enc) (o := X11_lowest x0 x2 x4) (by decide) rfl rfl (L := [(0, .long x0), (2, .long x2), (4, .int x4)]) rfl (Nat.le_of_ble_eq_true rfl) (by rw [hu, henc]; rfl) ?_
  intro Z hX hl hG hr
  subst hl; subst hG
  have hJ42 : ∀ (x0 : Int64) (x2 : Int64) (x4 : Int32) (x5 : Int64), Rn Z 11 (Option.map enc) 0 0 42 [(0, .long x0), (2, .long x2), (4, .int x4), (5, .long x5)] [] [] (X11_lowest_J42 x0 x2 x4 x5) := by
    intro x0 x2 x4 x5
    unfold X11_lowest_J42
    refine rn_iload hX dX11_lowest_42 2 rfl 44 rfl ?_
    refine rn_if_ne hX dX11_lowest_44 51 (by decide) 47 rfl ?_ ?_
    · refine rn_lload_n hX dX11_lowest_51 1 rfl 52 rfl ?_
      refine rn_lload hX dX11_lowest_52 3 rfl 54 rfl ?_
      refine rn_gdl (fun hd1 => ?_)
      refine rn_ldiv hX dX11_lowest_54 55 rfl hd1 ?_
      exact rn_lret hX hr (by rw [henc]; rfl) dX11_lowest_55
    refine rn_lload_n hX dX11_lowest_47 0 rfl 48 rfl ?_
    refine rn_goto hX dX11_lowest_48 52 (by decide) ?_
    refine rn_lload hX dX11_lowest_52 3 rfl 54 rfl ?_
    refine rn_gdl (fun hd2 => ?_)
    refine rn_ldiv hX dX11_lowest_54 55 rfl hd2 ?_
    exact rn_lret hX hr (by rw [henc]; rfl) dX11_lowest_55
  have hB17 : ∀ (again : Int64 → Int64 → Int32 → Int64 → Int64 → Option (Int64)) (k42 : Int64 → Int64 → Int32 → Int64 → Option (Int64)) (hagain : ∀ (x0 : Int64) (x2 : Int64) (x4 : Int32) (x5 : Int64) (x7 : Int64), Rn Z 11 (Option.map enc) 0 0 17 [(0, .long x0), (2, .long x2), (4, .int x4), (5, .long x5), (7, .long x7)] [] [] (again x0 x2 x4 x5 x7)) (hk42 : ∀ (x0 : Int64) (x2 : Int64) (x4 : Int32) (x5 : Int64), Rn Z 11 (Option.map enc) 0 0 42 [(0, .long x0), (2, .long x2), (4, .int x4), (5, .long x5)] [] [] (k42 x0 x2 x4 x5)) (x0 : Int64) (x2 : Int64) (x4 : Int32) (x5 : Int64) (x7 : Int64), Rn Z 11 (Option.map enc) 0 0 17 [(0, .long x0), (2, .long x2), (4, .int x4), (5, .long x5), (7, .long x7)] [] [] (X11_lowest_B17 again k42 x0 x2 x4 x5 x7) := by
    intro again k42 hagain hk42 x0 x2 x4 x5 x7
    unfold X11_lowest_B17
    refine rn_lload hX dX11_lowest_17 4 rfl 19 rfl ?_
    refine rn_lconst hX dX11_lowest_19 20 rfl lc_0 ?_
    refine rn_lcmp_eq hX dX11_lowest_20 21 rfl dX11_lowest_21 42 (by decide) 24 rfl ?_ ?_
    · refine rn_sub [0, 1, 2, 3] rfl ?_
      exact hk42 x0 x2 x4 x5
    refine rn_lload hX dX11_lowest_24 3 rfl 26 rfl ?_
    refine rn_lload hX dX11_lowest_26 4 rfl 28 rfl ?_
    refine rn_gdl (fun hd3 => ?_)
    refine rn_lrem hX dX11_lowest_28 29 rfl hd3 ?_
    refine rn_latl (fun v4 => ?_)
    refine rn_lstore hX dX11_lowest_29 (by decide) (L' := [(9, .long v4), (0, .long x0), (2, .long x2), (4, .int x4), (5, .long x5), (7, .long x7)]) rfl 31 rfl ?_
    refine rn_lload hX dX11_lowest_31 5 rfl 33 rfl ?_
    refine rn_lstore hX dX11_lowest_33 (by decide) (L' := [(5, .long x7), (9, .long v4), (0, .long x0), (2, .long x2), (4, .int x4), (7, .long x7)]) rfl 35 rfl ?_
    refine rn_lload hX dX11_lowest_35 1 rfl 37 rfl ?_
    refine rn_lstore hX dX11_lowest_37 (by decide) (L' := [(7, .long v4), (5, .long x7), (9, .long v4), (0, .long x0), (2, .long x2), (4, .int x4)]) rfl 39 rfl ?_
    refine rn_goto hX dX11_lowest_39 17 (by decide) ?_
    refine rn_sub [3, 4, 5, 1, 0] rfl ?_
    exact hagain x0 x2 x4 x7 v4
  have hL17 : ∀ (k42 : Int64 → Int64 → Int32 → Int64 → Option (Int64)) (hk42 : ∀ (x0 : Int64) (x2 : Int64) (x4 : Int32) (x5 : Int64), Rn Z 11 (Option.map enc) 0 0 42 [(0, .long x0), (2, .long x2), (4, .int x4), (5, .long x5)] [] [] (k42 x0 x2 x4 x5)) (n : Nat) (x0 : Int64) (x2 : Int64) (x4 : Int32) (x5 : Int64) (x7 : Int64), Rn Z 11 (Option.map enc) 0 0 17 [(0, .long x0), (2, .long x2), (4, .int x4), (5, .long x5), (7, .long x7)] [] [] (X11_lowest_L17 k42 n x0 x2 x4 x5 x7) := by
    intro k42 hk42 n
    induction n with
    | zero => intros; exact rn_none
    | succ n ih => exact hB17 _ _ ih hk42
  have hJ12 : ∀ (x0 : Int64) (x2 : Int64) (x4 : Int32) (s0 : Int64), Rn Z 11 (Option.map enc) 0 0 12 [(0, .long x0), (2, .long x2), (4, .int x4)] [.long s0] [] (X11_lowest_J12 x0 x2 x4 s0) := by
    intro x0 x2 x4 s0
    unfold X11_lowest_J12
    refine rn_lstore hX dX11_lowest_12 (by decide) (L' := [(5, .long s0), (0, .long x0), (2, .long x2), (4, .int x4)]) rfl 14 rfl ?_
    refine rn_lload_n hX dX11_lowest_14 2 rfl 15 rfl ?_
    refine rn_lstore hX dX11_lowest_15 (by decide) (L' := [(7, .long x2), (5, .long s0), (0, .long x0), (2, .long x2), (4, .int x4)]) rfl 17 rfl ?_
    refine rn_sub [2, 3, 4, 1, 0] rfl ?_
    exact (hL17 _ hJ42 1000) x0 x2 x4 s0 x2
  unfold X11_lowest
  refine rn_lload_n hX dX11_lowest_0 0 rfl 1 rfl ?_
  refine rn_lconst hX dX11_lowest_1 2 rfl lc_0 ?_
  refine rn_lcmp_ge hX dX11_lowest_2 3 rfl dX11_lowest_3 11 (by decide) 6 rfl ?_ ?_
  · refine rn_lload_n hX dX11_lowest_11 0 rfl 12 rfl ?_
    exact hJ12 x0 x2 x4 x0
  refine rn_lload_n hX dX11_lowest_6 0 rfl 7 rfl ?_
  refine rn_lneg hX dX11_lowest_7 8 rfl ?_
  refine rn_goto hX dX11_lowest_8 12 (by decide) ?_
  exact hJ12 x0 x2 x4 (-x0)
abbrev rmX11_hinders : Room := { frames := 4, cells := 0, slots := 0, locals := 91 }
theorem hdV_X11_hinders : yX11_hinders.cls = RX11 ∧ yX11_hinders.cls ≠ "java/lang/invoke/MethodHandle" ∧ yX11_hinders.cls ≠ "java/lang/invoke/VarHandle" ∧ (parseMethodDescriptor yX11_hinders.desc).map (fun d => d.parameters.length) = some 4 := by decide +kernel
set_option maxHeartbeats 4000000 in
set_option maxRecDepth 100000 in
theorem c_X11_hinders (l : Launch) (G : GT) (a_this a_state a_readPage a_tape a_letters a_sums a_aside a_groups a_sides a_names a_firstNames a_isKept a_lanes a_lengths a_cells a_had : Nat) (g_isAwake : Int32) (g_taped : Int32) (g_fault : Int32) (g_broken : Int32) (g_brokenAt : Int32) (g_spot : Int32) (g_here : Int32) (g_token : Int32) (g_value : Int32) (g_hasPlaces : Int32) (g_highest : Int32) (g_laid : Int32) (g_groupMany : Int32) (g_isDrawn : Int32) (g_torn : Int32) (g_state : (Nat → Int32)) (x1 : Int32) (x2 : Int32) (x3 : Int32) (x4 : Int32) {u : Int64 × Int32 × (Nat → Int32)} (hu : X11_hinders x1 x2 x3 x4 g_isAwake g_state = some u) : Ctr l G yX11_hinders wsX11_hinders rmX11_hinders [.ref a_this, .int x1, .int x2, .int x3, .int x4] [(a_this, .inr (11, [.ref a_state, .ref a_readPage, .int g_isAwake, .ref a_tape, .int g_taped, .int g_fault, .int g_broken, .int g_brokenAt, .int g_spot, .int g_here, .int g_token, .int g_value, .ref a_letters, .int g_hasPlaces, .int g_highest, .ref a_sums, .ref a_aside, .ref a_groups, .ref a_sides, .int g_laid, .int g_groupMany, .int g_isDrawn, .ref a_names, .ref a_firstNames, .ref a_isKept, .ref a_lanes, .ref a_lengths, .ref a_cells, .int g_torn, .ref a_had])), (a_state, .inl (G.2.1 1, 96, .inl g_state))] (some (.long u.1)) [(a_this, .inr (11, [.ref a_state, .ref a_readPage, .int u.2.1, .ref a_tape, .int g_taped, .int g_fault, .int g_broken, .int g_brokenAt, .int g_spot, .int g_here, .int g_token, .int g_value, .ref a_letters, .int g_hasPlaces, .int g_highest, .ref a_sums, .ref a_aside, .ref a_groups, .ref a_sides, .int g_laid, .int g_groupMany, .int g_isDrawn, .ref a_names, .ref a_firstNames, .ref a_isKept, .ref a_lanes, .ref a_lengths, .ref a_cells, .int g_torn, .ref a_had])), (a_state, .inl (G.2.1 1, 96, .inl u.2.2))] := by
  obtain ⟨enc, henc⟩ : ∃ enc : (Int64 × Int32 × (Nat → Int32)) → Option Value × va_W, enc = fun u => (((some (.long u.1)) : Option Value), ([(a_this, .inr (11, [.ref a_state, .ref a_readPage, .int u.2.1, .ref a_tape, .int g_taped, .int g_fault, .int g_broken, .int g_brokenAt, .int g_spot, .int g_here, .int g_token, .int g_value, .ref a_letters, .int g_hasPlaces, .int g_highest, .ref a_sums, .ref a_aside, .ref a_groups, .ref a_sides, .int g_laid, .int g_groupMany, .int g_isDrawn, .ref a_names, .ref a_firstNames, .ref a_isKept, .ref a_lanes, .ref a_lengths, .ref a_cells, .int g_torn, .ref a_had])), (a_state, .inl (G.2.1 1, 96, .inl u.2.2))] : va_W)) := ⟨_, rfl⟩
  refine ctr_of (cc := cX11_hinders) (own := RX11) (E := Option.map enc) (o := X11_hinders x1 x2 x3 x4 g_isAwake g_state) (by decide) rfl rfl (L := [(0, .ref a_this), (1, .int x1), (2, .int x2), (3, .int x3), (4, .int x4)]) rfl (Nat.le_of_ble_eq_true rfl) (by rw [hu, henc]; rfl) ?_
  intro Z hX hl hG hr
  subst hl; subst hG
  have kl172 : (Cond.constantLong RX11 172 (-9000000000)).before (za Z) (zs Z) = true := hX.wd (mcC _ wd_1181)
  have kl174 : (Cond.constantLong RX11 174 (-9000000001)).before (za Z) (zs Z) = true := hX.wd (mcC _ wd_1194)
  unfold X11_hinders
  refine rn_aload_n hX dX11_hinders_0 0 rfl 1 rfl ?_
  refine rn_iload_n hX dX11_hinders_1 1 rfl 2 rfl ?_
  refine rn_iload_n hX dX11_hinders_2 2 rfl 3 rfl ?_
  refine rn_iload_n hX dX11_hinders_3 3 rfl 4 rfl ?_
  refine rn_bind (fun u1 hu1 => ?_)
  refine rn_callV hX (gV mcC wd_1177 wd_1179 wd_38 wd_81 wd_1180) rfl hdV_X11_areThree rfl rfl ⟨Nat.le_of_ble_eq_true rfl, Nat.le_of_ble_eq_true rfl⟩ (c_X11_areThree (zl Z) (zG Z) a_this a_state a_readPage a_tape a_letters a_sums a_aside a_groups a_sides a_names a_firstNames a_isKept a_lanes a_lengths a_cells a_had g_isAwake g_taped g_fault g_broken g_brokenAt g_spot g_here g_token g_value g_hasPlaces g_highest g_laid g_groupMany g_isDrawn g_torn g_state x1 x2 x3 hu1) rfl [0, 1] rfl rfl rfl (ci := 11) rfl rfl rfl (Nat.le_of_ble_eq_true rfl) dX11_hinders_4 7 rfl (wn := [(a_this, .inr (11, [.ref a_state, .ref a_readPage, .int u1.2.1, .ref a_tape, .int g_taped, .int g_fault, .int g_broken, .int g_brokenAt, .int g_spot, .int g_here, .int g_token, .int g_value, .ref a_letters, .int g_hasPlaces, .int g_highest, .ref a_sums, .ref a_aside, .ref a_groups, .ref a_sides, .int g_laid, .int g_groupMany, .int g_isDrawn, .ref a_names, .ref a_firstNames, .ref a_isKept, .ref a_lanes, .ref a_lengths, .ref a_cells, .int g_torn, .ref a_had])), (a_state, .inl ((zG Z).2.1 1, 96, .inl u1.2.2))]) rfl (S' := [.int u1.1]) rfl ⟨Nat.zero_le _, Nat.zero_le _⟩ ?_
  refine rn_if_eq hX dX11_hinders_7 21 (by decide) 10 rfl ?_ ?_
  · refine rn_ldc2 hX kl172 dX11_hinders_21 24 rfl ?_
    exact rn_lret hX hr (by rw [henc]; rfl) dX11_hinders_24
  refine rn_iload hX dX11_hinders_10 4 rfl 12 rfl ?_
  refine rn_i2l hX dX11_hinders_12 13 rfl ?_
  refine rn_lconst hX dX11_hinders_13 14 rfl lc_0 ?_
  refine rn_lconst hX dX11_hinders_14 15 rfl lc_1 ?_
  refine rn_callS0 hX (gS mcC wd_1090 wd_1091 wd_81 wd_1092) rfl hdS_X11_in rfl rfl ⟨Nat.le_of_ble_eq_true rfl, Nat.le_of_ble_eq_true rfl⟩ (c_X11_in (zl Z) (zG Z) x4.toInt64 (0 : Int64) (1 : Int64) rfl) rfl [] rfl rfl rfl (Nat.le_of_ble_eq_true rfl) dX11_hinders_15 18 rfl (S' := [.int (X11_in x4.toInt64 (0 : Int64) (1 : Int64))]) rfl ⟨Nat.zero_le _, Nat.zero_le _⟩ ?_
  refine rn_if_ne hX dX11_hinders_18 25 (by decide) 21 rfl ?_ ?_
  · refine rn_aload_n hX dX11_hinders_25 0 rfl 26 rfl ?_
    refine rn_iload_n hX dX11_hinders_26 1 rfl 27 rfl ?_
    refine rn_iload_n hX dX11_hinders_27 2 rfl 28 rfl ?_
    refine rn_iload_n hX dX11_hinders_28 3 rfl 29 rfl ?_
    refine rn_bind (fun u2 hu2 => ?_)
    refine rn_callV0 hX (gV mcC wd_1182 wd_1184 wd_39 wd_81 wd_1185) rfl hdV_X11_areTold rfl rfl ⟨Nat.le_of_ble_eq_true rfl, Nat.le_of_ble_eq_true rfl⟩ (c_X11_areTold (zl Z) (zG Z) a_this a_state a_readPage a_tape a_letters a_sums a_aside a_groups a_sides a_names a_firstNames a_isKept a_lanes a_lengths a_cells a_had u1.2.1 g_taped g_fault g_broken g_brokenAt g_spot g_here g_token g_value g_hasPlaces g_highest g_laid g_groupMany g_isDrawn g_torn u1.2.2 x1 x2 x3 hu2) rfl [0, 1] rfl rfl (ci := 11) rfl rfl rfl (Nat.le_of_ble_eq_true rfl) dX11_hinders_29 32 rfl (S' := [.int u2]) rfl ⟨Nat.zero_le _, Nat.zero_le _⟩ ?_
    refine rn_if_eq hX dX11_hinders_32 49 (by decide) 35 rfl ?_ ?_
    · refine rn_ldc2 hX kl174 dX11_hinders_49 52 rfl ?_
      exact rn_lret hX hr (by rw [henc]; rfl) dX11_hinders_52
    refine rn_aload_n hX dX11_hinders_35 0 rfl 36 rfl ?_
    refine rn_iload_n hX dX11_hinders_36 1 rfl 37 rfl ?_
    refine rn_iload_n hX dX11_hinders_37 2 rfl 38 rfl ?_
    refine rn_iload_n hX dX11_hinders_38 3 rfl 39 rfl ?_
    refine rn_bind (fun u3 hu3 => ?_)
    refine rn_callV0 hX (gV mcC wd_1199 wd_1201 wd_41 wd_81 wd_1202) rfl hdV_X11_canBe rfl rfl ⟨Nat.le_of_ble_eq_true rfl, Nat.le_of_ble_eq_true rfl⟩ (c_X11_canBe (zl Z) (zG Z) a_this a_state a_readPage a_tape a_letters a_sums a_aside a_groups a_sides a_names a_firstNames a_isKept a_lanes a_lengths a_cells a_had u1.2.1 g_taped g_fault g_broken g_brokenAt g_spot g_here g_token g_value g_hasPlaces g_highest g_laid g_groupMany g_isDrawn g_torn u1.2.2 x1 x2 x3 hu3) rfl [0, 1] rfl rfl (ci := 11) rfl rfl rfl (Nat.le_of_ble_eq_true rfl) dX11_hinders_39 42 rfl (S' := [.int u3]) rfl ⟨Nat.zero_le _, Nat.zero_le _⟩ ?_
    refine rn_if_eq hX dX11_hinders_42 49 (by decide) 45 rfl ?_ ?_
    · refine rn_ldc2 hX kl174 dX11_hinders_49 52 rfl ?_
      exact rn_lret hX hr (by rw [henc]; rfl) dX11_hinders_52
    refine rn_lconst hX dX11_hinders_45 46 rfl lc_0 ?_
    refine rn_goto hX dX11_hinders_46 52 (by decide) ?_
    exact rn_lret hX hr (by rw [henc]; rfl) dX11_hinders_52
  refine rn_ldc2 hX kl172 dX11_hinders_21 24 rfl ?_
  exact rn_lret hX hr (by rw [henc]; rfl) dX11_hinders_24
abbrev rmX11_foot : Room := { frames := 5, cells := 0, slots := 0, locals := 115 }
theorem hdV_X11_foot : yX11_foot.cls = RX11 ∧ yX11_foot.cls ≠ "java/lang/invoke/MethodHandle" ∧ yX11_foot.cls ≠ "java/lang/invoke/VarHandle" ∧ (parseMethodDescriptor yX11_foot.desc).map (fun d => d.parameters.length) = some 4 := by decide +kernel
set_option maxHeartbeats 4000000 in
set_option maxRecDepth 100000 in
theorem c_X11_foot (l : Launch) (G : GT) (a_this a_state a_readPage a_tape a_letters a_sums a_aside a_groups a_sides a_names a_firstNames a_isKept a_lanes a_lengths a_cells a_had : Nat) (g_isAwake : Int32) (g_taped : Int32) (g_fault : Int32) (g_broken : Int32) (g_brokenAt : Int32) (g_spot : Int32) (g_here : Int32) (g_token : Int32) (g_value : Int32) (g_hasPlaces : Int32) (g_highest : Int32) (g_laid : Int32) (g_groupMany : Int32) (g_isDrawn : Int32) (g_torn : Int32) (g_state : (Nat → Int32)) (x1 : Int32) (x2 : Int32) (x3 : Int32) (x4 : Int32) {u : Int64 × Int32 × (Nat → Int32)} (hu : X11_foot x1 x2 x3 x4 g_isAwake g_state = some u) : Ctr l G yX11_foot wsX11_foot rmX11_foot [.ref a_this, .int x1, .int x2, .int x3, .int x4] [(a_this, .inr (11, [.ref a_state, .ref a_readPage, .int g_isAwake, .ref a_tape, .int g_taped, .int g_fault, .int g_broken, .int g_brokenAt, .int g_spot, .int g_here, .int g_token, .int g_value, .ref a_letters, .int g_hasPlaces, .int g_highest, .ref a_sums, .ref a_aside, .ref a_groups, .ref a_sides, .int g_laid, .int g_groupMany, .int g_isDrawn, .ref a_names, .ref a_firstNames, .ref a_isKept, .ref a_lanes, .ref a_lengths, .ref a_cells, .int g_torn, .ref a_had])), (a_state, .inl (G.2.1 1, 96, .inl g_state))] (some (.long u.1)) [(a_this, .inr (11, [.ref a_state, .ref a_readPage, .int u.2.1, .ref a_tape, .int g_taped, .int g_fault, .int g_broken, .int g_brokenAt, .int g_spot, .int g_here, .int g_token, .int g_value, .ref a_letters, .int g_hasPlaces, .int g_highest, .ref a_sums, .ref a_aside, .ref a_groups, .ref a_sides, .int g_laid, .int g_groupMany, .int g_isDrawn, .ref a_names, .ref a_firstNames, .ref a_isKept, .ref a_lanes, .ref a_lengths, .ref a_cells, .int g_torn, .ref a_had])), (a_state, .inl (G.2.1 1, 96, .inl u.2.2))] := by
  obtain ⟨enc, henc⟩ : ∃ enc : (Int64 × Int32 × (Nat → Int32)) → Option Value × va_W, enc = fun u => (((some (.long u.1)) : Option Value), ([(a_this, .inr (11, [.ref a_state, .ref a_readPage, .int u.2.1, .ref a_tape, .int g_taped, .int g_fault, .int g_broken, .int g_brokenAt, .int g_spot, .int g_here, .int g_token, .int g_value, .ref a_letters, .int g_hasPlaces, .int g_highest, .ref a_sums, .ref a_aside, .ref a_groups, .ref a_sides, .int g_laid, .int g_groupMany, .int g_isDrawn, .ref a_names, .ref a_firstNames, .ref a_isKept, .ref a_lanes, .ref a_lengths, .ref a_cells, .int g_torn, .ref a_had])), (a_state, .inl (G.2.1 1, 96, .inl u.2.2))] : va_W)) := ⟨_, rfl⟩
  refine ctr_of (cc := cX11_foot) (own := RX11) (E := Option.map enc) (o := X11_foot x1 x2 x3 x4 g_isAwake g_state) (by decide) rfl rfl (L := [(0, .ref a_this), (1, .int x1), (2, .int x2), (3, .int x3), (4, .int x4)]) rfl (Nat.le_of_ble_eq_true rfl) (by rw [hu, henc]; rfl) ?_
  intro Z hX hl hG hr
  subst hl; subst hG
  have kl179 : (Cond.constantLong RX11 179 (2)).before (za Z) (zs Z) = true := hX.wd (mcC _ wd_1219)
  unfold X11_foot
  refine rn_aload_n hX dX11_foot_0 0 rfl 1 rfl ?_
  refine rn_iload_n hX dX11_foot_1 1 rfl 2 rfl ?_
  refine rn_iload_n hX dX11_foot_2 2 rfl 3 rfl ?_
  refine rn_iload_n hX dX11_foot_3 3 rfl 4 rfl ?_
  refine rn_iload hX dX11_foot_4 4 rfl 6 rfl ?_
  refine rn_bind (fun u1 hu1 => ?_)
  refine rn_callV hX (gV mcC wd_1268 wd_1270 wd_51 wd_81 wd_1271) rfl hdV_X11_hinders rfl rfl ⟨Nat.le_of_ble_eq_true rfl, Nat.le_of_ble_eq_true rfl⟩ (c_X11_hinders (zl Z) (zG Z) a_this a_state a_readPage a_tape a_letters a_sums a_aside a_groups a_sides a_names a_firstNames a_isKept a_lanes a_lengths a_cells a_had g_isAwake g_taped g_fault g_broken g_brokenAt g_spot g_here g_token g_value g_hasPlaces g_highest g_laid g_groupMany g_isDrawn g_torn g_state x1 x2 x3 x4 hu1) rfl [0, 1] rfl rfl rfl (ci := 11) rfl rfl rfl (Nat.le_of_ble_eq_true rfl) dX11_foot_6 9 rfl (wn := [(a_this, .inr (11, [.ref a_state, .ref a_readPage, .int u1.2.1, .ref a_tape, .int g_taped, .int g_fault, .int g_broken, .int g_brokenAt, .int g_spot, .int g_here, .int g_token, .int g_value, .ref a_letters, .int g_hasPlaces, .int g_highest, .ref a_sums, .ref a_aside, .ref a_groups, .ref a_sides, .int g_laid, .int g_groupMany, .int g_isDrawn, .ref a_names, .ref a_firstNames, .ref a_isKept, .ref a_lanes, .ref a_lengths, .ref a_cells, .int g_torn, .ref a_had])), (a_state, .inl ((zG Z).2.1 1, 96, .inl u1.2.2))]) rfl (S' := [.long u1.1]) rfl ⟨Nat.zero_le _, Nat.zero_le _⟩ ?_
  refine rn_lstore hX dX11_foot_9 (by decide) (L' := [(5, .long u1.1), (0, .ref a_this), (1, .int x1), (2, .int x2), (3, .int x3), (4, .int x4)]) rfl 11 rfl ?_
  refine rn_lload hX dX11_foot_11 0 rfl 13 rfl ?_
  refine rn_lconst hX dX11_foot_13 14 rfl lc_0 ?_
  refine rn_lcmp_eq hX dX11_foot_14 15 rfl dX11_foot_15 23 (by decide) 18 rfl ?_ ?_
  · refine rn_aload_n hX dX11_foot_23 1 rfl 24 rfl ?_
    refine rn_iload_n hX dX11_foot_24 2 rfl 25 rfl ?_
    refine rn_iload_n hX dX11_foot_25 3 rfl 26 rfl ?_
    refine rn_iload_n hX dX11_foot_26 4 rfl 27 rfl ?_
    refine rn_bind (fun u2 hu2 => ?_)
    refine rn_callV0 hX (gV mcC wd_1220 wd_1222 wd_45 wd_81 wd_1223) rfl hdV_X11_dot rfl rfl ⟨Nat.le_of_ble_eq_true rfl, Nat.le_of_ble_eq_true rfl⟩ (c_X11_dot (zl Z) (zG Z) a_this a_state a_readPage a_tape a_letters a_sums a_aside a_groups a_sides a_names a_firstNames a_isKept a_lanes a_lengths a_cells a_had u1.2.1 g_taped g_fault g_broken g_brokenAt g_spot g_here g_token g_value g_hasPlaces g_highest g_laid g_groupMany g_isDrawn g_torn u1.2.2 x1 x2 x3 hu2) rfl [0, 1] rfl rfl (ci := 11) rfl rfl rfl (Nat.le_of_ble_eq_true rfl) dX11_foot_27 30 rfl (S' := [.long u2]) rfl ⟨Nat.zero_le _, Nat.zero_le _⟩ ?_
    refine rn_ldc2 hX kl179 dX11_foot_30 33 rfl ?_
    refine rn_aload_n hX dX11_foot_33 1 rfl 34 rfl ?_
    refine rn_iload_n hX dX11_foot_34 2 rfl 35 rfl ?_
    refine rn_iload_n hX dX11_foot_35 3 rfl 36 rfl ?_
    refine rn_bind (fun u3 hu3 => ?_)
    refine rn_callV0 hX (gV mcC wd_1156 wd_1158 wd_36 wd_81 wd_1159) rfl hdV_X11_sq rfl rfl ⟨Nat.le_of_ble_eq_true rfl, Nat.le_of_ble_eq_true rfl⟩ (c_X11_sq (zl Z) (zG Z) a_this a_state a_readPage a_tape a_letters a_sums a_aside a_groups a_sides a_names a_firstNames a_isKept a_lanes a_lengths a_cells a_had u1.2.1 g_taped g_fault g_broken g_brokenAt g_spot g_here g_token g_value g_hasPlaces g_highest g_laid g_groupMany g_isDrawn g_torn u1.2.2 x1 x2 hu3) rfl [0, 1] rfl rfl (ci := 11) rfl rfl rfl (Nat.le_of_ble_eq_true rfl) dX11_foot_36 39 rfl (S' := [.long u3, .long (2 : Int64), .long u2]) rfl ⟨Nat.zero_le _, Nat.zero_le _⟩ ?_
    refine rn_lmul hX dX11_foot_39 40 rfl ?_
    refine rn_iload hX dX11_foot_40 5 rfl 42 rfl ?_
    refine rn_bind (fun u4 hu4 => ?_)
    refine rn_callS0 hX (gS mcC wd_1272 wd_1273 wd_81 wd_1274) rfl hdS_X11_lowest rfl rfl ⟨Nat.le_of_ble_eq_true rfl, Nat.le_of_ble_eq_true rfl⟩ (c_X11_lowest (zl Z) (zG Z) u2 ((2 : Int64) * u3) x4 hu4) rfl [] rfl rfl rfl (Nat.le_of_ble_eq_true rfl) dX11_foot_42 45 rfl (S' := [.long u4]) rfl ⟨Nat.zero_le _, Nat.zero_le _⟩ ?_
    exact rn_lret hX hr (by rw [henc]; rfl) dX11_foot_45
  refine rn_lload hX dX11_foot_18 0 rfl 20 rfl ?_
  refine rn_goto hX dX11_foot_20 45 (by decide) ?_
  exact rn_lret hX hr (by rw [henc]; rfl) dX11_foot_45
abbrev rmX11_height : Room := { frames := 5, cells := 0, slots := 0, locals := 115 }
theorem hdV_X11_height : yX11_height.cls = RX11 ∧ yX11_height.cls ≠ "java/lang/invoke/MethodHandle" ∧ yX11_height.cls ≠ "java/lang/invoke/VarHandle" ∧ (parseMethodDescriptor yX11_height.desc).map (fun d => d.parameters.length) = some 4 := by decide +kernel
set_option maxHeartbeats 4000000 in
set_option maxRecDepth 100000 in
theorem c_X11_height (l : Launch) (G : GT) (a_this a_state a_readPage a_tape a_letters a_sums a_aside a_groups a_sides a_names a_firstNames a_isKept a_lanes a_lengths a_cells a_had : Nat) (g_isAwake : Int32) (g_taped : Int32) (g_fault : Int32) (g_broken : Int32) (g_brokenAt : Int32) (g_spot : Int32) (g_here : Int32) (g_token : Int32) (g_value : Int32) (g_hasPlaces : Int32) (g_highest : Int32) (g_laid : Int32) (g_groupMany : Int32) (g_isDrawn : Int32) (g_torn : Int32) (g_state : (Nat → Int32)) (x1 : Int32) (x2 : Int32) (x3 : Int32) (x4 : Int32) {u : Int64 × Int32 × (Nat → Int32)} (hu : X11_height x1 x2 x3 x4 g_isAwake g_state = some u) : Ctr l G yX11_height wsX11_height rmX11_height [.ref a_this, .int x1, .int x2, .int x3, .int x4] [(a_this, .inr (11, [.ref a_state, .ref a_readPage, .int g_isAwake, .ref a_tape, .int g_taped, .int g_fault, .int g_broken, .int g_brokenAt, .int g_spot, .int g_here, .int g_token, .int g_value, .ref a_letters, .int g_hasPlaces, .int g_highest, .ref a_sums, .ref a_aside, .ref a_groups, .ref a_sides, .int g_laid, .int g_groupMany, .int g_isDrawn, .ref a_names, .ref a_firstNames, .ref a_isKept, .ref a_lanes, .ref a_lengths, .ref a_cells, .int g_torn, .ref a_had])), (a_state, .inl (G.2.1 1, 96, .inl g_state))] (some (.long u.1)) [(a_this, .inr (11, [.ref a_state, .ref a_readPage, .int u.2.1, .ref a_tape, .int g_taped, .int g_fault, .int g_broken, .int g_brokenAt, .int g_spot, .int g_here, .int g_token, .int g_value, .ref a_letters, .int g_hasPlaces, .int g_highest, .ref a_sums, .ref a_aside, .ref a_groups, .ref a_sides, .int g_laid, .int g_groupMany, .int g_isDrawn, .ref a_names, .ref a_firstNames, .ref a_isKept, .ref a_lanes, .ref a_lengths, .ref a_cells, .int g_torn, .ref a_had])), (a_state, .inl (G.2.1 1, 96, .inl u.2.2))] := by
  obtain ⟨enc, henc⟩ : ∃ enc : (Int64 × Int32 × (Nat → Int32)) → Option Value × va_W, enc = fun u => (((some (.long u.1)) : Option Value), ([(a_this, .inr (11, [.ref a_state, .ref a_readPage, .int u.2.1, .ref a_tape, .int g_taped, .int g_fault, .int g_broken, .int g_brokenAt, .int g_spot, .int g_here, .int g_token, .int g_value, .ref a_letters, .int g_hasPlaces, .int g_highest, .ref a_sums, .ref a_aside, .ref a_groups, .ref a_sides, .int g_laid, .int g_groupMany, .int g_isDrawn, .ref a_names, .ref a_firstNames, .ref a_isKept, .ref a_lanes, .ref a_lengths, .ref a_cells, .int g_torn, .ref a_had])), (a_state, .inl (G.2.1 1, 96, .inl u.2.2))] : va_W)) := ⟨_, rfl⟩
  refine ctr_of (cc := cX11_height) (own := RX11) (E := Option.map enc) (o := X11_height x1 x2 x3 x4 g_isAwake g_state) (by decide) rfl rfl (L := [(0, .ref a_this), (1, .int x1), (2, .int x2), (3, .int x3), (4, .int x4)]) rfl (Nat.le_of_ble_eq_true rfl) (by rw [hu, henc]; rfl) ?_
  intro Z hX hl hG hr
  subst hl; subst hG
  have kl162 : (Cond.constantLong RX11 162 (4)).before (za Z) (zs Z) = true := hX.wd (mcC _ wd_1193)
  unfold X11_height
  refine rn_aload_n hX dX11_height_0 0 rfl 1 rfl ?_
  refine rn_iload_n hX dX11_height_1 1 rfl 2 rfl ?_
  refine rn_iload_n hX dX11_height_2 2 rfl 3 rfl ?_
  refine rn_iload_n hX dX11_height_3 3 rfl 4 rfl ?_
  refine rn_iload hX dX11_height_4 4 rfl 6 rfl ?_
  refine rn_bind (fun u1 hu1 => ?_)
  refine rn_callV hX (gV mcC wd_1268 wd_1270 wd_51 wd_81 wd_1271) rfl hdV_X11_hinders rfl rfl ⟨Nat.le_of_ble_eq_true rfl, Nat.le_of_ble_eq_true rfl⟩ (c_X11_hinders (zl Z) (zG Z) a_this a_state a_readPage a_tape a_letters a_sums a_aside a_groups a_sides a_names a_firstNames a_isKept a_lanes a_lengths a_cells a_had g_isAwake g_taped g_fault g_broken g_brokenAt g_spot g_here g_token g_value g_hasPlaces g_highest g_laid g_groupMany g_isDrawn g_torn g_state x1 x2 x3 x4 hu1) rfl [0, 1] rfl rfl rfl (ci := 11) rfl rfl rfl (Nat.le_of_ble_eq_true rfl) dX11_height_6 9 rfl (wn := [(a_this, .inr (11, [.ref a_state, .ref a_readPage, .int u1.2.1, .ref a_tape, .int g_taped, .int g_fault, .int g_broken, .int g_brokenAt, .int g_spot, .int g_here, .int g_token, .int g_value, .ref a_letters, .int g_hasPlaces, .int g_highest, .ref a_sums, .ref a_aside, .ref a_groups, .ref a_sides, .int g_laid, .int g_groupMany, .int g_isDrawn, .ref a_names, .ref a_firstNames, .ref a_isKept, .ref a_lanes, .ref a_lengths, .ref a_cells, .int g_torn, .ref a_had])), (a_state, .inl ((zG Z).2.1 1, 96, .inl u1.2.2))]) rfl (S' := [.long u1.1]) rfl ⟨Nat.zero_le _, Nat.zero_le _⟩ ?_
  refine rn_lstore hX dX11_height_9 (by decide) (L' := [(5, .long u1.1), (0, .ref a_this), (1, .int x1), (2, .int x2), (3, .int x3), (4, .int x4)]) rfl 11 rfl ?_
  refine rn_lload hX dX11_height_11 0 rfl 13 rfl ?_
  refine rn_lconst hX dX11_height_13 14 rfl lc_0 ?_
  refine rn_lcmp_eq hX dX11_height_14 15 rfl dX11_height_15 23 (by decide) 18 rfl ?_ ?_
  · refine rn_aload_n hX dX11_height_23 1 rfl 24 rfl ?_
    refine rn_iload_n hX dX11_height_24 2 rfl 25 rfl ?_
    refine rn_iload_n hX dX11_height_25 3 rfl 26 rfl ?_
    refine rn_iload_n hX dX11_height_26 4 rfl 27 rfl ?_
    refine rn_bind (fun u2 hu2 => ?_)
    refine rn_callV0 hX (gV mcC wd_1186 wd_1188 wd_40 wd_81 wd_1189) rfl hdV_X11_wideOf rfl rfl ⟨Nat.le_of_ble_eq_true rfl, Nat.le_of_ble_eq_true rfl⟩ (c_X11_wideOf (zl Z) (zG Z) a_this a_state a_readPage a_tape a_letters a_sums a_aside a_groups a_sides a_names a_firstNames a_isKept a_lanes a_lengths a_cells a_had u1.2.1 g_taped g_fault g_broken g_brokenAt g_spot g_here g_token g_value g_hasPlaces g_highest g_laid g_groupMany g_isDrawn g_torn u1.2.2 x1 x2 x3 hu2) rfl [0, 1] rfl rfl (ci := 11) rfl rfl rfl (Nat.le_of_ble_eq_true rfl) dX11_height_27 30 rfl (S' := [.long u2]) rfl ⟨Nat.zero_le _, Nat.zero_le _⟩ ?_
    refine rn_ldc2 hX kl162 dX11_height_30 33 rfl ?_
    refine rn_aload_n hX dX11_height_33 1 rfl 34 rfl ?_
    refine rn_iload_n hX dX11_height_34 2 rfl 35 rfl ?_
    refine rn_iload_n hX dX11_height_35 3 rfl 36 rfl ?_
    refine rn_bind (fun u3 hu3 => ?_)
    refine rn_callV0 hX (gV mcC wd_1156 wd_1158 wd_36 wd_81 wd_1159) rfl hdV_X11_sq rfl rfl ⟨Nat.le_of_ble_eq_true rfl, Nat.le_of_ble_eq_true rfl⟩ (c_X11_sq (zl Z) (zG Z) a_this a_state a_readPage a_tape a_letters a_sums a_aside a_groups a_sides a_names a_firstNames a_isKept a_lanes a_lengths a_cells a_had u1.2.1 g_taped g_fault g_broken g_brokenAt g_spot g_here g_token g_value g_hasPlaces g_highest g_laid g_groupMany g_isDrawn g_torn u1.2.2 x1 x2 hu3) rfl [0, 1] rfl rfl (ci := 11) rfl rfl rfl (Nat.le_of_ble_eq_true rfl) dX11_height_36 39 rfl (S' := [.long u3, .long (4 : Int64), .long u2]) rfl ⟨Nat.zero_le _, Nat.zero_le _⟩ ?_
    refine rn_lmul hX dX11_height_39 40 rfl ?_
    refine rn_iload hX dX11_height_40 5 rfl 42 rfl ?_
    refine rn_bind (fun u4 hu4 => ?_)
    refine rn_callS0 hX (gS mcC wd_1272 wd_1273 wd_81 wd_1274) rfl hdS_X11_lowest rfl rfl ⟨Nat.le_of_ble_eq_true rfl, Nat.le_of_ble_eq_true rfl⟩ (c_X11_lowest (zl Z) (zG Z) u2 ((4 : Int64) * u3) x4 hu4) rfl [] rfl rfl rfl (Nat.le_of_ble_eq_true rfl) dX11_height_42 45 rfl (S' := [.long u4]) rfl ⟨Nat.zero_le _, Nat.zero_le _⟩ ?_
    exact rn_lret hX hr (by rw [henc]; rfl) dX11_height_45
  refine rn_lload hX dX11_height_18 0 rfl 20 rfl ?_
  refine rn_goto hX dX11_height_20 45 (by decide) ?_
  exact rn_lret hX hr (by rw [henc]; rfl) dX11_height_45
abbrev rmX11_round : Room := { frames := 5, cells := 0, slots := 0, locals := 115 }
theorem hdV_X11_round : yX11_round.cls = RX11 ∧ yX11_round.cls ≠ "java/lang/invoke/MethodHandle" ∧ yX11_round.cls ≠ "java/lang/invoke/VarHandle" ∧ (parseMethodDescriptor yX11_round.desc).map (fun d => d.parameters.length) = some 4 := by decide +kernel
set_option maxHeartbeats 4000000 in
set_option maxRecDepth 100000 in
theorem c_X11_round (l : Launch) (G : GT) (a_this a_state a_readPage a_tape a_letters a_sums a_aside a_groups a_sides a_names a_firstNames a_isKept a_lanes a_lengths a_cells a_had : Nat) (g_isAwake : Int32) (g_taped : Int32) (g_fault : Int32) (g_broken : Int32) (g_brokenAt : Int32) (g_spot : Int32) (g_here : Int32) (g_token : Int32) (g_value : Int32) (g_hasPlaces : Int32) (g_highest : Int32) (g_laid : Int32) (g_groupMany : Int32) (g_isDrawn : Int32) (g_torn : Int32) (g_state : (Nat → Int32)) (x1 : Int32) (x2 : Int32) (x3 : Int32) (x4 : Int32) {u : Int64 × Int32 × (Nat → Int32)} (hu : X11_round x1 x2 x3 x4 g_isAwake g_state = some u) : Ctr l G yX11_round wsX11_round rmX11_round [.ref a_this, .int x1, .int x2, .int x3, .int x4] [(a_this, .inr (11, [.ref a_state, .ref a_readPage, .int g_isAwake, .ref a_tape, .int g_taped, .int g_fault, .int g_broken, .int g_brokenAt, .int g_spot, .int g_here, .int g_token, .int g_value, .ref a_letters, .int g_hasPlaces, .int g_highest, .ref a_sums, .ref a_aside, .ref a_groups, .ref a_sides, .int g_laid, .int g_groupMany, .int g_isDrawn, .ref a_names, .ref a_firstNames, .ref a_isKept, .ref a_lanes, .ref a_lengths, .ref a_cells, .int g_torn, .ref a_had])), (a_state, .inl (G.2.1 1, 96, .inl g_state))] (some (.long u.1)) [(a_this, .inr (11, [.ref a_state, .ref a_readPage, .int u.2.1, .ref a_tape, .int g_taped, .int g_fault, .int g_broken, .int g_brokenAt, .int g_spot, .int g_here, .int g_token, .int g_value, .ref a_letters, .int g_hasPlaces, .int g_highest, .ref a_sums, .ref a_aside, .ref a_groups, .ref a_sides, .int g_laid, .int g_groupMany, .int g_isDrawn, .ref a_names, .ref a_firstNames, .ref a_isKept, .ref a_lanes, .ref a_lengths, .ref a_cells, .int g_torn, .ref a_had])), (a_state, .inl (G.2.1 1, 96, .inl u.2.2))] := by
  obtain ⟨enc, henc⟩ : ∃ enc : (Int64 × Int32 × (Nat → Int32)) → Option Value × va_W, enc = fun u => (((some (.long u.1)) : Option Value), ([(a_this, .inr (11, [.ref a_state, .ref a_readPage, .int u.2.1, .ref a_tape, .int g_taped, .int g_fault, .int g_broken, .int g_brokenAt, .int g_spot, .int g_here, .int g_token, .int g_value, .ref a_letters, .int g_hasPlaces, .int g_highest, .ref a_sums, .ref a_aside, .ref a_groups, .ref a_sides, .int g_laid, .int g_groupMany, .int g_isDrawn, .ref a_names, .ref a_firstNames, .ref a_isKept, .ref a_lanes, .ref a_lengths, .ref a_cells, .int g_torn, .ref a_had])), (a_state, .inl (G.2.1 1, 96, .inl u.2.2))] : va_W)) := ⟨_, rfl⟩
  refine ctr_of (cc := cX11_round) (own := RX11) (E := Option.map enc) (o := X11_round x1 x2 x3 x4 g_isAwake g_state) (by decide) rfl rfl (L := [(0, .ref a_this), (1, .int x1), (2, .int x2), (3, .int x3), (4, .int x4)]) rfl (Nat.le_of_ble_eq_true rfl) (by rw [hu, henc]; rfl) ?_
  intro Z hX hl hG hr
  subst hl; subst hG
  have kl174 : (Cond.constantLong RX11 174 (-9000000001)).before (za Z) (zs Z) = true := hX.wd (mcC _ wd_1194)
  unfold X11_round
  refine rn_aload_n hX dX11_round_0 0 rfl 1 rfl ?_
  refine rn_iload_n hX dX11_round_1 1 rfl 2 rfl ?_
  refine rn_iload_n hX dX11_round_2 2 rfl 3 rfl ?_
  refine rn_iload_n hX dX11_round_3 3 rfl 4 rfl ?_
  refine rn_iload hX dX11_round_4 4 rfl 6 rfl ?_
  refine rn_bind (fun u1 hu1 => ?_)
  refine rn_callV hX (gV mcC wd_1268 wd_1270 wd_51 wd_81 wd_1271) rfl hdV_X11_hinders rfl rfl ⟨Nat.le_of_ble_eq_true rfl, Nat.le_of_ble_eq_true rfl⟩ (c_X11_hinders (zl Z) (zG Z) a_this a_state a_readPage a_tape a_letters a_sums a_aside a_groups a_sides a_names a_firstNames a_isKept a_lanes a_lengths a_cells a_had g_isAwake g_taped g_fault g_broken g_brokenAt g_spot g_here g_token g_value g_hasPlaces g_highest g_laid g_groupMany g_isDrawn g_torn g_state x1 x2 x3 x4 hu1) rfl [0, 1] rfl rfl rfl (ci := 11) rfl rfl rfl (Nat.le_of_ble_eq_true rfl) dX11_round_6 9 rfl (wn := [(a_this, .inr (11, [.ref a_state, .ref a_readPage, .int u1.2.1, .ref a_tape, .int g_taped, .int g_fault, .int g_broken, .int g_brokenAt, .int g_spot, .int g_here, .int g_token, .int g_value, .ref a_letters, .int g_hasPlaces, .int g_highest, .ref a_sums, .ref a_aside, .ref a_groups, .ref a_sides, .int g_laid, .int g_groupMany, .int g_isDrawn, .ref a_names, .ref a_firstNames, .ref a_isKept, .ref a_lanes, .ref a_lengths, .ref a_cells, .int g_torn, .ref a_had])), (a_state, .inl ((zG Z).2.1 1, 96, .inl u1.2.2))]) rfl (S' := [.long u1.1]) rfl ⟨Nat.zero_le _, Nat.zero_le _⟩ ?_
  refine rn_lstore hX dX11_round_9 (by decide) (L' := [(5, .long u1.1), (0, .ref a_this), (1, .int x1), (2, .int x2), (3, .int x3), (4, .int x4)]) rfl 11 rfl ?_
  refine rn_lload hX dX11_round_11 0 rfl 13 rfl ?_
  refine rn_lconst hX dX11_round_13 14 rfl lc_0 ?_
  refine rn_lcmp_eq hX dX11_round_14 15 rfl dX11_round_15 21 (by decide) 18 rfl ?_ ?_
  · refine rn_aload_n hX dX11_round_21 1 rfl 22 rfl ?_
    refine rn_iload_n hX dX11_round_22 2 rfl 23 rfl ?_
    refine rn_iload_n hX dX11_round_23 3 rfl 24 rfl ?_
    refine rn_iload_n hX dX11_round_24 4 rfl 25 rfl ?_
    refine rn_bind (fun u2 hu2 => ?_)
    refine rn_callV0 hX (gV mcC wd_1186 wd_1188 wd_40 wd_81 wd_1189) rfl hdV_X11_wideOf rfl rfl ⟨Nat.le_of_ble_eq_true rfl, Nat.le_of_ble_eq_true rfl⟩ (c_X11_wideOf (zl Z) (zG Z) a_this a_state a_readPage a_tape a_letters a_sums a_aside a_groups a_sides a_names a_firstNames a_isKept a_lanes a_lengths a_cells a_had u1.2.1 g_taped g_fault g_broken g_brokenAt g_spot g_here g_token g_value g_hasPlaces g_highest g_laid g_groupMany g_isDrawn g_torn u1.2.2 x1 x2 x3 hu2) rfl [0, 1] rfl rfl (ci := 11) rfl rfl rfl (Nat.le_of_ble_eq_true rfl) dX11_round_25 28 rfl (S' := [.long u2]) rfl ⟨Nat.zero_le _, Nat.zero_le _⟩ ?_
    refine rn_lconst hX dX11_round_28 29 rfl lc_0 ?_
    refine rn_lcmp_ne hX dX11_round_29 30 rfl dX11_round_30 39 (by decide) 33 rfl ?_ ?_
    · refine rn_aload_n hX dX11_round_39 1 rfl 40 rfl ?_
      refine rn_iload_n hX dX11_round_40 2 rfl 41 rfl ?_
      refine rn_iload_n hX dX11_round_41 3 rfl 42 rfl ?_
      refine rn_bind (fun u3 hu3 => ?_)
      refine rn_callV0 hX (gV mcC wd_1156 wd_1158 wd_36 wd_81 wd_1159) rfl hdV_X11_sq rfl rfl ⟨Nat.le_of_ble_eq_true rfl, Nat.le_of_ble_eq_true rfl⟩ (c_X11_sq (zl Z) (zG Z) a_this a_state a_readPage a_tape a_letters a_sums a_aside a_groups a_sides a_names a_firstNames a_isKept a_lanes a_lengths a_cells a_had u1.2.1 g_taped g_fault g_broken g_brokenAt g_spot g_here g_token g_value g_hasPlaces g_highest g_laid g_groupMany g_isDrawn g_torn u1.2.2 x1 x2 hu3) rfl [0, 1] rfl rfl (ci := 11) rfl rfl rfl (Nat.le_of_ble_eq_true rfl) dX11_round_42 45 rfl (S' := [.long u3]) rfl ⟨Nat.zero_le _, Nat.zero_le _⟩ ?_
      refine rn_aload_n hX dX11_round_45 1 rfl 46 rfl ?_
      refine rn_iload_n hX dX11_round_46 2 rfl 47 rfl ?_
      refine rn_iload_n hX dX11_round_47 4 rfl 48 rfl ?_
      refine rn_bind (fun u4 hu4 => ?_)
      refine rn_callV0 hX (gV mcC wd_1156 wd_1158 wd_36 wd_81 wd_1159) rfl hdV_X11_sq rfl rfl ⟨Nat.le_of_ble_eq_true rfl, Nat.le_of_ble_eq_true rfl⟩ (c_X11_sq (zl Z) (zG Z) a_this a_state a_readPage a_tape a_letters a_sums a_aside a_groups a_sides a_names a_firstNames a_isKept a_lanes a_lengths a_cells a_had u1.2.1 g_taped g_fault g_broken g_brokenAt g_spot g_here g_token g_value g_hasPlaces g_highest g_laid g_groupMany g_isDrawn g_torn u1.2.2 x1 x3 hu4) rfl [0, 1] rfl rfl (ci := 11) rfl rfl rfl (Nat.le_of_ble_eq_true rfl) dX11_round_48 51 rfl (S' := [.long u4, .long u3]) rfl ⟨Nat.zero_le _, Nat.zero_le _⟩ ?_
      refine rn_lmul hX dX11_round_51 52 rfl ?_
      refine rn_aload_n hX dX11_round_52 1 rfl 53 rfl ?_
      refine rn_iload_n hX dX11_round_53 3 rfl 54 rfl ?_
      refine rn_iload_n hX dX11_round_54 4 rfl 55 rfl ?_
      refine rn_bind (fun u5 hu5 => ?_)
      refine rn_callV0 hX (gV mcC wd_1156 wd_1158 wd_36 wd_81 wd_1159) rfl hdV_X11_sq rfl rfl ⟨Nat.le_of_ble_eq_true rfl, Nat.le_of_ble_eq_true rfl⟩ (c_X11_sq (zl Z) (zG Z) a_this a_state a_readPage a_tape a_letters a_sums a_aside a_groups a_sides a_names a_firstNames a_isKept a_lanes a_lengths a_cells a_had u1.2.1 g_taped g_fault g_broken g_brokenAt g_spot g_here g_token g_value g_hasPlaces g_highest g_laid g_groupMany g_isDrawn g_torn u1.2.2 x2 x3 hu5) rfl [0, 1] rfl rfl (ci := 11) rfl rfl rfl (Nat.le_of_ble_eq_true rfl) dX11_round_55 58 rfl (S' := [.long u5, .long (u3 * u4)]) rfl ⟨Nat.zero_le _, Nat.zero_le _⟩ ?_
      refine rn_lmul hX dX11_round_58 59 rfl ?_
      refine rn_aload_n hX dX11_round_59 1 rfl 60 rfl ?_
      refine rn_iload_n hX dX11_round_60 2 rfl 61 rfl ?_
      refine rn_iload_n hX dX11_round_61 3 rfl 62 rfl ?_
      refine rn_iload_n hX dX11_round_62 4 rfl 63 rfl ?_
      refine rn_bind (fun u6 hu6 => ?_)
      refine rn_callV0 hX (gV mcC wd_1186 wd_1188 wd_40 wd_81 wd_1189) rfl hdV_X11_wideOf rfl rfl ⟨Nat.le_of_ble_eq_true rfl, Nat.le_of_ble_eq_true rfl⟩ (c_X11_wideOf (zl Z) (zG Z) a_this a_state a_readPage a_tape a_letters a_sums a_aside a_groups a_sides a_names a_firstNames a_isKept a_lanes a_lengths a_cells a_had u1.2.1 g_taped g_fault g_broken g_brokenAt g_spot g_here g_token g_value g_hasPlaces g_highest g_laid g_groupMany g_isDrawn g_torn u1.2.2 x1 x2 x3 hu6) rfl [0, 1] rfl rfl (ci := 11) rfl rfl rfl (Nat.le_of_ble_eq_true rfl) dX11_round_63 66 rfl (S' := [.long u6, .long ((u3 * u4) * u5)]) rfl ⟨Nat.zero_le _, Nat.zero_le _⟩ ?_
      refine rn_iload hX dX11_round_66 5 rfl 68 rfl ?_
      refine rn_bind (fun u7 hu7 => ?_)
      refine rn_callS0 hX (gS mcC wd_1272 wd_1273 wd_81 wd_1274) rfl hdS_X11_lowest rfl rfl ⟨Nat.le_of_ble_eq_true rfl, Nat.le_of_ble_eq_true rfl⟩ (c_X11_lowest (zl Z) (zG Z) ((u3 * u4) * u5) u6 x4 hu7) rfl [] rfl rfl rfl (Nat.le_of_ble_eq_true rfl) dX11_round_68 71 rfl (S' := [.long u7]) rfl ⟨Nat.zero_le _, Nat.zero_le _⟩ ?_
      exact rn_lret hX hr (by rw [henc]; rfl) dX11_round_71
    refine rn_ldc2 hX kl174 dX11_round_33 36 rfl ?_
    refine rn_goto hX dX11_round_36 71 (by decide) ?_
    exact rn_lret hX hr (by rw [henc]; rfl) dX11_round_71
  refine rn_lload hX dX11_round_18 0 rfl 20 rfl ?_
  exact rn_lret hX hr (by rw [henc]; rfl) dX11_round_20
abbrev rmX11_sideOf : Room := { frames := 3, cells := 0, slots := 0, locals := 68 }
theorem hdV_X11_sideOf : yX11_sideOf.cls = RX11 ∧ yX11_sideOf.cls ≠ "java/lang/invoke/MethodHandle" ∧ yX11_sideOf.cls ≠ "java/lang/invoke/VarHandle" ∧ (parseMethodDescriptor yX11_sideOf.desc).map (fun d => d.parameters.length) = some 4 := by decide +kernel
set_option maxHeartbeats 4000000 in
set_option maxRecDepth 100000 in
theorem c_X11_sideOf (l : Launch) (G : GT) (a_this a_state a_readPage a_tape a_letters a_sums a_aside a_groups a_sides a_names a_firstNames a_isKept a_lanes a_lengths a_cells a_had : Nat) (g_isAwake : Int32) (g_taped : Int32) (g_fault : Int32) (g_broken : Int32) (g_brokenAt : Int32) (g_spot : Int32) (g_here : Int32) (g_token : Int32) (g_value : Int32) (g_hasPlaces : Int32) (g_highest : Int32) (g_laid : Int32) (g_groupMany : Int32) (g_isDrawn : Int32) (g_torn : Int32) (g_state : (Nat → Int32)) (x1 : Int32) (x2 : Int32) (x3 : Int32) (x4 : Int32) {u : Int32} (hu : X11_sideOf x1 x2 x3 x4 g_state = some u) : Ctr l G yX11_sideOf wsX11_sideOf rmX11_sideOf [.ref a_this, .int x1, .int x2, .int x3, .int x4] [(a_this, .inr (11, [.ref a_state, .ref a_readPage, .int g_isAwake, .ref a_tape, .int g_taped, .int g_fault, .int g_broken, .int g_brokenAt, .int g_spot, .int g_here, .int g_token, .int g_value, .ref a_letters, .int g_hasPlaces, .int g_highest, .ref a_sums, .ref a_aside, .ref a_groups, .ref a_sides, .int g_laid, .int g_groupMany, .int g_isDrawn, .ref a_names, .ref a_firstNames, .ref a_isKept, .ref a_lanes, .ref a_lengths, .ref a_cells, .int g_torn, .ref a_had])), (a_state, .inl (G.2.1 1, 96, .inl g_state))] (some (.int u)) [(a_this, .inr (11, [.ref a_state, .ref a_readPage, .int g_isAwake, .ref a_tape, .int g_taped, .int g_fault, .int g_broken, .int g_brokenAt, .int g_spot, .int g_here, .int g_token, .int g_value, .ref a_letters, .int g_hasPlaces, .int g_highest, .ref a_sums, .ref a_aside, .ref a_groups, .ref a_sides, .int g_laid, .int g_groupMany, .int g_isDrawn, .ref a_names, .ref a_firstNames, .ref a_isKept, .ref a_lanes, .ref a_lengths, .ref a_cells, .int g_torn, .ref a_had])), (a_state, .inl (G.2.1 1, 96, .inl g_state))] := by
  obtain ⟨enc, henc⟩ : ∃ enc : (Int32) → Option Value × va_W, enc = fun u => (((some (.int u)) : Option Value), ([(a_this, .inr (11, [.ref a_state, .ref a_readPage, .int g_isAwake, .ref a_tape, .int g_taped, .int g_fault, .int g_broken, .int g_brokenAt, .int g_spot, .int g_here, .int g_token, .int g_value, .ref a_letters, .int g_hasPlaces, .int g_highest, .ref a_sums, .ref a_aside, .ref a_groups, .ref a_sides, .int g_laid, .int g_groupMany, .int g_isDrawn, .ref a_names, .ref a_firstNames, .ref a_isKept, .ref a_lanes, .ref a_lengths, .ref a_cells, .int g_torn, .ref a_had])), (a_state, .inl (G.2.1 1, 96, .inl g_state))] : va_W)) := ⟨_, rfl⟩
  refine ctr_of (cc := cX11_sideOf) (own := RX11) (E := Option.map enc) (o := X11_sideOf x1 x2 x3 x4 g_state) (by decide) rfl rfl (L := [(0, .ref a_this), (1, .int x1), (2, .int x2), (3, .int x3), (4, .int x4)]) rfl (Nat.le_of_ble_eq_true rfl) (by rw [hu, henc]; rfl) ?_
  intro Z hX hl hG hr
  subst hl; subst hG
  have kl179 : (Cond.constantLong RX11 179 (2)).before (za Z) (zs Z) = true := hX.wd (mcC _ wd_1219)
  unfold X11_sideOf
  refine rn_ldc2 hX kl179 dX11_sideOf_0 3 rfl ?_
  refine rn_aload_n hX dX11_sideOf_3 0 rfl 4 rfl ?_
  refine rn_iload_n hX dX11_sideOf_4 1 rfl 5 rfl ?_
  refine rn_iload_n hX dX11_sideOf_5 2 rfl 6 rfl ?_
  refine rn_bind (fun u1 hu1 => ?_)
  refine rn_callV0 hX (gV mcC wd_1156 wd_1158 wd_36 wd_81 wd_1159) rfl hdV_X11_sq rfl rfl ⟨Nat.le_of_ble_eq_true rfl, Nat.le_of_ble_eq_true rfl⟩ (c_X11_sq (zl Z) (zG Z) a_this a_state a_readPage a_tape a_letters a_sums a_aside a_groups a_sides a_names a_firstNames a_isKept a_lanes a_lengths a_cells a_had g_isAwake g_taped g_fault g_broken g_brokenAt g_spot g_here g_token g_value g_hasPlaces g_highest g_laid g_groupMany g_isDrawn g_torn g_state x1 x2 hu1) rfl [0, 1] rfl rfl (ci := 11) rfl rfl rfl (Nat.le_of_ble_eq_true rfl) dX11_sideOf_6 9 rfl (S' := [.long u1, .long (2 : Int64)]) rfl ⟨Nat.zero_le _, Nat.zero_le _⟩ ?_
  refine rn_lmul hX dX11_sideOf_9 10 rfl ?_
  refine rn_aload_n hX dX11_sideOf_10 0 rfl 11 rfl ?_
  refine rn_iload_n hX dX11_sideOf_11 1 rfl 12 rfl ?_
  refine rn_iload_n hX dX11_sideOf_12 3 rfl 13 rfl ?_
  refine rn_iload hX dX11_sideOf_13 4 rfl 15 rfl ?_
  refine rn_bind (fun u2 hu2 => ?_)
  refine rn_callV0 hX (gV mcC wd_1220 wd_1222 wd_45 wd_81 wd_1223) rfl hdV_X11_dot rfl rfl ⟨Nat.le_of_ble_eq_true rfl, Nat.le_of_ble_eq_true rfl⟩ (c_X11_dot (zl Z) (zG Z) a_this a_state a_readPage a_tape a_letters a_sums a_aside a_groups a_sides a_names a_firstNames a_isKept a_lanes a_lengths a_cells a_had g_isAwake g_taped g_fault g_broken g_brokenAt g_spot g_here g_token g_value g_hasPlaces g_highest g_laid g_groupMany g_isDrawn g_torn g_state x1 x3 x4 hu2) rfl [0, 1] rfl rfl (ci := 11) rfl rfl rfl (Nat.le_of_ble_eq_true rfl) dX11_sideOf_15 18 rfl (S' := [.long u2, .long ((2 : Int64) * u1)]) rfl ⟨Nat.zero_le _, Nat.zero_le _⟩ ?_
  refine rn_lmul hX dX11_sideOf_18 19 rfl ?_
  refine rn_aload_n hX dX11_sideOf_19 0 rfl 20 rfl ?_
  refine rn_iload_n hX dX11_sideOf_20 1 rfl 21 rfl ?_
  refine rn_iload_n hX dX11_sideOf_21 2 rfl 22 rfl ?_
  refine rn_iload_n hX dX11_sideOf_22 3 rfl 23 rfl ?_
  refine rn_bind (fun u3 hu3 => ?_)
  refine rn_callV0 hX (gV mcC wd_1220 wd_1222 wd_45 wd_81 wd_1223) rfl hdV_X11_dot rfl rfl ⟨Nat.le_of_ble_eq_true rfl, Nat.le_of_ble_eq_true rfl⟩ (c_X11_dot (zl Z) (zG Z) a_this a_state a_readPage a_tape a_letters a_sums a_aside a_groups a_sides a_names a_firstNames a_isKept a_lanes a_lengths a_cells a_had g_isAwake g_taped g_fault g_broken g_brokenAt g_spot g_here g_token g_value g_hasPlaces g_highest g_laid g_groupMany g_isDrawn g_torn g_state x1 x2 x3 hu3) rfl [0, 1] rfl rfl (ci := 11) rfl rfl rfl (Nat.le_of_ble_eq_true rfl) dX11_sideOf_23 26 rfl (S' := [.long u3, .long (((2 : Int64) * u1) * u2)]) rfl ⟨Nat.zero_le _, Nat.zero_le _⟩ ?_
  refine rn_aload_n hX dX11_sideOf_26 0 rfl 27 rfl ?_
  refine rn_iload_n hX dX11_sideOf_27 1 rfl 28 rfl ?_
  refine rn_iload_n hX dX11_sideOf_28 2 rfl 29 rfl ?_
  refine rn_iload hX dX11_sideOf_29 4 rfl 31 rfl ?_
  refine rn_bind (fun u4 hu4 => ?_)
  refine rn_callV0 hX (gV mcC wd_1220 wd_1222 wd_45 wd_81 wd_1223) rfl hdV_X11_dot rfl rfl ⟨Nat.le_of_ble_eq_true rfl, Nat.le_of_ble_eq_true rfl⟩ (c_X11_dot (zl Z) (zG Z) a_this a_state a_readPage a_tape a_letters a_sums a_aside a_groups a_sides a_names a_firstNames a_isKept a_lanes a_lengths a_cells a_had g_isAwake g_taped g_fault g_broken g_brokenAt g_spot g_here g_token g_value g_hasPlaces g_highest g_laid g_groupMany g_isDrawn g_torn g_state x1 x2 x4 hu4) rfl [0, 1] rfl rfl (ci := 11) rfl rfl rfl (Nat.le_of_ble_eq_true rfl) dX11_sideOf_31 34 rfl (S' := [.long u4, .long u3, .long (((2 : Int64) * u1) * u2)]) rfl ⟨Nat.zero_le _, Nat.zero_le _⟩ ?_
  refine rn_lmul hX dX11_sideOf_34 35 rfl ?_
  refine rn_lsub hX dX11_sideOf_35 36 rfl ?_
  refine rn_callS0 hX (gS mcC wd_1261 wd_1262 wd_81 wd_1263) rfl hdS_X11_signOf rfl rfl ⟨Nat.le_of_ble_eq_true rfl, Nat.le_of_ble_eq_true rfl⟩ (c_X11_signOf (zl Z) (zG Z) ((((2 : Int64) * u1) * u2) - (u3 * u4)) rfl) rfl [] rfl rfl rfl (Nat.le_of_ble_eq_true rfl) dX11_sideOf_36 39 rfl (S' := [.int (X11_signOf ((((2 : Int64) * u1) * u2) - (u3 * u4)))]) rfl ⟨Nat.zero_le _, Nat.zero_le _⟩ ?_
  exact rn_iret hX hr (by rw [henc]; rfl) dX11_sideOf_39
abbrev rmX11_isWhole : Room := { frames := 5, cells := 0, slots := 0, locals := 127 }
theorem hdV_X11_isWhole : yX11_isWhole.cls = RX11 ∧ yX11_isWhole.cls ≠ "java/lang/invoke/MethodHandle" ∧ yX11_isWhole.cls ≠ "java/lang/invoke/VarHandle" ∧ (parseMethodDescriptor yX11_isWhole.desc).map (fun d => d.parameters.length) = some 4 := by decide +kernel
set_option maxHeartbeats 4000000 in
set_option maxRecDepth 100000 in
theorem c_X11_isWhole (l : Launch) (G : GT) (a_this a_state a_readPage a_tape a_letters a_sums a_aside a_groups a_sides a_names a_firstNames a_isKept a_lanes a_lengths a_cells a_had : Nat) (g_isAwake : Int32) (g_taped : Int32) (g_fault : Int32) (g_broken : Int32) (g_brokenAt : Int32) (g_spot : Int32) (g_here : Int32) (g_token : Int32) (g_value : Int32) (g_hasPlaces : Int32) (g_highest : Int32) (g_laid : Int32) (g_groupMany : Int32) (g_isDrawn : Int32) (g_torn : Int32) (g_state : (Nat → Int32)) (x1 : Int32) (x2 : Int32) (x3 : Int32) (x4 : Int32) {u : Int32} (hu : X11_isWhole x1 x2 x3 x4 g_state = some u) : Ctr l G yX11_isWhole wsX11_isWhole rmX11_isWhole [.ref a_this, .int x1, .int x2, .int x3, .int x4] [(a_this, .inr (11, [.ref a_state, .ref a_readPage, .int g_isAwake, .ref a_tape, .int g_taped, .int g_fault, .int g_broken, .int g_brokenAt, .int g_spot, .int g_here, .int g_token, .int g_value, .ref a_letters, .int g_hasPlaces, .int g_highest, .ref a_sums, .ref a_aside, .ref a_groups, .ref a_sides, .int g_laid, .int g_groupMany, .int g_isDrawn, .ref a_names, .ref a_firstNames, .ref a_isKept, .ref a_lanes, .ref a_lengths, .ref a_cells, .int g_torn, .ref a_had])), (a_state, .inl (G.2.1 1, 96, .inl g_state))] (some (.int u)) [(a_this, .inr (11, [.ref a_state, .ref a_readPage, .int g_isAwake, .ref a_tape, .int g_taped, .int g_fault, .int g_broken, .int g_brokenAt, .int g_spot, .int g_here, .int g_token, .int g_value, .ref a_letters, .int g_hasPlaces, .int g_highest, .ref a_sums, .ref a_aside, .ref a_groups, .ref a_sides, .int g_laid, .int g_groupMany, .int g_isDrawn, .ref a_names, .ref a_firstNames, .ref a_isKept, .ref a_lanes, .ref a_lengths, .ref a_cells, .int g_torn, .ref a_had])), (a_state, .inl (G.2.1 1, 96, .inl g_state))] := by
  obtain ⟨enc, henc⟩ : ∃ enc : (Int32) → Option Value × va_W, enc = fun u => (((some (.int u)) : Option Value), ([(a_this, .inr (11, [.ref a_state, .ref a_readPage, .int g_isAwake, .ref a_tape, .int g_taped, .int g_fault, .int g_broken, .int g_brokenAt, .int g_spot, .int g_here, .int g_token, .int g_value, .ref a_letters, .int g_hasPlaces, .int g_highest, .ref a_sums, .ref a_aside, .ref a_groups, .ref a_sides, .int g_laid, .int g_groupMany, .int g_isDrawn, .ref a_names, .ref a_firstNames, .ref a_isKept, .ref a_lanes, .ref a_lengths, .ref a_cells, .int g_torn, .ref a_had])), (a_state, .inl (G.2.1 1, 96, .inl g_state))] : va_W)) := ⟨_, rfl⟩
  refine ctr_of (cc := cX11_isWhole) (own := RX11) (E := Option.map enc) (o := X11_isWhole x1 x2 x3 x4 g_state) (by decide) rfl rfl (L := [(0, .ref a_this), (1, .int x1), (2, .int x2), (3, .int x3), (4, .int x4)]) rfl (Nat.le_of_ble_eq_true rfl) (by rw [hu, henc]; rfl) ?_
  intro Z hX hl hG hr
  subst hl; subst hG
  have hJ54 : ∀ (x1 : Int32) (x2 : Int32) (x3 : Int32) (x4 : Int32) (s0 : Int32), Rn Z 6 (Option.map enc) 0 0 54 [(0, .ref a_this), (1, .int x1), (2, .int x2), (3, .int x3), (4, .int x4)] [.int s0] [(a_this, .inr (11, [.ref a_state, .ref a_readPage, .int g_isAwake, .ref a_tape, .int g_taped, .int g_fault, .int g_broken, .int g_brokenAt, .int g_spot, .int g_here, .int g_token, .int g_value, .ref a_letters, .int g_hasPlaces, .int g_highest, .ref a_sums, .ref a_aside, .ref a_groups, .ref a_sides, .int g_laid, .int g_groupMany, .int g_isDrawn, .ref a_names, .ref a_firstNames, .ref a_isKept, .ref a_lanes, .ref a_lengths, .ref a_cells, .int g_torn, .ref a_had])), (a_state, .inl ((zG Z).2.1 1, 96, .inl g_state))] (X11_isWhole_J54 g_state x1 x2 x3 x4 s0) := by
    intro x1 x2 x3 x4 s0
    unfold X11_isWhole_J54
    refine rn_istore hX dX11_isWhole_54 (by decide) (L' := [(5, .int s0), (0, .ref a_this), (1, .int x1), (2, .int x2), (3, .int x3), (4, .int x4)]) rfl 56 rfl ?_
    refine rn_iload hX dX11_isWhole_56 0 rfl 58 rfl ?_
    refine rn_iload_n hX dX11_isWhole_58 2 rfl 59 rfl ?_
    refine rn_icmp_ne hX dX11_isWhole_59 74 (by decide) 62 rfl ?_ ?_
    · refine rn_iload hX dX11_isWhole_74 0 rfl 76 rfl ?_
      refine rn_iload_n hX dX11_isWhole_76 3 rfl 77 rfl ?_
      refine rn_icmp_ne hX dX11_isWhole_77 92 (by decide) 80 rfl ?_ ?_
      · refine rn_iload hX dX11_isWhole_92 0 rfl 94 rfl ?_
        refine rn_iload_n hX dX11_isWhole_94 4 rfl 95 rfl ?_
        refine rn_icmp_ne hX dX11_isWhole_95 110 (by decide) 98 rfl ?_ ?_
        · refine rn_aload_n hX dX11_isWhole_110 1 rfl 111 rfl ?_
          refine rn_iload hX dX11_isWhole_111 5 rfl 113 rfl ?_
          refine rn_iload_n hX dX11_isWhole_113 2 rfl 114 rfl ?_
          refine rn_iload_n hX dX11_isWhole_114 3 rfl 115 rfl ?_
          refine rn_iload_n hX dX11_isWhole_115 4 rfl 116 rfl ?_
          refine rn_bind (fun u1 hu1 => ?_)
          refine rn_callV0 hX (gV mcC wd_1215 wd_1217 wd_44 wd_81 wd_1218) rfl hdV_X11_canFour rfl rfl ⟨Nat.le_of_ble_eq_true rfl, Nat.le_of_ble_eq_true rfl⟩ (c_X11_canFour (zl Z) (zG Z) a_this a_state a_readPage a_tape a_letters a_sums a_aside a_groups a_sides a_names a_firstNames a_isKept a_lanes a_lengths a_cells a_had g_isAwake g_taped g_fault g_broken g_brokenAt g_spot g_here g_token g_value g_hasPlaces g_highest g_laid g_groupMany g_isDrawn g_torn g_state x4 x1 x2 x3 hu1) rfl [0, 1] rfl rfl (ci := 11) rfl rfl rfl (Nat.le_of_ble_eq_true rfl) dX11_isWhole_116 119 rfl (S' := [.int u1]) rfl ⟨Nat.zero_le _, Nat.zero_le _⟩ ?_
          refine rn_gz (fun hz2 => ?_)
          exact rn_zret hX (nar_z hz2) hr (by rw [henc]; rfl) dX11_isWhole_119
        refine rn_aload_n hX dX11_isWhole_98 1 rfl 99 rfl ?_
        refine rn_iload_n hX dX11_isWhole_99 4 rfl 100 rfl ?_
        refine rn_iload_n hX dX11_isWhole_100 2 rfl 101 rfl ?_
        refine rn_iload_n hX dX11_isWhole_101 3 rfl 102 rfl ?_
        refine rn_iload hX dX11_isWhole_102 5 rfl 104 rfl ?_
        refine rn_bind (fun u3 hu3 => ?_)
        refine rn_callV0 hX (gV mcC wd_1215 wd_1217 wd_44 wd_81 wd_1218) rfl hdV_X11_canFour rfl rfl ⟨Nat.le_of_ble_eq_true rfl, Nat.le_of_ble_eq_true rfl⟩ (c_X11_canFour (zl Z) (zG Z) a_this a_state a_readPage a_tape a_letters a_sums a_aside a_groups a_sides a_names a_firstNames a_isKept a_lanes a_lengths a_cells a_had g_isAwake g_taped g_fault g_broken g_brokenAt g_spot g_here g_token g_value g_hasPlaces g_highest g_laid g_groupMany g_isDrawn g_torn g_state x3 x1 x2 x4 hu3) rfl [0, 1] rfl rfl (ci := 11) rfl rfl rfl (Nat.le_of_ble_eq_true rfl) dX11_isWhole_104 107 rfl (S' := [.int u3]) rfl ⟨Nat.zero_le _, Nat.zero_le _⟩ ?_
        refine rn_goto hX dX11_isWhole_107 119 (by decide) ?_
        refine rn_gz (fun hz4 => ?_)
        exact rn_zret hX (nar_z hz4) hr (by rw [henc]; rfl) dX11_isWhole_119
      refine rn_aload_n hX dX11_isWhole_80 1 rfl 81 rfl ?_
      refine rn_iload_n hX dX11_isWhole_81 3 rfl 82 rfl ?_
      refine rn_iload_n hX dX11_isWhole_82 2 rfl 83 rfl ?_
      refine rn_iload_n hX dX11_isWhole_83 4 rfl 84 rfl ?_
      refine rn_iload hX dX11_isWhole_84 5 rfl 86 rfl ?_
      refine rn_bind (fun u5 hu5 => ?_)
      refine rn_callV0 hX (gV mcC wd_1215 wd_1217 wd_44 wd_81 wd_1218) rfl hdV_X11_canFour rfl rfl ⟨Nat.le_of_ble_eq_true rfl, Nat.le_of_ble_eq_true rfl⟩ (c_X11_canFour (zl Z) (zG Z) a_this a_state a_readPage a_tape a_letters a_sums a_aside a_groups a_sides a_names a_firstNames a_isKept a_lanes a_lengths a_cells a_had g_isAwake g_taped g_fault g_broken g_brokenAt g_spot g_here g_token g_value g_hasPlaces g_highest g_laid g_groupMany g_isDrawn g_torn g_state x2 x1 x3 x4 hu5) rfl [0, 1] rfl rfl (ci := 11) rfl rfl rfl (Nat.le_of_ble_eq_true rfl) dX11_isWhole_86 89 rfl (S' := [.int u5]) rfl ⟨Nat.zero_le _, Nat.zero_le _⟩ ?_
      refine rn_goto hX dX11_isWhole_89 119 (by decide) ?_
      refine rn_gz (fun hz6 => ?_)
      exact rn_zret hX (nar_z hz6) hr (by rw [henc]; rfl) dX11_isWhole_119
    refine rn_aload_n hX dX11_isWhole_62 1 rfl 63 rfl ?_
    refine rn_iload_n hX dX11_isWhole_63 2 rfl 64 rfl ?_
    refine rn_iload_n hX dX11_isWhole_64 3 rfl 65 rfl ?_
    refine rn_iload_n hX dX11_isWhole_65 4 rfl 66 rfl ?_
    refine rn_iload hX dX11_isWhole_66 5 rfl 68 rfl ?_
    refine rn_bind (fun u7 hu7 => ?_)
    refine rn_callV0 hX (gV mcC wd_1215 wd_1217 wd_44 wd_81 wd_1218) rfl hdV_X11_canFour rfl rfl ⟨Nat.le_of_ble_eq_true rfl, Nat.le_of_ble_eq_true rfl⟩ (c_X11_canFour (zl Z) (zG Z) a_this a_state a_readPage a_tape a_letters a_sums a_aside a_groups a_sides a_names a_firstNames a_isKept a_lanes a_lengths a_cells a_had g_isAwake g_taped g_fault g_broken g_brokenAt g_spot g_here g_token g_value g_hasPlaces g_highest g_laid g_groupMany g_isDrawn g_torn g_state x1 x2 x3 x4 hu7) rfl [0, 1] rfl rfl (ci := 11) rfl rfl rfl (Nat.le_of_ble_eq_true rfl) dX11_isWhole_68 71 rfl (S' := [.int u7]) rfl ⟨Nat.zero_le _, Nat.zero_le _⟩ ?_
    refine rn_goto hX dX11_isWhole_71 119 (by decide) ?_
    refine rn_gz (fun hz8 => ?_)
    exact rn_zret hX (nar_z hz8) hr (by rw [henc]; rfl) dX11_isWhole_119
  have hJ38 : ∀ (x1 : Int32) (x2 : Int32) (x3 : Int32) (x4 : Int32) (s0 : Int32), Rn Z 6 (Option.map enc) 0 0 38 [(0, .ref a_this), (1, .int x1), (2, .int x2), (3, .int x3), (4, .int x4)] [.int s0] [(a_this, .inr (11, [.ref a_state, .ref a_readPage, .int g_isAwake, .ref a_tape, .int g_taped, .int g_fault, .int g_broken, .int g_brokenAt, .int g_spot, .int g_here, .int g_token, .int g_value, .ref a_letters, .int g_hasPlaces, .int g_highest, .ref a_sums, .ref a_aside, .ref a_groups, .ref a_sides, .int g_laid, .int g_groupMany, .int g_isDrawn, .ref a_names, .ref a_firstNames, .ref a_isKept, .ref a_lanes, .ref a_lengths, .ref a_cells, .int g_torn, .ref a_had])), (a_state, .inl ((zG Z).2.1 1, 96, .inl g_state))] (X11_isWhole_J38 g_state x1 x2 x3 x4 s0) := by
    intro x1 x2 x3 x4 s0
    unfold X11_isWhole_J38
    refine rn_istore hX dX11_isWhole_38 (by decide) (L' := [(5, .int s0), (0, .ref a_this), (1, .int x1), (2, .int x2), (3, .int x3), (4, .int x4)]) rfl 40 rfl ?_
    refine rn_iload hX dX11_isWhole_40 5 rfl 42 rfl ?_
    refine rn_iload hX dX11_isWhole_42 0 rfl 44 rfl ?_
    refine rn_icmp_ge hX dX11_isWhole_44 52 (by decide) 47 rfl ?_ ?_
    · refine rn_iload hX dX11_isWhole_52 0 rfl 54 rfl ?_
      refine rn_sub [1, 2, 3, 4, 5] rfl ?_
      exact hJ54 x1 x2 x3 x4 s0
    refine rn_iload hX dX11_isWhole_47 5 rfl 49 rfl ?_
    refine rn_goto hX dX11_isWhole_49 54 (by decide) ?_
    refine rn_sub [1, 2, 3, 4, 5] rfl ?_
    exact hJ54 x1 x2 x3 x4 x4
  have hJ24 : ∀ (x1 : Int32) (x2 : Int32) (x3 : Int32) (x4 : Int32) (s0 : Int32), Rn Z 6 (Option.map enc) 0 0 24 [(0, .ref a_this), (1, .int x1), (2, .int x2), (3, .int x3), (4, .int x4)] [.int s0] [(a_this, .inr (11, [.ref a_state, .ref a_readPage, .int g_isAwake, .ref a_tape, .int g_taped, .int g_fault, .int g_broken, .int g_brokenAt, .int g_spot, .int g_here, .int g_token, .int g_value, .ref a_letters, .int g_hasPlaces, .int g_highest, .ref a_sums, .ref a_aside, .ref a_groups, .ref a_sides, .int g_laid, .int g_groupMany, .int g_isDrawn, .ref a_names, .ref a_firstNames, .ref a_isKept, .ref a_lanes, .ref a_lengths, .ref a_cells, .int g_torn, .ref a_had])), (a_state, .inl ((zG Z).2.1 1, 96, .inl g_state))] (X11_isWhole_J24 g_state x1 x2 x3 x4 s0) := by
    intro x1 x2 x3 x4 s0
    unfold X11_isWhole_J24
    refine rn_istore hX dX11_isWhole_24 (by decide) (L' := [(5, .int s0), (0, .ref a_this), (1, .int x1), (2, .int x2), (3, .int x3), (4, .int x4)]) rfl 26 rfl ?_
    refine rn_iload_n hX dX11_isWhole_26 4 rfl 27 rfl ?_
    refine rn_iload hX dX11_isWhole_27 0 rfl 29 rfl ?_
    refine rn_icmp_ge hX dX11_isWhole_29 36 (by decide) 32 rfl ?_ ?_
    · refine rn_iload hX dX11_isWhole_36 0 rfl 38 rfl ?_
      refine rn_sub [1, 2, 3, 4, 5] rfl ?_
      exact hJ38 x1 x2 x3 x4 s0
    refine rn_iload_n hX dX11_isWhole_32 4 rfl 33 rfl ?_
    refine rn_goto hX dX11_isWhole_33 38 (by decide) ?_
    refine rn_sub [1, 2, 3, 4, 5] rfl ?_
    exact hJ38 x1 x2 x3 x4 x3
  unfold X11_isWhole
  refine rn_aload_n hX dX11_isWhole_0 0 rfl 1 rfl ?_
  refine rn_iload_n hX dX11_isWhole_1 1 rfl 2 rfl ?_
  refine rn_iload_n hX dX11_isWhole_2 2 rfl 3 rfl ?_
  refine rn_iload_n hX dX11_isWhole_3 3 rfl 4 rfl ?_
  refine rn_iload hX dX11_isWhole_4 4 rfl 6 rfl ?_
  refine rn_bind (fun u9 hu9 => ?_)
  refine rn_callV0 hX (gV mcC wd_1211 wd_1213 wd_43 wd_81 wd_1214) rfl hdV_X11_allTold rfl rfl ⟨Nat.le_of_ble_eq_true rfl, Nat.le_of_ble_eq_true rfl⟩ (c_X11_allTold (zl Z) (zG Z) a_this a_state a_readPage a_tape a_letters a_sums a_aside a_groups a_sides a_names a_firstNames a_isKept a_lanes a_lengths a_cells a_had g_isAwake g_taped g_fault g_broken g_brokenAt g_spot g_here g_token g_value g_hasPlaces g_highest g_laid g_groupMany g_isDrawn g_torn g_state x1 x2 x3 x4 hu9) rfl [0, 1] rfl rfl (ci := 11) rfl rfl rfl (Nat.le_of_ble_eq_true rfl) dX11_isWhole_6 9 rfl (S' := [.int u9]) rfl ⟨Nat.zero_le _, Nat.zero_le _⟩ ?_
  refine rn_if_ne hX dX11_isWhole_9 14 (by decide) 12 rfl ?_ ?_
  · refine rn_iload_n hX dX11_isWhole_14 1 rfl 15 rfl ?_
    refine rn_iload_n hX dX11_isWhole_15 2 rfl 16 rfl ?_
    refine rn_icmp_ge hX dX11_isWhole_16 23 (by decide) 19 rfl ?_ ?_
    · refine rn_iload_n hX dX11_isWhole_23 2 rfl 24 rfl ?_
      exact hJ24 x1 x2 x3 x4 x2
    refine rn_iload_n hX dX11_isWhole_19 1 rfl 20 rfl ?_
    refine rn_goto hX dX11_isWhole_20 24 (by decide) ?_
    exact hJ24 x1 x2 x3 x4 x1
  refine rn_iconst hX dX11_isWhole_12 13 rfl ic_0 ?_
  exact rn_zret hX rfl hr (by rw [henc]; rfl) dX11_isWhole_13
abbrev rmX11_side : Room := { frames := 6, cells := 0, slots := 0, locals := 152 }
theorem hdV_X11_side : yX11_side.cls = RX11 ∧ yX11_side.cls ≠ "java/lang/invoke/MethodHandle" ∧ yX11_side.cls ≠ "java/lang/invoke/VarHandle" ∧ (parseMethodDescriptor yX11_side.desc).map (fun d => d.parameters.length) = some 4 := by decide +kernel
set_option maxHeartbeats 4000000 in
set_option maxRecDepth 100000 in
theorem c_X11_side (l : Launch) (G : GT) (a_this a_state a_readPage a_tape a_letters a_sums a_aside a_groups a_sides a_names a_firstNames a_isKept a_lanes a_lengths a_cells a_had : Nat) (g_isAwake : Int32) (g_taped : Int32) (g_fault : Int32) (g_broken : Int32) (g_brokenAt : Int32) (g_spot : Int32) (g_here : Int32) (g_token : Int32) (g_value : Int32) (g_hasPlaces : Int32) (g_highest : Int32) (g_laid : Int32) (g_groupMany : Int32) (g_isDrawn : Int32) (g_torn : Int32) (g_state : (Nat → Int32)) (x1 : Int32) (x2 : Int32) (x3 : Int32) (x4 : Int32) {u : Int32 × Int32 × (Nat → Int32)} (hu : X11_side x1 x2 x3 x4 g_isAwake g_state = some u) : Ctr l G yX11_side wsX11_side rmX11_side [.ref a_this, .int x1, .int x2, .int x3, .int x4] [(a_this, .inr (11, [.ref a_state, .ref a_readPage, .int g_isAwake, .ref a_tape, .int g_taped, .int g_fault, .int g_broken, .int g_brokenAt, .int g_spot, .int g_here, .int g_token, .int g_value, .ref a_letters, .int g_hasPlaces, .int g_highest, .ref a_sums, .ref a_aside, .ref a_groups, .ref a_sides, .int g_laid, .int g_groupMany, .int g_isDrawn, .ref a_names, .ref a_firstNames, .ref a_isKept, .ref a_lanes, .ref a_lengths, .ref a_cells, .int g_torn, .ref a_had])), (a_state, .inl (G.2.1 1, 96, .inl g_state))] (some (.int u.1)) [(a_this, .inr (11, [.ref a_state, .ref a_readPage, .int u.2.1, .ref a_tape, .int g_taped, .int g_fault, .int g_broken, .int g_brokenAt, .int g_spot, .int g_here, .int g_token, .int g_value, .ref a_letters, .int g_hasPlaces, .int g_highest, .ref a_sums, .ref a_aside, .ref a_groups, .ref a_sides, .int g_laid, .int g_groupMany, .int g_isDrawn, .ref a_names, .ref a_firstNames, .ref a_isKept, .ref a_lanes, .ref a_lengths, .ref a_cells, .int g_torn, .ref a_had])), (a_state, .inl (G.2.1 1, 96, .inl u.2.2))] := by
  obtain ⟨enc, henc⟩ : ∃ enc : (Int32 × Int32 × (Nat → Int32)) → Option Value × va_W, enc = fun u => (((some (.int u.1)) : Option Value), ([(a_this, .inr (11, [.ref a_state, .ref a_readPage, .int u.2.1, .ref a_tape, .int g_taped, .int g_fault, .int g_broken, .int g_brokenAt, .int g_spot, .int g_here, .int g_token, .int g_value, .ref a_letters, .int g_hasPlaces, .int g_highest, .ref a_sums, .ref a_aside, .ref a_groups, .ref a_sides, .int g_laid, .int g_groupMany, .int g_isDrawn, .ref a_names, .ref a_firstNames, .ref a_isKept, .ref a_lanes, .ref a_lengths, .ref a_cells, .int g_torn, .ref a_had])), (a_state, .inl (G.2.1 1, 96, .inl u.2.2))] : va_W)) := ⟨_, rfl⟩
  refine ctr_of (cc := cX11_side) (own := RX11) (E := Option.map enc) (o := X11_side x1 x2 x3 x4 g_isAwake g_state) (by decide) rfl rfl (L := [(0, .ref a_this), (1, .int x1), (2, .int x2), (3, .int x3), (4, .int x4)]) rfl (Nat.le_of_ble_eq_true rfl) (by rw [hu, henc]; rfl) ?_
  intro Z hX hl hG hr
  subst hl; subst hG
  unfold X11_side
  refine rn_aload_n hX dX11_side_0 0 rfl 1 rfl ?_
  refine rn_iload_n hX dX11_side_1 1 rfl 2 rfl ?_
  refine rn_iload_n hX dX11_side_2 2 rfl 3 rfl ?_
  refine rn_iload_n hX dX11_side_3 3 rfl 4 rfl ?_
  refine rn_iload hX dX11_side_4 4 rfl 6 rfl ?_
  refine rn_bind (fun u1 hu1 => ?_)
  refine rn_callV hX (gV mcC wd_1207 wd_1209 wd_42 wd_81 wd_1210) rfl hdV_X11_areFour rfl rfl ⟨Nat.le_of_ble_eq_true rfl, Nat.le_of_ble_eq_true rfl⟩ (c_X11_areFour (zl Z) (zG Z) a_this a_state a_readPage a_tape a_letters a_sums a_aside a_groups a_sides a_names a_firstNames a_isKept a_lanes a_lengths a_cells a_had g_isAwake g_taped g_fault g_broken g_brokenAt g_spot g_here g_token g_value g_hasPlaces g_highest g_laid g_groupMany g_isDrawn g_torn g_state x1 x2 x3 x4 hu1) rfl [0, 1] rfl rfl rfl (ci := 11) rfl rfl rfl (Nat.le_of_ble_eq_true rfl) dX11_side_6 9 rfl (wn := [(a_this, .inr (11, [.ref a_state, .ref a_readPage, .int u1.2.1, .ref a_tape, .int g_taped, .int g_fault, .int g_broken, .int g_brokenAt, .int g_spot, .int g_here, .int g_token, .int g_value, .ref a_letters, .int g_hasPlaces, .int g_highest, .ref a_sums, .ref a_aside, .ref a_groups, .ref a_sides, .int g_laid, .int g_groupMany, .int g_isDrawn, .ref a_names, .ref a_firstNames, .ref a_isKept, .ref a_lanes, .ref a_lengths, .ref a_cells, .int g_torn, .ref a_had])), (a_state, .inl ((zG Z).2.1 1, 96, .inl u1.2.2))]) rfl (S' := [.int u1.1]) rfl ⟨Nat.zero_le _, Nat.zero_le _⟩ ?_
  refine rn_if_ne hX dX11_side_9 14 (by decide) 12 rfl ?_ ?_
  · refine rn_aload_n hX dX11_side_14 0 rfl 15 rfl ?_
    refine rn_iload_n hX dX11_side_15 1 rfl 16 rfl ?_
    refine rn_iload_n hX dX11_side_16 2 rfl 17 rfl ?_
    refine rn_iload_n hX dX11_side_17 3 rfl 18 rfl ?_
    refine rn_iload hX dX11_side_18 4 rfl 20 rfl ?_
    refine rn_bind (fun u2 hu2 => ?_)
    refine rn_callV0 hX (gV mcC wd_1287 wd_1289 wd_52 wd_81 wd_1290) rfl hdV_X11_isWhole rfl rfl ⟨Nat.le_of_ble_eq_true rfl, Nat.le_of_ble_eq_true rfl⟩ (c_X11_isWhole (zl Z) (zG Z) a_this a_state a_readPage a_tape a_letters a_sums a_aside a_groups a_sides a_names a_firstNames a_isKept a_lanes a_lengths a_cells a_had u1.2.1 g_taped g_fault g_broken g_brokenAt g_spot g_here g_token g_value g_hasPlaces g_highest g_laid g_groupMany g_isDrawn g_torn u1.2.2 x1 x2 x3 x4 hu2) rfl [0, 1] rfl rfl (ci := 11) rfl rfl rfl (Nat.le_of_ble_eq_true rfl) dX11_side_20 23 rfl (S' := [.int u2]) rfl ⟨Nat.zero_le _, Nat.zero_le _⟩ ?_
    refine rn_if_ne hX dX11_side_23 29 (by decide) 26 rfl ?_ ?_
    · refine rn_aload_n hX dX11_side_29 0 rfl 30 rfl ?_
      refine rn_iload_n hX dX11_side_30 1 rfl 31 rfl ?_
      refine rn_iload_n hX dX11_side_31 2 rfl 32 rfl ?_
      refine rn_iload_n hX dX11_side_32 3 rfl 33 rfl ?_
      refine rn_iload hX dX11_side_33 4 rfl 35 rfl ?_
      refine rn_bind (fun u3 hu3 => ?_)
      refine rn_callV0 hX (gV mcC wd_1291 wd_1293 wd_53 wd_81 wd_1294) rfl hdV_X11_sideOf rfl rfl ⟨Nat.le_of_ble_eq_true rfl, Nat.le_of_ble_eq_true rfl⟩ (c_X11_sideOf (zl Z) (zG Z) a_this a_state a_readPage a_tape a_letters a_sums a_aside a_groups a_sides a_names a_firstNames a_isKept a_lanes a_lengths a_cells a_had u1.2.1 g_taped g_fault g_broken g_brokenAt g_spot g_here g_token g_value g_hasPlaces g_highest g_laid g_groupMany g_isDrawn g_torn u1.2.2 x1 x2 x3 x4 hu3) rfl [0, 1] rfl rfl (ci := 11) rfl rfl rfl (Nat.le_of_ble_eq_true rfl) dX11_side_35 38 rfl (S' := [.int u3]) rfl ⟨Nat.zero_le _, Nat.zero_le _⟩ ?_
      refine rn_istore hX dX11_side_38 (by decide) (L' := [(5, .int u3), (0, .ref a_this), (1, .int x1), (2, .int x2), (3, .int x3), (4, .int x4)]) rfl 40 rfl ?_
      refine rn_iload hX dX11_side_40 0 rfl 42 rfl ?_
      refine rn_if_ge hX dX11_side_42 50 (by decide) 45 rfl ?_ ?_
      · refine rn_iload hX dX11_side_50 0 rfl 52 rfl ?_
        exact rn_iret hX hr (by rw [henc]; rfl) dX11_side_52
      refine rn_bipush hX dX11_side_45 47 rfl bp_m5 ?_
      refine rn_goto hX dX11_side_47 52 (by decide) ?_
      exact rn_iret hX hr (by rw [henc]; rfl) dX11_side_52
    refine rn_bipush hX dX11_side_26 28 rfl bp_m2 ?_
    exact rn_iret hX hr (by rw [henc]; rfl) dX11_side_28
  refine rn_iconst hX dX11_side_12 13 rfl ic_m1 ?_
  exact rn_iret hX hr (by rw [henc]; rfl) dX11_side_13
