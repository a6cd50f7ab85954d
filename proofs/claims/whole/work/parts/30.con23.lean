abbrev rmX11_read : Room := { frames := 4, cells := 0, slots := 0, locals := 92 }
theorem hdV_X11_read : yX11_read.cls = RX11 ∧ yX11_read.cls ≠ "java/lang/invoke/MethodHandle" ∧ yX11_read.cls ≠ "java/lang/invoke/VarHandle" ∧ (parseMethodDescriptor yX11_read.desc).map (fun d => d.parameters.length) = some 4 := by decide +kernel
set_option maxHeartbeats 4000000 in
set_option maxRecDepth 100000 in
theorem c_X11_read (l : Launch) (G : GT) (a_this a_cells a_had a_lanes a_lengths a_state a_readPage a_tape a_letters a_sums a_aside a_groups a_sides a_names a_firstNames a_isKept : Nat) (g_isAwake : Int32) (g_taped : Int32) (g_fault : Int32) (g_broken : Int32) (g_brokenAt : Int32) (g_spot : Int32) (g_here : Int32) (g_token : Int32) (g_value : Int32) (g_hasPlaces : Int32) (g_highest : Int32) (g_laid : Int32) (g_groupMany : Int32) (g_isDrawn : Int32) (g_torn : Int32) (g_cells : (Nat → Int32)) (g_had : (Nat → Int32)) (g_lanes : (Nat → Int32)) (g_lengths : (Nat → Int32)) (g_state : (Nat → Int32)) (x1 : Int32) (x2 : Int32) (x3 : Int32) (x4 : Int32) {u : Int32 × Int32 × Int32 × (Nat → Int32) × (Nat → Int32)} (hu : X11_read x1 x2 x3 x4 g_isAwake g_torn g_cells g_had g_lanes g_lengths g_state = some u) : Ctr l G yX11_read wsX11_read rmX11_read [.ref a_this, .int x1, .int x2, .int x3, .int x4] [(a_this, .inr (11, [.ref a_state, .ref a_readPage, .int g_isAwake, .ref a_tape, .int g_taped, .int g_fault, .int g_broken, .int g_brokenAt, .int g_spot, .int g_here, .int g_token, .int g_value, .ref a_letters, .int g_hasPlaces, .int g_highest, .ref a_sums, .ref a_aside, .ref a_groups, .ref a_sides, .int g_laid, .int g_groupMany, .int g_isDrawn, .ref a_names, .ref a_firstNames, .ref a_isKept, .ref a_lanes, .ref a_lengths, .ref a_cells, .int g_torn, .ref a_had])), (a_cells, .inl (G.2.1 1, 160, .inl g_cells)), (a_had, .inl (G.2.1 1, 21, .inl g_had)), (a_lanes, .inl (G.2.1 1, 4, .inl g_lanes)), (a_lengths, .inl (G.2.1 1, 4, .inl g_lengths)), (a_state, .inl (G.2.1 1, 96, .inl g_state))] (some (.int u.1)) [(a_this, .inr (11, [.ref a_state, .ref a_readPage, .int u.2.1, .ref a_tape, .int g_taped, .int g_fault, .int g_broken, .int g_brokenAt, .int g_spot, .int g_here, .int g_token, .int g_value, .ref a_letters, .int g_hasPlaces, .int g_highest, .ref a_sums, .ref a_aside, .ref a_groups, .ref a_sides, .int g_laid, .int g_groupMany, .int g_isDrawn, .ref a_names, .ref a_firstNames, .ref a_isKept, .ref a_lanes, .ref a_lengths, .ref a_cells, .int u.2.2.1, .ref a_had])), (a_cells, .inl (G.2.1 1, 160, .inl g_cells)), (a_had, .inl (G.2.1 1, 21, .inl u.2.2.2.1)), (a_lanes, .inl (G.2.1 1, 4, .inl g_lanes)), (a_lengths, .inl (G.2.1 1, 4, .inl g_lengths)), (a_state, .inl (G.2.1 1, 96, .inl u.2.2.2.2))] := by
  obtain ⟨enc, henc⟩ : ∃ enc : (Int32 × Int32 × Int32 × (Nat → Int32) × (Nat → Int32)) → Option Value × va_W, enc = fun u => (((some (.int u.1)) : Option Value), ([(a_this, .inr (11, [.ref a_state, .ref a_readPage, .int u.2.1, .ref a_tape, .int g_taped, .int g_fault, .int g_broken, .int g_brokenAt, .int g_spot, .int g_here, .int g_token, .int g_value, .ref a_letters, .int g_hasPlaces, .int g_highest, .ref a_sums, .ref a_aside, .ref a_groups, .ref a_sides, .int g_laid, .int g_groupMany, .int g_isDrawn, .ref a_names, .ref a_firstNames, .ref a_isKept, .ref a_lanes, .ref a_lengths, .ref a_cells, .int u.2.2.1, .ref a_had])), (a_cells, .inl (G.2.1 1, 160, .inl g_cells)), (a_had, .inl (G.2.1 1, 21, .inl u.2.2.2.1)), (a_lanes, .inl (G.2.1 1, 4, .inl g_lanes)), (a_lengths, .inl (G.2.1 1, 4, .inl g_lengths)), (a_state, .inl (G.2.1 1, 96, .inl u.2.2.2.2))] : va_W)) := ⟨_, rfl⟩
  refine ctr_of (cc := cX11_read) (own := RX11) (E := Option.map enc) (o := X11_read x1 x2 x3 x4 g_isAwake g_torn g_cells g_had g_lanes g_lengths g_state) (by decide) rfl rfl (L := [(0, .ref a_this), (1, .int x1), (2, .int x2), (3, .int x3), (4, .int x4)]) rfl (Nat.le_of_ble_eq_true rfl) (by rw [hu, henc]; rfl) ?_
  intro Z hX hl hG hr
  subst hl; subst hG
  have fl305 : (Cond.fieldLink RX11 305 "OnlyFarModel" "torn" "I").before (za Z) (zs Z) = true := hX.wd (mcC _ wd_1018)
  have fl44 : (Cond.fieldLink RX11 44 "OnlyFarModel" "lanes" "[I").before (za Z) (zs Z) = true := hX.wd (mcC _ wd_1015)
  have fl47 : (Cond.fieldLink RX11 47 "OnlyFarModel" "lengths" "[I").before (za Z) (zs Z) = true := hX.wd (mcC _ wd_1016)
  have fl50 : (Cond.fieldLink RX11 50 "OnlyFarModel" "cells" "[I").before (za Z) (zs Z) = true := hX.wd (mcC _ wd_1017)
  have fl53 : (Cond.fieldLink RX11 53 "OnlyFarModel" "had" "[I").before (za Z) (zs Z) = true := hX.wd (mcC _ wd_1019)
  have fl7 : (Cond.fieldLink RX11 7 "OnlyFarModel" "state" "[I").before (za Z) (zs Z) = true := hX.wd (mcC _ wd_990)
  have kl179 : (Cond.constantLong RX11 179 (2)).before (za Z) (zs Z) = true := hX.wd (mcC _ wd_1219)
  have kl194 : (Cond.constantLong RX11 194 (3)).before (za Z) (zs Z) = true := hX.wd (mcC _ wd_1228)
  have kl303 : (Cond.constantLong RX11 303 (13)).before (za Z) (zs Z) = true := hX.wd (mcC _ wd_1446)
  have inX11 : ∀ w ∈ u_ws RX11 TX11 30, w ∈ wsX11_read := fun w h => mcC w (inC_X11 w h)
  have hB267 : ∀ (again : Int32 → Int32 → Int32 → Int32 → (Nat → Int32) → (Nat → Int32) → Option (Int32 × Int32 × Int32 × (Nat → Int32) × (Nat → Int32))) (hagain : ∀ (x6 : Int32) (x8 : Int32) (g_isAwake : Int32) (g_torn : Int32) (g_had : (Nat → Int32)) (g_state : (Nat → Int32)), Rn Z 10 (Option.map enc) 0 0 267 [(0, .ref a_this), (6, .int x6), (8, .int x8)] [] [(a_this, .inr (11, [.ref a_state, .ref a_readPage, .int g_isAwake, .ref a_tape, .int g_taped, .int g_fault, .int g_broken, .int g_brokenAt, .int g_spot, .int g_here, .int g_token, .int g_value, .ref a_letters, .int g_hasPlaces, .int g_highest, .ref a_sums, .ref a_aside, .ref a_groups, .ref a_sides, .int g_laid, .int g_groupMany, .int g_isDrawn, .ref a_names, .ref a_firstNames, .ref a_isKept, .ref a_lanes, .ref a_lengths, .ref a_cells, .int g_torn, .ref a_had])), (a_cells, .inl ((zG Z).2.1 1, 160, .inl g_cells)), (a_had, .inl ((zG Z).2.1 1, 21, .inl g_had)), (a_lanes, .inl ((zG Z).2.1 1, 4, .inl g_lanes)), (a_lengths, .inl ((zG Z).2.1 1, 4, .inl g_lengths)), (a_state, .inl ((zG Z).2.1 1, 96, .inl g_state))] (again x6 x8 g_isAwake g_torn g_had g_state)) (x6 : Int32) (x8 : Int32) (g_isAwake : Int32) (g_torn : Int32) (g_had : (Nat → Int32)) (g_state : (Nat → Int32)), Rn Z 10 (Option.map enc) 0 0 267 [(0, .ref a_this), (6, .int x6), (8, .int x8)] [] [(a_this, .inr (11, [.ref a_state, .ref a_readPage, .int g_isAwake, .ref a_tape, .int g_taped, .int g_fault, .int g_broken, .int g_brokenAt, .int g_spot, .int g_here, .int g_token, .int g_value, .ref a_letters, .int g_hasPlaces, .int g_highest, .ref a_sums, .ref a_aside, .ref a_groups, .ref a_sides, .int g_laid, .int g_groupMany, .int g_isDrawn, .ref a_names, .ref a_firstNames, .ref a_isKept, .ref a_lanes, .ref a_lengths, .ref a_cells, .int g_torn, .ref a_had])), (a_cells, .inl ((zG Z).2.1 1, 160, .inl g_cells)), (a_had, .inl ((zG Z).2.1 1, 21, .inl g_had)), (a_lanes, .inl ((zG Z).2.1 1, 4, .inl g_lanes)), (a_lengths, .inl ((zG Z).2.1 1, 4, .inl g_lengths)), (a_state, .inl ((zG Z).2.1 1, 96, .inl g_state))] (X11_read_B267 again x6 x8 g_isAwake g_torn g_had g_state) := by
    intro again hagain x6 x8 g_isAwake g_torn g_had g_state
    unfold X11_read_B267
    refine rn_iload hX dX11_read_267 2 rfl 269 rfl ?_
    refine rn_bipush hX dX11_read_269 271 rfl bp_21 ?_
    refine rn_icmp_ge hX dX11_read_271 294 (by decide) 274 rfl ?_ ?_
    · refine rn_bipush hX dX11_read_294 296 rfl bp_m20 ?_
      refine rn_iload hX dX11_read_296 1 rfl 298 rfl ?_
      refine rn_isub hX dX11_read_298 299 rfl ?_
      exact rn_iret hX hr (by rw [henc]; rfl) dX11_read_299
    refine rn_aload_n hX dX11_read_274 0 rfl 275 rfl ?_
    refine rn_get hX inX11 0 rfl rfl 0 (by decide) fl7 rfl rfl dX11_read_275 278 rfl ?_
    refine rn_iload hX dX11_read_278 2 rfl 280 rfl ?_
    refine rn_aload_n hX dX11_read_280 0 rfl 281 rfl ?_
    refine rn_get hX inX11 0 rfl rfl 29 (by decide) fl53 rfl rfl dX11_read_281 284 rfl ?_
    refine rn_iload hX dX11_read_284 2 rfl 286 rfl ?_
    refine rn_gd (fun hi1 => ?_)
    refine rn_iald hX 2 rfl hi1 dX11_read_286 287 rfl ?_
    refine rn_gd (fun hi2 => ?_)
    refine rn_iast hX 5 rfl hi2 dX11_read_287 288 rfl (w1 := fun m3 => [(a_this, .inr (11, [.ref a_state, .ref a_readPage, .int g_isAwake, .ref a_tape, .int g_taped, .int g_fault, .int g_broken, .int g_brokenAt, .int g_spot, .int g_here, .int g_token, .int g_value, .ref a_letters, .int g_hasPlaces, .int g_highest, .ref a_sums, .ref a_aside, .ref a_groups, .ref a_sides, .int g_laid, .int g_groupMany, .int g_isDrawn, .ref a_names, .ref a_firstNames, .ref a_isKept, .ref a_lanes, .ref a_lengths, .ref a_cells, .int g_torn, .ref a_had])), (a_cells, .inl ((zG Z).2.1 1, 160, .inl g_cells)), (a_had, .inl ((zG Z).2.1 1, 21, .inl g_had)), (a_lanes, .inl ((zG Z).2.1 1, 4, .inl g_lanes)), (a_lengths, .inl ((zG Z).2.1 1, 4, .inl g_lengths)), (a_state, .inl ((zG Z).2.1 1, 96, .inl m3))]) (fun _ => rfl) (fun m3 => ?_)
    refine rn_iinc hX dX11_read_288 2 rfl ic_1 (by decide) (L' := fun v4 => [(8, .int v4), (0, .ref a_this), (6, .int x6)]) (fun _ => rfl) 291 rfl (fun v4 => ?_)
    refine rn_goto hX dX11_read_291 267 (by decide) ?_
    refine rn_sub [1, 2, 0] rfl ?_
    exact hagain x6 v4 g_isAwake g_torn g_had m3
  have hL267 : ∀ (n : Nat) (x6 : Int32) (x8 : Int32) (g_isAwake : Int32) (g_torn : Int32) (g_had : (Nat → Int32)) (g_state : (Nat → Int32)), Rn Z 10 (Option.map enc) 0 0 267 [(0, .ref a_this), (6, .int x6), (8, .int x8)] [] [(a_this, .inr (11, [.ref a_state, .ref a_readPage, .int g_isAwake, .ref a_tape, .int g_taped, .int g_fault, .int g_broken, .int g_brokenAt, .int g_spot, .int g_here, .int g_token, .int g_value, .ref a_letters, .int g_hasPlaces, .int g_highest, .ref a_sums, .ref a_aside, .ref a_groups, .ref a_sides, .int g_laid, .int g_groupMany, .int g_isDrawn, .ref a_names, .ref a_firstNames, .ref a_isKept, .ref a_lanes, .ref a_lengths, .ref a_cells, .int g_torn, .ref a_had])), (a_cells, .inl ((zG Z).2.1 1, 160, .inl g_cells)), (a_had, .inl ((zG Z).2.1 1, 21, .inl g_had)), (a_lanes, .inl ((zG Z).2.1 1, 4, .inl g_lanes)), (a_lengths, .inl ((zG Z).2.1 1, 4, .inl g_lengths)), (a_state, .inl ((zG Z).2.1 1, 96, .inl g_state))] (X11_read_L267 n x6 x8 g_isAwake g_torn g_had g_state) := by
    intro n
    induction n with
    | zero => intros; exact rn_none
    | succ n ih => exact hB267 _ ih
  have hJ259 : ∀ (x5 : Int32) (x6 : Int32) (x7 : Int32) (g_isAwake : Int32) (g_torn : Int32) (g_had : (Nat → Int32)) (g_state : (Nat → Int32)), Rn Z 10 (Option.map enc) 0 0 259 [(0, .ref a_this), (5, .int x5), (6, .int x6), (7, .int x7)] [] [(a_this, .inr (11, [.ref a_state, .ref a_readPage, .int g_isAwake, .ref a_tape, .int g_taped, .int g_fault, .int g_broken, .int g_brokenAt, .int g_spot, .int g_here, .int g_token, .int g_value, .ref a_letters, .int g_hasPlaces, .int g_highest, .ref a_sums, .ref a_aside, .ref a_groups, .ref a_sides, .int g_laid, .int g_groupMany, .int g_isDrawn, .ref a_names, .ref a_firstNames, .ref a_isKept, .ref a_lanes, .ref a_lengths, .ref a_cells, .int g_torn, .ref a_had])), (a_cells, .inl ((zG Z).2.1 1, 160, .inl g_cells)), (a_had, .inl ((zG Z).2.1 1, 21, .inl g_had)), (a_lanes, .inl ((zG Z).2.1 1, 4, .inl g_lanes)), (a_lengths, .inl ((zG Z).2.1 1, 4, .inl g_lengths)), (a_state, .inl ((zG Z).2.1 1, 96, .inl g_state))] (X11_read_J259 x5 x6 x7 g_isAwake g_torn g_had g_state) := by
    intro x5 x6 x7 g_isAwake g_torn g_had g_state
    unfold X11_read_J259
    refine rn_iload hX dX11_read_259 3 rfl 261 rfl ?_
    refine rn_if_eq hX dX11_read_261 300 (by decide) 264 rfl ?_ ?_
    · refine rn_aload_n hX dX11_read_300 0 rfl 301 rfl ?_
      refine rn_iload hX dX11_read_301 1 rfl 303 rfl ?_
      refine rn_put hX inX11 tyX11_ok nmX11 0 rfl rfl 28 (by decide) fl305 rfl rfl rfl rfl (Nat.le_of_ble_eq_true rfl) dX11_read_303 306 rfl (w1 := [(a_this, .inr (11, [.ref a_state, .ref a_readPage, .int g_isAwake, .ref a_tape, .int g_taped, .int g_fault, .int g_broken, .int g_brokenAt, .int g_spot, .int g_here, .int g_token, .int g_value, .ref a_letters, .int g_hasPlaces, .int g_highest, .ref a_sums, .ref a_aside, .ref a_groups, .ref a_sides, .int g_laid, .int g_groupMany, .int g_isDrawn, .ref a_names, .ref a_firstNames, .ref a_isKept, .ref a_lanes, .ref a_lengths, .ref a_cells, .int x5, .ref a_had])), (a_cells, .inl ((zG Z).2.1 1, 160, .inl g_cells)), (a_had, .inl ((zG Z).2.1 1, 21, .inl g_had)), (a_lanes, .inl ((zG Z).2.1 1, 4, .inl g_lanes)), (a_lengths, .inl ((zG Z).2.1 1, 4, .inl g_lengths)), (a_state, .inl ((zG Z).2.1 1, 96, .inl g_state))]) rfl ?_
      refine rn_iload hX dX11_read_306 2 rfl 308 rfl ?_
      exact rn_iret hX hr (by rw [henc]; rfl) dX11_read_308
    refine rn_iconst hX dX11_read_264 265 rfl ic_0 ?_
    refine rn_istore hX dX11_read_265 (by decide) (L' := [(8, .int (0 : Int32)), (0, .ref a_this), (5, .int x5), (6, .int x6), (7, .int x7)]) rfl 267 rfl ?_
    refine rn_sub [1, 3, 0] rfl ?_
    exact (hL267  1000) x6 (0 : Int32) g_isAwake g_torn g_had g_state
  have hJ253 : ∀ (again : Int32 → Int32 → Int32 → Int32 → Int32 → Int32 → Int32 → Int32 → Int32 → Int32 → (Nat → Int32) → (Nat → Int32) → Option (Int32 × Int32 × Int32 × (Nat → Int32) × (Nat → Int32))) (k259 : Int32 → Int32 → Int32 → Int32 → Int32 → (Nat → Int32) → (Nat → Int32) → Option (Int32 × Int32 × Int32 × (Nat → Int32) × (Nat → Int32))) (hagain : ∀ (x1 : Int32) (x2 : Int32) (x3 : Int32) (x4 : Int32) (x5 : Int32) (x6 : Int32) (x7 : Int32) (x8 : Int32) (g_isAwake : Int32) (g_torn : Int32) (g_had : (Nat → Int32)) (g_state : (Nat → Int32)), Rn Z 10 (Option.map enc) 0 0 85 [(0, .ref a_this), (1, .int x1), (2, .int x2), (3, .int x3), (4, .int x4), (5, .int x5), (6, .int x6), (7, .int x7), (8, .int x8)] [] [(a_this, .inr (11, [.ref a_state, .ref a_readPage, .int g_isAwake, .ref a_tape, .int g_taped, .int g_fault, .int g_broken, .int g_brokenAt, .int g_spot, .int g_here, .int g_token, .int g_value, .ref a_letters, .int g_hasPlaces, .int g_highest, .ref a_sums, .ref a_aside, .ref a_groups, .ref a_sides, .int g_laid, .int g_groupMany, .int g_isDrawn, .ref a_names, .ref a_firstNames, .ref a_isKept, .ref a_lanes, .ref a_lengths, .ref a_cells, .int g_torn, .ref a_had])), (a_cells, .inl ((zG Z).2.1 1, 160, .inl g_cells)), (a_had, .inl ((zG Z).2.1 1, 21, .inl g_had)), (a_lanes, .inl ((zG Z).2.1 1, 4, .inl g_lanes)), (a_lengths, .inl ((zG Z).2.1 1, 4, .inl g_lengths)), (a_state, .inl ((zG Z).2.1 1, 96, .inl g_state))] (again x1 x2 x3 x4 x5 x6 x7 x8 g_isAwake g_torn g_had g_state)) (hk259 : ∀ (x5 : Int32) (x6 : Int32) (x7 : Int32) (g_isAwake : Int32) (g_torn : Int32) (g_had : (Nat → Int32)) (g_state : (Nat → Int32)), Rn Z 10 (Option.map enc) 0 0 259 [(0, .ref a_this), (5, .int x5), (6, .int x6), (7, .int x7)] [] [(a_this, .inr (11, [.ref a_state, .ref a_readPage, .int g_isAwake, .ref a_tape, .int g_taped, .int g_fault, .int g_broken, .int g_brokenAt, .int g_spot, .int g_here, .int g_token, .int g_value, .ref a_letters, .int g_hasPlaces, .int g_highest, .ref a_sums, .ref a_aside, .ref a_groups, .ref a_sides, .int g_laid, .int g_groupMany, .int g_isDrawn, .ref a_names, .ref a_firstNames, .ref a_isKept, .ref a_lanes, .ref a_lengths, .ref a_cells, .int g_torn, .ref a_had])), (a_cells, .inl ((zG Z).2.1 1, 160, .inl g_cells)), (a_had, .inl ((zG Z).2.1 1, 21, .inl g_had)), (a_lanes, .inl ((zG Z).2.1 1, 4, .inl g_lanes)), (a_lengths, .inl ((zG Z).2.1 1, 4, .inl g_lengths)), (a_state, .inl ((zG Z).2.1 1, 96, .inl g_state))] (k259 x5 x6 x7 g_isAwake g_torn g_had g_state)) (x1 : Int32) (x2 : Int32) (x3 : Int32) (x4 : Int32) (x5 : Int32) (x6 : Int32) (x7 : Int32) (x8 : Int32) (g_isAwake : Int32) (g_torn : Int32) (g_had : (Nat → Int32)) (g_state : (Nat → Int32)), Rn Z 10 (Option.map enc) 0 0 253 [(0, .ref a_this), (1, .int x1), (2, .int x2), (3, .int x3), (4, .int x4), (5, .int x5), (6, .int x6), (7, .int x7), (8, .int x8)] [] [(a_this, .inr (11, [.ref a_state, .ref a_readPage, .int g_isAwake, .ref a_tape, .int g_taped, .int g_fault, .int g_broken, .int g_brokenAt, .int g_spot, .int g_here, .int g_token, .int g_value, .ref a_letters, .int g_hasPlaces, .int g_highest, .ref a_sums, .ref a_aside, .ref a_groups, .ref a_sides, .int g_laid, .int g_groupMany, .int g_isDrawn, .ref a_names, .ref a_firstNames, .ref a_isKept, .ref a_lanes, .ref a_lengths, .ref a_cells, .int g_torn, .ref a_had])), (a_cells, .inl ((zG Z).2.1 1, 160, .inl g_cells)), (a_had, .inl ((zG Z).2.1 1, 21, .inl g_had)), (a_lanes, .inl ((zG Z).2.1 1, 4, .inl g_lanes)), (a_lengths, .inl ((zG Z).2.1 1, 4, .inl g_lengths)), (a_state, .inl ((zG Z).2.1 1, 96, .inl g_state))] (X11_read_J253 again k259 x1 x2 x3 x4 x5 x6 x7 x8 g_isAwake g_torn g_had g_state) := by
    intro again k259 hagain hk259 x1 x2 x3 x4 x5 x6 x7 x8 g_isAwake g_torn g_had g_state
    unfold X11_read_J253
    refine rn_iinc hX dX11_read_253 8 rfl ic_1 (by decide) (L' := fun v5 => [(8, .int v5), (0, .ref a_this), (1, .int x1), (2, .int x2), (3, .int x3), (4, .int x4), (5, .int x5), (6, .int x6), (7, .int x7)]) (fun _ => rfl) 256 rfl (fun v5 => ?_)
    refine rn_goto hX dX11_read_256 85 (by decide) ?_
    refine rn_sub [1, 2, 3, 4, 5, 6, 7, 8, 0] rfl ?_
    exact hagain x1 x2 x3 x4 x5 x6 x7 v5 g_isAwake g_torn g_had g_state
  have hJ250 : ∀ (again : Int32 → Int32 → Int32 → Int32 → Int32 → Int32 → Int32 → Int32 → Int32 → Int32 → (Nat → Int32) → (Nat → Int32) → Option (Int32 × Int32 × Int32 × (Nat → Int32) × (Nat → Int32))) (k259 : Int32 → Int32 → Int32 → Int32 → Int32 → (Nat → Int32) → (Nat → Int32) → Option (Int32 × Int32 × Int32 × (Nat → Int32) × (Nat → Int32))) (hagain : ∀ (x1 : Int32) (x2 : Int32) (x3 : Int32) (x4 : Int32) (x5 : Int32) (x6 : Int32) (x7 : Int32) (x8 : Int32) (g_isAwake : Int32) (g_torn : Int32) (g_had : (Nat → Int32)) (g_state : (Nat → Int32)), Rn Z 10 (Option.map enc) 0 0 85 [(0, .ref a_this), (1, .int x1), (2, .int x2), (3, .int x3), (4, .int x4), (5, .int x5), (6, .int x6), (7, .int x7), (8, .int x8)] [] [(a_this, .inr (11, [.ref a_state, .ref a_readPage, .int g_isAwake, .ref a_tape, .int g_taped, .int g_fault, .int g_broken, .int g_brokenAt, .int g_spot, .int g_here, .int g_token, .int g_value, .ref a_letters, .int g_hasPlaces, .int g_highest, .ref a_sums, .ref a_aside, .ref a_groups, .ref a_sides, .int g_laid, .int g_groupMany, .int g_isDrawn, .ref a_names, .ref a_firstNames, .ref a_isKept, .ref a_lanes, .ref a_lengths, .ref a_cells, .int g_torn, .ref a_had])), (a_cells, .inl ((zG Z).2.1 1, 160, .inl g_cells)), (a_had, .inl ((zG Z).2.1 1, 21, .inl g_had)), (a_lanes, .inl ((zG Z).2.1 1, 4, .inl g_lanes)), (a_lengths, .inl ((zG Z).2.1 1, 4, .inl g_lengths)), (a_state, .inl ((zG Z).2.1 1, 96, .inl g_state))] (again x1 x2 x3 x4 x5 x6 x7 x8 g_isAwake g_torn g_had g_state)) (hk259 : ∀ (x5 : Int32) (x6 : Int32) (x7 : Int32) (g_isAwake : Int32) (g_torn : Int32) (g_had : (Nat → Int32)) (g_state : (Nat → Int32)), Rn Z 10 (Option.map enc) 0 0 259 [(0, .ref a_this), (5, .int x5), (6, .int x6), (7, .int x7)] [] [(a_this, .inr (11, [.ref a_state, .ref a_readPage, .int g_isAwake, .ref a_tape, .int g_taped, .int g_fault, .int g_broken, .int g_brokenAt, .int g_spot, .int g_here, .int g_token, .int g_value, .ref a_letters, .int g_hasPlaces, .int g_highest, .ref a_sums, .ref a_aside, .ref a_groups, .ref a_sides, .int g_laid, .int g_groupMany, .int g_isDrawn, .ref a_names, .ref a_firstNames, .ref a_isKept, .ref a_lanes, .ref a_lengths, .ref a_cells, .int g_torn, .ref a_had])), (a_cells, .inl ((zG Z).2.1 1, 160, .inl g_cells)), (a_had, .inl ((zG Z).2.1 1, 21, .inl g_had)), (a_lanes, .inl ((zG Z).2.1 1, 4, .inl g_lanes)), (a_lengths, .inl ((zG Z).2.1 1, 4, .inl g_lengths)), (a_state, .inl ((zG Z).2.1 1, 96, .inl g_state))] (k259 x5 x6 x7 g_isAwake g_torn g_had g_state)) (x1 : Int32) (x2 : Int32) (x3 : Int32) (x4 : Int32) (x5 : Int32) (x7 : Int32) (x8 : Int32) (s0 : Int32) (s1 : Int32) (g_isAwake : Int32) (g_torn : Int32) (g_had : (Nat → Int32)) (g_state : (Nat → Int32)), Rn Z 10 (Option.map enc) 0 0 250 [(0, .ref a_this), (1, .int x1), (2, .int x2), (3, .int x3), (4, .int x4), (5, .int x5), (7, .int x7), (8, .int x8)] [.int s1, .int s0] [(a_this, .inr (11, [.ref a_state, .ref a_readPage, .int g_isAwake, .ref a_tape, .int g_taped, .int g_fault, .int g_broken, .int g_brokenAt, .int g_spot, .int g_here, .int g_token, .int g_value, .ref a_letters, .int g_hasPlaces, .int g_highest, .ref a_sums, .ref a_aside, .ref a_groups, .ref a_sides, .int g_laid, .int g_groupMany, .int g_isDrawn, .ref a_names, .ref a_firstNames, .ref a_isKept, .ref a_lanes, .ref a_lengths, .ref a_cells, .int g_torn, .ref a_had])), (a_cells, .inl ((zG Z).2.1 1, 160, .inl g_cells)), (a_had, .inl ((zG Z).2.1 1, 21, .inl g_had)), (a_lanes, .inl ((zG Z).2.1 1, 4, .inl g_lanes)), (a_lengths, .inl ((zG Z).2.1 1, 4, .inl g_lengths)), (a_state, .inl ((zG Z).2.1 1, 96, .inl g_state))] (X11_read_J250 again k259 x1 x2 x3 x4 x5 x7 x8 s0 s1 g_isAwake g_torn g_had g_state) := by
    intro again k259 hagain hk259 x1 x2 x3 x4 x5 x7 x8 s0 s1 g_isAwake g_torn g_had g_state
    unfold X11_read_J250
    refine rn_iadd hX dX11_read_250 251 rfl ?_
    refine rn_lati (fun v6 => ?_)
    refine rn_istore hX dX11_read_251 (by decide) (L' := [(6, .int v6), (0, .ref a_this), (1, .int x1), (2, .int x2), (3, .int x3), (4, .int x4), (5, .int x5), (7, .int x7), (8, .int x8)]) rfl 253 rfl ?_
    refine rn_sub [1, 2, 3, 4, 5, 6, 0, 7, 8] rfl ?_
    exact (hJ253 _ _ hagain hk259) x1 x2 x3 x4 x5 v6 x7 x8 g_isAwake g_torn g_had g_state
  have hJ236 : ∀ (again : Int32 → Int32 → Int32 → Int32 → Int32 → Int32 → Int32 → Int32 → Int32 → Int32 → (Nat → Int32) → (Nat → Int32) → Option (Int32 × Int32 × Int32 × (Nat → Int32) × (Nat → Int32))) (k259 : Int32 → Int32 → Int32 → Int32 → Int32 → (Nat → Int32) → (Nat → Int32) → Option (Int32 × Int32 × Int32 × (Nat → Int32) × (Nat → Int32))) (hagain : ∀ (x1 : Int32) (x2 : Int32) (x3 : Int32) (x4 : Int32) (x5 : Int32) (x6 : Int32) (x7 : Int32) (x8 : Int32) (g_isAwake : Int32) (g_torn : Int32) (g_had : (Nat → Int32)) (g_state : (Nat → Int32)), Rn Z 10 (Option.map enc) 0 0 85 [(0, .ref a_this), (1, .int x1), (2, .int x2), (3, .int x3), (4, .int x4), (5, .int x5), (6, .int x6), (7, .int x7), (8, .int x8)] [] [(a_this, .inr (11, [.ref a_state, .ref a_readPage, .int g_isAwake, .ref a_tape, .int g_taped, .int g_fault, .int g_broken, .int g_brokenAt, .int g_spot, .int g_here, .int g_token, .int g_value, .ref a_letters, .int g_hasPlaces, .int g_highest, .ref a_sums, .ref a_aside, .ref a_groups, .ref a_sides, .int g_laid, .int g_groupMany, .int g_isDrawn, .ref a_names, .ref a_firstNames, .ref a_isKept, .ref a_lanes, .ref a_lengths, .ref a_cells, .int g_torn, .ref a_had])), (a_cells, .inl ((zG Z).2.1 1, 160, .inl g_cells)), (a_had, .inl ((zG Z).2.1 1, 21, .inl g_had)), (a_lanes, .inl ((zG Z).2.1 1, 4, .inl g_lanes)), (a_lengths, .inl ((zG Z).2.1 1, 4, .inl g_lengths)), (a_state, .inl ((zG Z).2.1 1, 96, .inl g_state))] (again x1 x2 x3 x4 x5 x6 x7 x8 g_isAwake g_torn g_had g_state)) (hk259 : ∀ (x5 : Int32) (x6 : Int32) (x7 : Int32) (g_isAwake : Int32) (g_torn : Int32) (g_had : (Nat → Int32)) (g_state : (Nat → Int32)), Rn Z 10 (Option.map enc) 0 0 259 [(0, .ref a_this), (5, .int x5), (6, .int x6), (7, .int x7)] [] [(a_this, .inr (11, [.ref a_state, .ref a_readPage, .int g_isAwake, .ref a_tape, .int g_taped, .int g_fault, .int g_broken, .int g_brokenAt, .int g_spot, .int g_here, .int g_token, .int g_value, .ref a_letters, .int g_hasPlaces, .int g_highest, .ref a_sums, .ref a_aside, .ref a_groups, .ref a_sides, .int g_laid, .int g_groupMany, .int g_isDrawn, .ref a_names, .ref a_firstNames, .ref a_isKept, .ref a_lanes, .ref a_lengths, .ref a_cells, .int g_torn, .ref a_had])), (a_cells, .inl ((zG Z).2.1 1, 160, .inl g_cells)), (a_had, .inl ((zG Z).2.1 1, 21, .inl g_had)), (a_lanes, .inl ((zG Z).2.1 1, 4, .inl g_lanes)), (a_lengths, .inl ((zG Z).2.1 1, 4, .inl g_lengths)), (a_state, .inl ((zG Z).2.1 1, 96, .inl g_state))] (k259 x5 x6 x7 g_isAwake g_torn g_had g_state)) (x1 : Int32) (x2 : Int32) (x3 : Int32) (x4 : Int32) (x5 : Int32) (x6 : Int32) (x8 : Int32) (s0 : Int32) (g_isAwake : Int32) (g_torn : Int32) (g_had : (Nat → Int32)) (g_state : (Nat → Int32)), Rn Z 10 (Option.map enc) 0 0 236 [(0, .ref a_this), (1, .int x1), (2, .int x2), (3, .int x3), (4, .int x4), (5, .int x5), (6, .int x6), (8, .int x8)] [.int s0] [(a_this, .inr (11, [.ref a_state, .ref a_readPage, .int g_isAwake, .ref a_tape, .int g_taped, .int g_fault, .int g_broken, .int g_brokenAt, .int g_spot, .int g_here, .int g_token, .int g_value, .ref a_letters, .int g_hasPlaces, .int g_highest, .ref a_sums, .ref a_aside, .ref a_groups, .ref a_sides, .int g_laid, .int g_groupMany, .int g_isDrawn, .ref a_names, .ref a_firstNames, .ref a_isKept, .ref a_lanes, .ref a_lengths, .ref a_cells, .int g_torn, .ref a_had])), (a_cells, .inl ((zG Z).2.1 1, 160, .inl g_cells)), (a_had, .inl ((zG Z).2.1 1, 21, .inl g_had)), (a_lanes, .inl ((zG Z).2.1 1, 4, .inl g_lanes)), (a_lengths, .inl ((zG Z).2.1 1, 4, .inl g_lengths)), (a_state, .inl ((zG Z).2.1 1, 96, .inl g_state))] (X11_read_J236 again k259 x1 x2 x3 x4 x5 x6 x8 s0 g_isAwake g_torn g_had g_state) := by
    intro again k259 hagain hk259 x1 x2 x3 x4 x5 x6 x8 s0 g_isAwake g_torn g_had g_state
    unfold X11_read_J236
    refine rn_istore hX dX11_read_236 (by decide) (L' := [(7, .int s0), (0, .ref a_this), (1, .int x1), (2, .int x2), (3, .int x3), (4, .int x4), (5, .int x5), (6, .int x6), (8, .int x8)]) rfl 238 rfl ?_
    refine rn_iload hX dX11_read_238 7 rfl 240 rfl ?_
    refine rn_iload hX dX11_read_240 0 rfl 242 rfl ?_
    refine rn_if_eq hX dX11_read_242 249 (by decide) 245 rfl ?_ ?_
    · refine rn_iconst hX dX11_read_249 250 rfl ic_1 ?_
      refine rn_sub [1, 2, 3, 4, 5, 6, 0, 8] rfl ?_
      exact (hJ250 _ _ hagain hk259) x1 x2 x3 x4 x5 s0 x8 x6 (1 : Int32) g_isAwake g_torn g_had g_state
    refine rn_iconst hX dX11_read_245 246 rfl ic_0 ?_
    refine rn_goto hX dX11_read_246 250 (by decide) ?_
    refine rn_sub [1, 2, 3, 4, 5, 6, 0, 8] rfl ?_
    exact (hJ250 _ _ hagain hk259) x1 x2 x3 x4 x5 s0 x8 x6 (0 : Int32) g_isAwake g_torn g_had g_state
  have hJ231 : ∀ (again : Int32 → Int32 → Int32 → Int32 → Int32 → Int32 → Int32 → Int32 → Int32 → Int32 → (Nat → Int32) → (Nat → Int32) → Option (Int32 × Int32 × Int32 × (Nat → Int32) × (Nat → Int32))) (k259 : Int32 → Int32 → Int32 → Int32 → Int32 → (Nat → Int32) → (Nat → Int32) → Option (Int32 × Int32 × Int32 × (Nat → Int32) × (Nat → Int32))) (hagain : ∀ (x1 : Int32) (x2 : Int32) (x3 : Int32) (x4 : Int32) (x5 : Int32) (x6 : Int32) (x7 : Int32) (x8 : Int32) (g_isAwake : Int32) (g_torn : Int32) (g_had : (Nat → Int32)) (g_state : (Nat → Int32)), Rn Z 10 (Option.map enc) 0 0 85 [(0, .ref a_this), (1, .int x1), (2, .int x2), (3, .int x3), (4, .int x4), (5, .int x5), (6, .int x6), (7, .int x7), (8, .int x8)] [] [(a_this, .inr (11, [.ref a_state, .ref a_readPage, .int g_isAwake, .ref a_tape, .int g_taped, .int g_fault, .int g_broken, .int g_brokenAt, .int g_spot, .int g_here, .int g_token, .int g_value, .ref a_letters, .int g_hasPlaces, .int g_highest, .ref a_sums, .ref a_aside, .ref a_groups, .ref a_sides, .int g_laid, .int g_groupMany, .int g_isDrawn, .ref a_names, .ref a_firstNames, .ref a_isKept, .ref a_lanes, .ref a_lengths, .ref a_cells, .int g_torn, .ref a_had])), (a_cells, .inl ((zG Z).2.1 1, 160, .inl g_cells)), (a_had, .inl ((zG Z).2.1 1, 21, .inl g_had)), (a_lanes, .inl ((zG Z).2.1 1, 4, .inl g_lanes)), (a_lengths, .inl ((zG Z).2.1 1, 4, .inl g_lengths)), (a_state, .inl ((zG Z).2.1 1, 96, .inl g_state))] (again x1 x2 x3 x4 x5 x6 x7 x8 g_isAwake g_torn g_had g_state)) (hk259 : ∀ (x5 : Int32) (x6 : Int32) (x7 : Int32) (g_isAwake : Int32) (g_torn : Int32) (g_had : (Nat → Int32)) (g_state : (Nat → Int32)), Rn Z 10 (Option.map enc) 0 0 259 [(0, .ref a_this), (5, .int x5), (6, .int x6), (7, .int x7)] [] [(a_this, .inr (11, [.ref a_state, .ref a_readPage, .int g_isAwake, .ref a_tape, .int g_taped, .int g_fault, .int g_broken, .int g_brokenAt, .int g_spot, .int g_here, .int g_token, .int g_value, .ref a_letters, .int g_hasPlaces, .int g_highest, .ref a_sums, .ref a_aside, .ref a_groups, .ref a_sides, .int g_laid, .int g_groupMany, .int g_isDrawn, .ref a_names, .ref a_firstNames, .ref a_isKept, .ref a_lanes, .ref a_lengths, .ref a_cells, .int g_torn, .ref a_had])), (a_cells, .inl ((zG Z).2.1 1, 160, .inl g_cells)), (a_had, .inl ((zG Z).2.1 1, 21, .inl g_had)), (a_lanes, .inl ((zG Z).2.1 1, 4, .inl g_lanes)), (a_lengths, .inl ((zG Z).2.1 1, 4, .inl g_lengths)), (a_state, .inl ((zG Z).2.1 1, 96, .inl g_state))] (k259 x5 x6 x7 g_isAwake g_torn g_had g_state)) (x1 : Int32) (x2 : Int32) (x3 : Int32) (x4 : Int32) (x5 : Int32) (x6 : Int32) (x8 : Int32) (g_isAwake : Int32) (g_torn : Int32) (g_had : (Nat → Int32)) (g_state : (Nat → Int32)), Rn Z 10 (Option.map enc) 0 0 231 [(0, .ref a_this), (1, .int x1), (2, .int x2), (3, .int x3), (4, .int x4), (5, .int x5), (6, .int x6), (8, .int x8)] [] [(a_this, .inr (11, [.ref a_state, .ref a_readPage, .int g_isAwake, .ref a_tape, .int g_taped, .int g_fault, .int g_broken, .int g_brokenAt, .int g_spot, .int g_here, .int g_token, .int g_value, .ref a_letters, .int g_hasPlaces, .int g_highest, .ref a_sums, .ref a_aside, .ref a_groups, .ref a_sides, .int g_laid, .int g_groupMany, .int g_isDrawn, .ref a_names, .ref a_firstNames, .ref a_isKept, .ref a_lanes, .ref a_lengths, .ref a_cells, .int g_torn, .ref a_had])), (a_cells, .inl ((zG Z).2.1 1, 160, .inl g_cells)), (a_had, .inl ((zG Z).2.1 1, 21, .inl g_had)), (a_lanes, .inl ((zG Z).2.1 1, 4, .inl g_lanes)), (a_lengths, .inl ((zG Z).2.1 1, 4, .inl g_lengths)), (a_state, .inl ((zG Z).2.1 1, 96, .inl g_state))] (X11_read_J231 again k259 x1 x2 x3 x4 x5 x6 x8 g_isAwake g_torn g_had g_state) := by
    intro again k259 hagain hk259 x1 x2 x3 x4 x5 x6 x8 g_isAwake g_torn g_had g_state
    unfold X11_read_J231
    refine rn_iconst hX dX11_read_231 232 rfl ic_1 ?_
    refine rn_goto hX dX11_read_232 236 (by decide) ?_
    exact (hJ236 _ _ hagain hk259) x1 x2 x3 x4 x5 x6 x8 (1 : Int32) g_isAwake g_torn g_had g_state
  have hJ160 : ∀ (again : Int32 → Int32 → Int32 → Int32 → Int32 → Int32 → Int32 → Int32 → Int32 → Int32 → (Nat → Int32) → (Nat → Int32) → Option (Int32 × Int32 × Int32 × (Nat → Int32) × (Nat → Int32))) (k259 : Int32 → Int32 → Int32 → Int32 → Int32 → (Nat → Int32) → (Nat → Int32) → Option (Int32 × Int32 × Int32 × (Nat → Int32) × (Nat → Int32))) (hagain : ∀ (x1 : Int32) (x2 : Int32) (x3 : Int32) (x4 : Int32) (x5 : Int32) (x6 : Int32) (x7 : Int32) (x8 : Int32) (g_isAwake : Int32) (g_torn : Int32) (g_had : (Nat → Int32)) (g_state : (Nat → Int32)), Rn Z 10 (Option.map enc) 0 0 85 [(0, .ref a_this), (1, .int x1), (2, .int x2), (3, .int x3), (4, .int x4), (5, .int x5), (6, .int x6), (7, .int x7), (8, .int x8)] [] [(a_this, .inr (11, [.ref a_state, .ref a_readPage, .int g_isAwake, .ref a_tape, .int g_taped, .int g_fault, .int g_broken, .int g_brokenAt, .int g_spot, .int g_here, .int g_token, .int g_value, .ref a_letters, .int g_hasPlaces, .int g_highest, .ref a_sums, .ref a_aside, .ref a_groups, .ref a_sides, .int g_laid, .int g_groupMany, .int g_isDrawn, .ref a_names, .ref a_firstNames, .ref a_isKept, .ref a_lanes, .ref a_lengths, .ref a_cells, .int g_torn, .ref a_had])), (a_cells, .inl ((zG Z).2.1 1, 160, .inl g_cells)), (a_had, .inl ((zG Z).2.1 1, 21, .inl g_had)), (a_lanes, .inl ((zG Z).2.1 1, 4, .inl g_lanes)), (a_lengths, .inl ((zG Z).2.1 1, 4, .inl g_lengths)), (a_state, .inl ((zG Z).2.1 1, 96, .inl g_state))] (again x1 x2 x3 x4 x5 x6 x7 x8 g_isAwake g_torn g_had g_state)) (hk259 : ∀ (x5 : Int32) (x6 : Int32) (x7 : Int32) (g_isAwake : Int32) (g_torn : Int32) (g_had : (Nat → Int32)) (g_state : (Nat → Int32)), Rn Z 10 (Option.map enc) 0 0 259 [(0, .ref a_this), (5, .int x5), (6, .int x6), (7, .int x7)] [] [(a_this, .inr (11, [.ref a_state, .ref a_readPage, .int g_isAwake, .ref a_tape, .int g_taped, .int g_fault, .int g_broken, .int g_brokenAt, .int g_spot, .int g_here, .int g_token, .int g_value, .ref a_letters, .int g_hasPlaces, .int g_highest, .ref a_sums, .ref a_aside, .ref a_groups, .ref a_sides, .int g_laid, .int g_groupMany, .int g_isDrawn, .ref a_names, .ref a_firstNames, .ref a_isKept, .ref a_lanes, .ref a_lengths, .ref a_cells, .int g_torn, .ref a_had])), (a_cells, .inl ((zG Z).2.1 1, 160, .inl g_cells)), (a_had, .inl ((zG Z).2.1 1, 21, .inl g_had)), (a_lanes, .inl ((zG Z).2.1 1, 4, .inl g_lanes)), (a_lengths, .inl ((zG Z).2.1 1, 4, .inl g_lengths)), (a_state, .inl ((zG Z).2.1 1, 96, .inl g_state))] (k259 x5 x6 x7 g_isAwake g_torn g_had g_state)) (x1 : Int32) (x2 : Int32) (x3 : Int32) (x4 : Int32) (x6 : Int32) (x7 : Int32) (x8 : Int32) (s0 : Int32) (g_isAwake : Int32) (g_torn : Int32) (g_had : (Nat → Int32)) (g_state : (Nat → Int32)), Rn Z 10 (Option.map enc) 0 0 160 [(0, .ref a_this), (1, .int x1), (2, .int x2), (3, .int x3), (4, .int x4), (6, .int x6), (7, .int x7), (8, .int x8)] [.int s0] [(a_this, .inr (11, [.ref a_state, .ref a_readPage, .int g_isAwake, .ref a_tape, .int g_taped, .int g_fault, .int g_broken, .int g_brokenAt, .int g_spot, .int g_here, .int g_token, .int g_value, .ref a_letters, .int g_hasPlaces, .int g_highest, .ref a_sums, .ref a_aside, .ref a_groups, .ref a_sides, .int g_laid, .int g_groupMany, .int g_isDrawn, .ref a_names, .ref a_firstNames, .ref a_isKept, .ref a_lanes, .ref a_lengths, .ref a_cells, .int g_torn, .ref a_had])), (a_cells, .inl ((zG Z).2.1 1, 160, .inl g_cells)), (a_had, .inl ((zG Z).2.1 1, 21, .inl g_had)), (a_lanes, .inl ((zG Z).2.1 1, 4, .inl g_lanes)), (a_lengths, .inl ((zG Z).2.1 1, 4, .inl g_lengths)), (a_state, .inl ((zG Z).2.1 1, 96, .inl g_state))] (X11_read_J160 g_cells again k259 x1 x2 x3 x4 x6 x7 x8 s0 g_isAwake g_torn g_had g_state) := by
    intro again k259 hagain hk259 x1 x2 x3 x4 x6 x7 x8 s0 g_isAwake g_torn g_had g_state
    unfold X11_read_J160
    refine rn_istore hX dX11_read_160 (by decide) (L' := [(5, .int s0), (0, .ref a_this), (1, .int x1), (2, .int x2), (3, .int x3), (4, .int x4), (6, .int x6), (7, .int x7), (8, .int x8)]) rfl 162 rfl ?_
    refine rn_iload hX dX11_read_162 0 rfl 164 rfl ?_
    refine rn_if_ne hX dX11_read_164 253 (by decide) 167 rfl ?_ ?_
    · refine rn_sub [1, 2, 3, 4, 5, 0, 6, 7, 8] rfl ?_
      exact (hJ253 _ _ hagain hk259) x1 x2 x3 x4 s0 x6 x7 x8 g_isAwake g_torn g_had g_state
    refine rn_iload hX dX11_read_167 8 rfl 169 rfl ?_
    refine rn_iconst hX dX11_read_169 170 rfl ic_3 ?_
    refine rn_irem hX dX11_read_170 171 rfl (by decide) ?_
    refine rn_iconst hX dX11_read_171 172 rfl ic_2 ?_
    refine rn_icmp_ne hX dX11_read_172 253 (by decide) 175 rfl ?_ ?_
    · refine rn_sub [1, 2, 3, 4, 5, 0, 6, 7, 8] rfl ?_
      exact (hJ253 _ _ hagain hk259) x1 x2 x3 x4 s0 x6 x7 x8 g_isAwake g_torn g_had g_state
    refine rn_bipush hX dX11_read_175 177 rfl bp_40 ?_
    refine rn_iload_n hX dX11_read_177 2 rfl 178 rfl ?_
    refine rn_imul hX dX11_read_178 179 rfl ?_
    refine rn_iload_n hX dX11_read_179 4 rfl 180 rfl ?_
    refine rn_iadd hX dX11_read_180 181 rfl ?_
    refine rn_iload hX dX11_read_181 8 rfl 183 rfl ?_
    refine rn_iadd hX dX11_read_183 184 rfl ?_
    refine rn_lati (fun v7 => ?_)
    refine rn_istore hX dX11_read_184 (by decide) (L' := [(9, .int v7), (5, .int s0), (0, .ref a_this), (1, .int x1), (2, .int x2), (3, .int x3), (4, .int x4), (6, .int x6), (7, .int x7), (8, .int x8)]) rfl 186 rfl ?_
    refine rn_aload_n hX dX11_read_186 2 rfl 187 rfl ?_
    refine rn_get hX inX11 0 rfl rfl 27 (by decide) fl50 rfl rfl dX11_read_187 190 rfl ?_
    refine rn_iload hX dX11_read_190 0 rfl 192 rfl ?_
    refine rn_gd (fun hi8 => ?_)
    refine rn_iald hX 1 rfl hi8 dX11_read_192 193 rfl ?_
    refine rn_bipush hX dX11_read_193 195 rfl bp_m4 ?_
    refine rn_icmp_eq hX dX11_read_195 231 (by decide) 198 rfl ?_ ?_
    · refine rn_sub [2, 3, 4, 5, 6, 1, 7, 9] rfl ?_
      exact (hJ231 _ _ hagain hk259) x1 x2 x3 x4 s0 x6 x8 g_isAwake g_torn g_had g_state
    refine rn_aload_n hX dX11_read_198 2 rfl 199 rfl ?_
    refine rn_aload_n hX dX11_read_199 2 rfl 200 rfl ?_
    refine rn_get hX inX11 0 rfl rfl 27 (by decide) fl50 rfl rfl dX11_read_200 203 rfl ?_
    refine rn_iload hX dX11_read_203 0 rfl 205 rfl ?_
    refine rn_iconst hX dX11_read_205 206 rfl ic_2 ?_
    refine rn_isub hX dX11_read_206 207 rfl ?_
    refine rn_gd (fun hi9 => ?_)
    refine rn_iald hX 1 rfl hi9 dX11_read_207 208 rfl ?_
    refine rn_aload_n hX dX11_read_208 2 rfl 209 rfl ?_
    refine rn_get hX inX11 0 rfl rfl 27 (by decide) fl50 rfl rfl dX11_read_209 212 rfl ?_
    refine rn_iload hX dX11_read_212 0 rfl 214 rfl ?_
    refine rn_iconst hX dX11_read_214 215 rfl ic_1 ?_
    refine rn_isub hX dX11_read_215 216 rfl ?_
    refine rn_gd (fun hi10 => ?_)
    refine rn_iald hX 1 rfl hi10 dX11_read_216 217 rfl ?_
    refine rn_aload_n hX dX11_read_217 2 rfl 218 rfl ?_
    refine rn_get hX inX11 0 rfl rfl 27 (by decide) fl50 rfl rfl dX11_read_218 221 rfl ?_
    refine rn_iload hX dX11_read_221 0 rfl 223 rfl ?_
    refine rn_iald hX 1 rfl hi8 dX11_read_223 224 rfl ?_
    refine rn_bind (fun u11 hu11 => ?_)
    refine rn_callV hX (gV mcC wd_1164 wd_1166 wd_37 wd_81 wd_1167) rfl hdV_X11_tells2 rfl rfl ⟨Nat.le_of_ble_eq_true rfl, Nat.le_of_ble_eq_true rfl⟩ (c_X11_tells2 (zl Z) (zG Z) a_this a_state a_readPage a_tape a_letters a_sums a_aside a_groups a_sides a_names a_firstNames a_isKept a_lanes a_lengths a_cells a_had g_isAwake g_taped g_fault g_broken g_brokenAt g_spot g_here g_token g_value g_hasPlaces g_highest g_laid g_groupMany g_isDrawn g_torn g_state (g_cells (v7 - (2 : Int32)).toNatClampNeg) (g_cells (v7 - (1 : Int32)).toNatClampNeg) (g_cells v7.toNatClampNeg) hu11) rfl [0, 5] rfl rfl rfl (ci := 11) rfl rfl rfl (Nat.le_of_ble_eq_true rfl) dX11_read_224 227 rfl (wn := [(a_this, .inr (11, [.ref a_state, .ref a_readPage, .int u11.2.1, .ref a_tape, .int g_taped, .int g_fault, .int g_broken, .int g_brokenAt, .int g_spot, .int g_here, .int g_token, .int g_value, .ref a_letters, .int g_hasPlaces, .int g_highest, .ref a_sums, .ref a_aside, .ref a_groups, .ref a_sides, .int g_laid, .int g_groupMany, .int g_isDrawn, .ref a_names, .ref a_firstNames, .ref a_isKept, .ref a_lanes, .ref a_lengths, .ref a_cells, .int g_torn, .ref a_had])), (a_cells, .inl ((zG Z).2.1 1, 160, .inl g_cells)), (a_had, .inl ((zG Z).2.1 1, 21, .inl g_had)), (a_lanes, .inl ((zG Z).2.1 1, 4, .inl g_lanes)), (a_lengths, .inl ((zG Z).2.1 1, 4, .inl g_lengths)), (a_state, .inl ((zG Z).2.1 1, 96, .inl u11.2.2))]) rfl (S' := [.int u11.1]) rfl ⟨Nat.zero_le _, Nat.zero_le _⟩ ?_
    refine rn_iconst hX dX11_read_227 228 rfl ic_m1 ?_
    refine rn_icmp_ne hX dX11_read_228 235 (by decide) 231 rfl ?_ ?_
    · refine rn_iconst hX dX11_read_235 236 rfl ic_0 ?_
      refine rn_sub [2, 3, 4, 5, 6, 1, 7, 9] rfl ?_
      exact (hJ236 _ _ hagain hk259) x1 x2 x3 x4 s0 x6 x8 (0 : Int32) u11.2.1 g_torn g_had u11.2.2
    refine rn_sub [2, 3, 4, 5, 6, 1, 7, 9] rfl ?_
    exact (hJ231 _ _ hagain hk259) x1 x2 x3 x4 s0 x6 x8 u11.2.1 g_torn g_had u11.2.2
  have hB85 : ∀ (again : Int32 → Int32 → Int32 → Int32 → Int32 → Int32 → Int32 → Int32 → Int32 → Int32 → (Nat → Int32) → (Nat → Int32) → Option (Int32 × Int32 × Int32 × (Nat → Int32) × (Nat → Int32))) (k259 : Int32 → Int32 → Int32 → Int32 → Int32 → (Nat → Int32) → (Nat → Int32) → Option (Int32 × Int32 × Int32 × (Nat → Int32) × (Nat → Int32))) (hagain : ∀ (x1 : Int32) (x2 : Int32) (x3 : Int32) (x4 : Int32) (x5 : Int32) (x6 : Int32) (x7 : Int32) (x8 : Int32) (g_isAwake : Int32) (g_torn : Int32) (g_had : (Nat → Int32)) (g_state : (Nat → Int32)), Rn Z 10 (Option.map enc) 0 0 85 [(0, .ref a_this), (1, .int x1), (2, .int x2), (3, .int x3), (4, .int x4), (5, .int x5), (6, .int x6), (7, .int x7), (8, .int x8)] [] [(a_this, .inr (11, [.ref a_state, .ref a_readPage, .int g_isAwake, .ref a_tape, .int g_taped, .int g_fault, .int g_broken, .int g_brokenAt, .int g_spot, .int g_here, .int g_token, .int g_value, .ref a_letters, .int g_hasPlaces, .int g_highest, .ref a_sums, .ref a_aside, .ref a_groups, .ref a_sides, .int g_laid, .int g_groupMany, .int g_isDrawn, .ref a_names, .ref a_firstNames, .ref a_isKept, .ref a_lanes, .ref a_lengths, .ref a_cells, .int g_torn, .ref a_had])), (a_cells, .inl ((zG Z).2.1 1, 160, .inl g_cells)), (a_had, .inl ((zG Z).2.1 1, 21, .inl g_had)), (a_lanes, .inl ((zG Z).2.1 1, 4, .inl g_lanes)), (a_lengths, .inl ((zG Z).2.1 1, 4, .inl g_lengths)), (a_state, .inl ((zG Z).2.1 1, 96, .inl g_state))] (again x1 x2 x3 x4 x5 x6 x7 x8 g_isAwake g_torn g_had g_state)) (hk259 : ∀ (x5 : Int32) (x6 : Int32) (x7 : Int32) (g_isAwake : Int32) (g_torn : Int32) (g_had : (Nat → Int32)) (g_state : (Nat → Int32)), Rn Z 10 (Option.map enc) 0 0 259 [(0, .ref a_this), (5, .int x5), (6, .int x6), (7, .int x7)] [] [(a_this, .inr (11, [.ref a_state, .ref a_readPage, .int g_isAwake, .ref a_tape, .int g_taped, .int g_fault, .int g_broken, .int g_brokenAt, .int g_spot, .int g_here, .int g_token, .int g_value, .ref a_letters, .int g_hasPlaces, .int g_highest, .ref a_sums, .ref a_aside, .ref a_groups, .ref a_sides, .int g_laid, .int g_groupMany, .int g_isDrawn, .ref a_names, .ref a_firstNames, .ref a_isKept, .ref a_lanes, .ref a_lengths, .ref a_cells, .int g_torn, .ref a_had])), (a_cells, .inl ((zG Z).2.1 1, 160, .inl g_cells)), (a_had, .inl ((zG Z).2.1 1, 21, .inl g_had)), (a_lanes, .inl ((zG Z).2.1 1, 4, .inl g_lanes)), (a_lengths, .inl ((zG Z).2.1 1, 4, .inl g_lengths)), (a_state, .inl ((zG Z).2.1 1, 96, .inl g_state))] (k259 x5 x6 x7 g_isAwake g_torn g_had g_state)) (x1 : Int32) (x2 : Int32) (x3 : Int32) (x4 : Int32) (x5 : Int32) (x6 : Int32) (x7 : Int32) (x8 : Int32) (g_isAwake : Int32) (g_torn : Int32) (g_had : (Nat → Int32)) (g_state : (Nat → Int32)), Rn Z 10 (Option.map enc) 0 0 85 [(0, .ref a_this), (1, .int x1), (2, .int x2), (3, .int x3), (4, .int x4), (5, .int x5), (6, .int x6), (7, .int x7), (8, .int x8)] [] [(a_this, .inr (11, [.ref a_state, .ref a_readPage, .int g_isAwake, .ref a_tape, .int g_taped, .int g_fault, .int g_broken, .int g_brokenAt, .int g_spot, .int g_here, .int g_token, .int g_value, .ref a_letters, .int g_hasPlaces, .int g_highest, .ref a_sums, .ref a_aside, .ref a_groups, .ref a_sides, .int g_laid, .int g_groupMany, .int g_isDrawn, .ref a_names, .ref a_firstNames, .ref a_isKept, .ref a_lanes, .ref a_lengths, .ref a_cells, .int g_torn, .ref a_had])), (a_cells, .inl ((zG Z).2.1 1, 160, .inl g_cells)), (a_had, .inl ((zG Z).2.1 1, 21, .inl g_had)), (a_lanes, .inl ((zG Z).2.1 1, 4, .inl g_lanes)), (a_lengths, .inl ((zG Z).2.1 1, 4, .inl g_lengths)), (a_state, .inl ((zG Z).2.1 1, 96, .inl g_state))] (X11_read_B85 g_cells g_lanes g_lengths again k259 x1 x2 x3 x4 x5 x6 x7 x8 g_isAwake g_torn g_had g_state) := by
    intro again k259 hagain hk259 x1 x2 x3 x4 x5 x6 x7 x8 g_isAwake g_torn g_had g_state
    unfold X11_read_B85
    refine rn_iload hX dX11_read_85 8 rfl 87 rfl ?_
    refine rn_iconst hX dX11_read_87 88 rfl ic_3 ?_
    refine rn_iload hX dX11_read_88 4 rfl 90 rfl ?_
    refine rn_imul hX dX11_read_90 91 rfl ?_
    refine rn_icmp_ge hX dX11_read_91 259 (by decide) 94 rfl ?_ ?_
    · refine rn_sub [0, 5, 6, 7] rfl ?_
      exact hk259 x5 x6 x7 g_isAwake g_torn g_had g_state
    refine rn_iload hX dX11_read_94 5 rfl 96 rfl ?_
    refine rn_if_ne hX dX11_read_96 259 (by decide) 99 rfl ?_ ?_
    · refine rn_sub [0, 5, 6, 7] rfl ?_
      exact hk259 x5 x6 x7 g_isAwake g_torn g_had g_state
    refine rn_iload hX dX11_read_99 7 rfl 101 rfl ?_
    refine rn_if_ne hX dX11_read_101 259 (by decide) 104 rfl ?_ ?_
    · refine rn_sub [0, 5, 6, 7] rfl ?_
      exact hk259 x5 x6 x7 g_isAwake g_torn g_had g_state
    refine rn_aload_n hX dX11_read_104 0 rfl 105 rfl ?_
    refine rn_get hX inX11 0 rfl rfl 25 (by decide) fl44 rfl rfl dX11_read_105 108 rfl ?_
    refine rn_iload_n hX dX11_read_108 1 rfl 109 rfl ?_
    refine rn_gd (fun hi12 => ?_)
    refine rn_iald hX 3 rfl hi12 dX11_read_109 110 rfl ?_
    refine rn_bipush hX dX11_read_110 112 rfl bp_m4 ?_
    refine rn_icmp_ne hX dX11_read_112 119 (by decide) 115 rfl ?_ ?_
    · refine rn_aload_n hX dX11_read_119 0 rfl 120 rfl ?_
      refine rn_get hX inX11 0 rfl rfl 25 (by decide) fl44 rfl rfl dX11_read_120 123 rfl ?_
      refine rn_iload_n hX dX11_read_123 1 rfl 124 rfl ?_
      refine rn_iald hX 3 rfl hi12 dX11_read_124 125 rfl ?_
      refine rn_iload_n hX dX11_read_125 2 rfl 126 rfl ?_
      refine rn_icmp_eq hX dX11_read_126 133 (by decide) 129 rfl ?_ ?_
      · refine rn_iload_n hX dX11_read_133 3 rfl 134 rfl ?_
        refine rn_i2l hX dX11_read_134 135 rfl ?_
        refine rn_iload hX dX11_read_135 8 rfl 137 rfl ?_
        refine rn_i2l hX dX11_read_137 138 rfl ?_
        refine rn_ladd hX dX11_read_138 139 rfl ?_
        refine rn_lconst hX dX11_read_139 140 rfl lc_0 ?_
        refine rn_aload_n hX dX11_read_140 0 rfl 141 rfl ?_
        refine rn_get hX inX11 0 rfl rfl 26 (by decide) fl47 rfl rfl dX11_read_141 144 rfl ?_
        refine rn_iload_n hX dX11_read_144 1 rfl 145 rfl ?_
        refine rn_iald hX 4 rfl hi12 dX11_read_145 146 rfl ?_
        refine rn_iconst hX dX11_read_146 147 rfl ic_1 ?_
        refine rn_isub hX dX11_read_147 148 rfl ?_
        refine rn_i2l hX dX11_read_148 149 rfl ?_
        refine rn_callS0 hX (gS mcC wd_1090 wd_1091 wd_81 wd_1092) rfl hdS_X11_in rfl rfl ⟨Nat.le_of_ble_eq_true rfl, Nat.le_of_ble_eq_true rfl⟩ (c_X11_in (zl Z) (zG Z) (x3.toInt64 + x8.toInt64) (0 : Int64) (((g_lengths x1.toNatClampNeg) - (1 : Int32)).toInt64) rfl) rfl [] rfl rfl rfl (Nat.le_of_ble_eq_true rfl) dX11_read_149 152 rfl (S' := [.int (X11_in (x3.toInt64 + x8.toInt64) (0 : Int64) (((g_lengths x1.toNatClampNeg) - (1 : Int32)).toInt64))]) rfl ⟨Nat.zero_le _, Nat.zero_le _⟩ ?_
        refine rn_if_ne hX dX11_read_152 159 (by decide) 155 rfl ?_ ?_
        · refine rn_iconst hX dX11_read_159 160 rfl ic_0 ?_
          refine rn_sub [0, 1, 2, 3, 4, 6, 7, 8] rfl ?_
          exact (hJ160 _ _ hagain hk259) x1 x2 x3 x4 x6 x7 x8 (0 : Int32) g_isAwake g_torn g_had g_state
        refine rn_iconst hX dX11_read_155 156 rfl ic_2 ?_
        refine rn_goto hX dX11_read_156 160 (by decide) ?_
        refine rn_sub [0, 1, 2, 3, 4, 6, 7, 8] rfl ?_
        exact (hJ160 _ _ hagain hk259) x1 x2 x3 x4 x6 x7 x8 (2 : Int32) g_isAwake g_torn g_had g_state
      refine rn_iconst hX dX11_read_129 130 rfl ic_3 ?_
      refine rn_goto hX dX11_read_130 160 (by decide) ?_
      refine rn_sub [0, 1, 2, 3, 4, 6, 7, 8] rfl ?_
      exact (hJ160 _ _ hagain hk259) x1 x2 x3 x4 x6 x7 x8 (3 : Int32) g_isAwake g_torn g_had g_state
    refine rn_iconst hX dX11_read_115 116 rfl ic_1 ?_
    refine rn_goto hX dX11_read_116 160 (by decide) ?_
    refine rn_sub [0, 1, 2, 3, 4, 6, 7, 8] rfl ?_
    exact (hJ160 _ _ hagain hk259) x1 x2 x3 x4 x6 x7 x8 (1 : Int32) g_isAwake g_torn g_had g_state
  have hL85 : ∀ (k259 : Int32 → Int32 → Int32 → Int32 → Int32 → (Nat → Int32) → (Nat → Int32) → Option (Int32 × Int32 × Int32 × (Nat → Int32) × (Nat → Int32))) (hk259 : ∀ (x5 : Int32) (x6 : Int32) (x7 : Int32) (g_isAwake : Int32) (g_torn : Int32) (g_had : (Nat → Int32)) (g_state : (Nat → Int32)), Rn Z 10 (Option.map enc) 0 0 259 [(0, .ref a_this), (5, .int x5), (6, .int x6), (7, .int x7)] [] [(a_this, .inr (11, [.ref a_state, .ref a_readPage, .int g_isAwake, .ref a_tape, .int g_taped, .int g_fault, .int g_broken, .int g_brokenAt, .int g_spot, .int g_here, .int g_token, .int g_value, .ref a_letters, .int g_hasPlaces, .int g_highest, .ref a_sums, .ref a_aside, .ref a_groups, .ref a_sides, .int g_laid, .int g_groupMany, .int g_isDrawn, .ref a_names, .ref a_firstNames, .ref a_isKept, .ref a_lanes, .ref a_lengths, .ref a_cells, .int g_torn, .ref a_had])), (a_cells, .inl ((zG Z).2.1 1, 160, .inl g_cells)), (a_had, .inl ((zG Z).2.1 1, 21, .inl g_had)), (a_lanes, .inl ((zG Z).2.1 1, 4, .inl g_lanes)), (a_lengths, .inl ((zG Z).2.1 1, 4, .inl g_lengths)), (a_state, .inl ((zG Z).2.1 1, 96, .inl g_state))] (k259 x5 x6 x7 g_isAwake g_torn g_had g_state)) (n : Nat) (x1 : Int32) (x2 : Int32) (x3 : Int32) (x4 : Int32) (x5 : Int32) (x6 : Int32) (x7 : Int32) (x8 : Int32) (g_isAwake : Int32) (g_torn : Int32) (g_had : (Nat → Int32)) (g_state : (Nat → Int32)), Rn Z 10 (Option.map enc) 0 0 85 [(0, .ref a_this), (1, .int x1), (2, .int x2), (3, .int x3), (4, .int x4), (5, .int x5), (6, .int x6), (7, .int x7), (8, .int x8)] [] [(a_this, .inr (11, [.ref a_state, .ref a_readPage, .int g_isAwake, .ref a_tape, .int g_taped, .int g_fault, .int g_broken, .int g_brokenAt, .int g_spot, .int g_here, .int g_token, .int g_value, .ref a_letters, .int g_hasPlaces, .int g_highest, .ref a_sums, .ref a_aside, .ref a_groups, .ref a_sides, .int g_laid, .int g_groupMany, .int g_isDrawn, .ref a_names, .ref a_firstNames, .ref a_isKept, .ref a_lanes, .ref a_lengths, .ref a_cells, .int g_torn, .ref a_had])), (a_cells, .inl ((zG Z).2.1 1, 160, .inl g_cells)), (a_had, .inl ((zG Z).2.1 1, 21, .inl g_had)), (a_lanes, .inl ((zG Z).2.1 1, 4, .inl g_lanes)), (a_lengths, .inl ((zG Z).2.1 1, 4, .inl g_lengths)), (a_state, .inl ((zG Z).2.1 1, 96, .inl g_state))] (X11_read_L85 g_cells g_lanes g_lengths k259 n x1 x2 x3 x4 x5 x6 x7 x8 g_isAwake g_torn g_had g_state) := by
    intro k259 hk259 n
    induction n with
    | zero => intros; exact rn_none
    | succ n ih => exact hB85 _ _ ih hk259
  have hJ82 : ∀ (x1 : Int32) (x2 : Int32) (x3 : Int32) (x4 : Int32) (x5 : Int32) (x6 : Int32) (x7 : Int32) (g_isAwake : Int32) (g_torn : Int32) (g_had : (Nat → Int32)) (g_state : (Nat → Int32)), Rn Z 10 (Option.map enc) 0 0 82 [(0, .ref a_this), (1, .int x1), (2, .int x2), (3, .int x3), (4, .int x4), (5, .int x5), (6, .int x6), (7, .int x7)] [] [(a_this, .inr (11, [.ref a_state, .ref a_readPage, .int g_isAwake, .ref a_tape, .int g_taped, .int g_fault, .int g_broken, .int g_brokenAt, .int g_spot, .int g_here, .int g_token, .int g_value, .ref a_letters, .int g_hasPlaces, .int g_highest, .ref a_sums, .ref a_aside, .ref a_groups, .ref a_sides, .int g_laid, .int g_groupMany, .int g_isDrawn, .ref a_names, .ref a_firstNames, .ref a_isKept, .ref a_lanes, .ref a_lengths, .ref a_cells, .int g_torn, .ref a_had])), (a_cells, .inl ((zG Z).2.1 1, 160, .inl g_cells)), (a_had, .inl ((zG Z).2.1 1, 21, .inl g_had)), (a_lanes, .inl ((zG Z).2.1 1, 4, .inl g_lanes)), (a_lengths, .inl ((zG Z).2.1 1, 4, .inl g_lengths)), (a_state, .inl ((zG Z).2.1 1, 96, .inl g_state))] (X11_read_J82 g_cells g_lanes g_lengths x1 x2 x3 x4 x5 x6 x7 g_isAwake g_torn g_had g_state) := by
    intro x1 x2 x3 x4 x5 x6 x7 g_isAwake g_torn g_had g_state
    unfold X11_read_J82
    refine rn_iconst hX dX11_read_82 83 rfl ic_0 ?_
    refine rn_istore hX dX11_read_83 (by decide) (L' := [(8, .int (0 : Int32)), (0, .ref a_this), (1, .int x1), (2, .int x2), (3, .int x3), (4, .int x4), (5, .int x5), (6, .int x6), (7, .int x7)]) rfl 85 rfl ?_
    refine rn_sub [1, 2, 3, 4, 5, 6, 7, 8, 0] rfl ?_
    exact (hL85 _ hJ259 1000) x1 x2 x3 x4 x5 x6 x7 (0 : Int32) g_isAwake g_torn g_had g_state
  have hB55 : ∀ (again : Int32 → Int32 → Int32 → Int32 → Int32 → Int32 → Int32 → Int32 → Int32 → Int32 → (Nat → Int32) → (Nat → Int32) → Option (Int32 × Int32 × Int32 × (Nat → Int32) × (Nat → Int32))) (k82 : Int32 → Int32 → Int32 → Int32 → Int32 → Int32 → Int32 → Int32 → Int32 → (Nat → Int32) → (Nat → Int32) → Option (Int32 × Int32 × Int32 × (Nat → Int32) × (Nat → Int32))) (hagain : ∀ (x1 : Int32) (x2 : Int32) (x3 : Int32) (x4 : Int32) (x5 : Int32) (x6 : Int32) (x7 : Int32) (x8 : Int32) (g_isAwake : Int32) (g_torn : Int32) (g_had : (Nat → Int32)) (g_state : (Nat → Int32)), Rn Z 10 (Option.map enc) 0 0 55 [(0, .ref a_this), (1, .int x1), (2, .int x2), (3, .int x3), (4, .int x4), (5, .int x5), (6, .int x6), (7, .int x7), (8, .int x8)] [] [(a_this, .inr (11, [.ref a_state, .ref a_readPage, .int g_isAwake, .ref a_tape, .int g_taped, .int g_fault, .int g_broken, .int g_brokenAt, .int g_spot, .int g_here, .int g_token, .int g_value, .ref a_letters, .int g_hasPlaces, .int g_highest, .ref a_sums, .ref a_aside, .ref a_groups, .ref a_sides, .int g_laid, .int g_groupMany, .int g_isDrawn, .ref a_names, .ref a_firstNames, .ref a_isKept, .ref a_lanes, .ref a_lengths, .ref a_cells, .int g_torn, .ref a_had])), (a_cells, .inl ((zG Z).2.1 1, 160, .inl g_cells)), (a_had, .inl ((zG Z).2.1 1, 21, .inl g_had)), (a_lanes, .inl ((zG Z).2.1 1, 4, .inl g_lanes)), (a_lengths, .inl ((zG Z).2.1 1, 4, .inl g_lengths)), (a_state, .inl ((zG Z).2.1 1, 96, .inl g_state))] (again x1 x2 x3 x4 x5 x6 x7 x8 g_isAwake g_torn g_had g_state)) (hk82 : ∀ (x1 : Int32) (x2 : Int32) (x3 : Int32) (x4 : Int32) (x5 : Int32) (x6 : Int32) (x7 : Int32) (g_isAwake : Int32) (g_torn : Int32) (g_had : (Nat → Int32)) (g_state : (Nat → Int32)), Rn Z 10 (Option.map enc) 0 0 82 [(0, .ref a_this), (1, .int x1), (2, .int x2), (3, .int x3), (4, .int x4), (5, .int x5), (6, .int x6), (7, .int x7)] [] [(a_this, .inr (11, [.ref a_state, .ref a_readPage, .int g_isAwake, .ref a_tape, .int g_taped, .int g_fault, .int g_broken, .int g_brokenAt, .int g_spot, .int g_here, .int g_token, .int g_value, .ref a_letters, .int g_hasPlaces, .int g_highest, .ref a_sums, .ref a_aside, .ref a_groups, .ref a_sides, .int g_laid, .int g_groupMany, .int g_isDrawn, .ref a_names, .ref a_firstNames, .ref a_isKept, .ref a_lanes, .ref a_lengths, .ref a_cells, .int g_torn, .ref a_had])), (a_cells, .inl ((zG Z).2.1 1, 160, .inl g_cells)), (a_had, .inl ((zG Z).2.1 1, 21, .inl g_had)), (a_lanes, .inl ((zG Z).2.1 1, 4, .inl g_lanes)), (a_lengths, .inl ((zG Z).2.1 1, 4, .inl g_lengths)), (a_state, .inl ((zG Z).2.1 1, 96, .inl g_state))] (k82 x1 x2 x3 x4 x5 x6 x7 g_isAwake g_torn g_had g_state)) (x1 : Int32) (x2 : Int32) (x3 : Int32) (x4 : Int32) (x5 : Int32) (x6 : Int32) (x7 : Int32) (x8 : Int32) (g_isAwake : Int32) (g_torn : Int32) (g_had : (Nat → Int32)) (g_state : (Nat → Int32)), Rn Z 10 (Option.map enc) 0 0 55 [(0, .ref a_this), (1, .int x1), (2, .int x2), (3, .int x3), (4, .int x4), (5, .int x5), (6, .int x6), (7, .int x7), (8, .int x8)] [] [(a_this, .inr (11, [.ref a_state, .ref a_readPage, .int g_isAwake, .ref a_tape, .int g_taped, .int g_fault, .int g_broken, .int g_brokenAt, .int g_spot, .int g_here, .int g_token, .int g_value, .ref a_letters, .int g_hasPlaces, .int g_highest, .ref a_sums, .ref a_aside, .ref a_groups, .ref a_sides, .int g_laid, .int g_groupMany, .int g_isDrawn, .ref a_names, .ref a_firstNames, .ref a_isKept, .ref a_lanes, .ref a_lengths, .ref a_cells, .int g_torn, .ref a_had])), (a_cells, .inl ((zG Z).2.1 1, 160, .inl g_cells)), (a_had, .inl ((zG Z).2.1 1, 21, .inl g_had)), (a_lanes, .inl ((zG Z).2.1 1, 4, .inl g_lanes)), (a_lengths, .inl ((zG Z).2.1 1, 4, .inl g_lengths)), (a_state, .inl ((zG Z).2.1 1, 96, .inl g_state))] (X11_read_B55 again k82 x1 x2 x3 x4 x5 x6 x7 x8 g_isAwake g_torn g_had g_state) := by
    intro again k82 hagain hk82 x1 x2 x3 x4 x5 x6 x7 x8 g_isAwake g_torn g_had g_state
    unfold X11_read_B55
    refine rn_iload hX dX11_read_55 8 rfl 57 rfl ?_
    refine rn_bipush hX dX11_read_57 59 rfl bp_21 ?_
    refine rn_icmp_ge hX dX11_read_59 82 (by decide) 62 rfl ?_ ?_
    · refine rn_sub [0, 1, 2, 3, 4, 5, 6, 7] rfl ?_
      exact hk82 x1 x2 x3 x4 x5 x6 x7 g_isAwake g_torn g_had g_state
    refine rn_aload_n hX dX11_read_62 0 rfl 63 rfl ?_
    refine rn_get hX inX11 0 rfl rfl 29 (by decide) fl53 rfl rfl dX11_read_63 66 rfl ?_
    refine rn_iload hX dX11_read_66 8 rfl 68 rfl ?_
    refine rn_aload_n hX dX11_read_68 0 rfl 69 rfl ?_
    refine rn_get hX inX11 0 rfl rfl 0 (by decide) fl7 rfl rfl dX11_read_69 72 rfl ?_
    refine rn_iload hX dX11_read_72 8 rfl 74 rfl ?_
    refine rn_gd (fun hi13 => ?_)
    refine rn_iald hX 5 rfl hi13 dX11_read_74 75 rfl ?_
    refine rn_gd (fun hi14 => ?_)
    refine rn_iast hX 2 rfl hi14 dX11_read_75 76 rfl (w1 := fun m15 => [(a_this, .inr (11, [.ref a_state, .ref a_readPage, .int g_isAwake, .ref a_tape, .int g_taped, .int g_fault, .int g_broken, .int g_brokenAt, .int g_spot, .int g_here, .int g_token, .int g_value, .ref a_letters, .int g_hasPlaces, .int g_highest, .ref a_sums, .ref a_aside, .ref a_groups, .ref a_sides, .int g_laid, .int g_groupMany, .int g_isDrawn, .ref a_names, .ref a_firstNames, .ref a_isKept, .ref a_lanes, .ref a_lengths, .ref a_cells, .int g_torn, .ref a_had])), (a_cells, .inl ((zG Z).2.1 1, 160, .inl g_cells)), (a_had, .inl ((zG Z).2.1 1, 21, .inl m15)), (a_lanes, .inl ((zG Z).2.1 1, 4, .inl g_lanes)), (a_lengths, .inl ((zG Z).2.1 1, 4, .inl g_lengths)), (a_state, .inl ((zG Z).2.1 1, 96, .inl g_state))]) (fun _ => rfl) (fun m15 => ?_)
    refine rn_iinc hX dX11_read_76 8 rfl ic_1 (by decide) (L' := fun v16 => [(8, .int v16), (0, .ref a_this), (1, .int x1), (2, .int x2), (3, .int x3), (4, .int x4), (5, .int x5), (6, .int x6), (7, .int x7)]) (fun _ => rfl) 79 rfl (fun v16 => ?_)
    refine rn_goto hX dX11_read_79 55 (by decide) ?_
    refine rn_sub [1, 2, 3, 4, 5, 6, 7, 8, 0] rfl ?_
    exact hagain x1 x2 x3 x4 x5 x6 x7 v16 g_isAwake g_torn m15 g_state
  have hL55 : ∀ (k82 : Int32 → Int32 → Int32 → Int32 → Int32 → Int32 → Int32 → Int32 → Int32 → (Nat → Int32) → (Nat → Int32) → Option (Int32 × Int32 × Int32 × (Nat → Int32) × (Nat → Int32))) (hk82 : ∀ (x1 : Int32) (x2 : Int32) (x3 : Int32) (x4 : Int32) (x5 : Int32) (x6 : Int32) (x7 : Int32) (g_isAwake : Int32) (g_torn : Int32) (g_had : (Nat → Int32)) (g_state : (Nat → Int32)), Rn Z 10 (Option.map enc) 0 0 82 [(0, .ref a_this), (1, .int x1), (2, .int x2), (3, .int x3), (4, .int x4), (5, .int x5), (6, .int x6), (7, .int x7)] [] [(a_this, .inr (11, [.ref a_state, .ref a_readPage, .int g_isAwake, .ref a_tape, .int g_taped, .int g_fault, .int g_broken, .int g_brokenAt, .int g_spot, .int g_here, .int g_token, .int g_value, .ref a_letters, .int g_hasPlaces, .int g_highest, .ref a_sums, .ref a_aside, .ref a_groups, .ref a_sides, .int g_laid, .int g_groupMany, .int g_isDrawn, .ref a_names, .ref a_firstNames, .ref a_isKept, .ref a_lanes, .ref a_lengths, .ref a_cells, .int g_torn, .ref a_had])), (a_cells, .inl ((zG Z).2.1 1, 160, .inl g_cells)), (a_had, .inl ((zG Z).2.1 1, 21, .inl g_had)), (a_lanes, .inl ((zG Z).2.1 1, 4, .inl g_lanes)), (a_lengths, .inl ((zG Z).2.1 1, 4, .inl g_lengths)), (a_state, .inl ((zG Z).2.1 1, 96, .inl g_state))] (k82 x1 x2 x3 x4 x5 x6 x7 g_isAwake g_torn g_had g_state)) (n : Nat) (x1 : Int32) (x2 : Int32) (x3 : Int32) (x4 : Int32) (x5 : Int32) (x6 : Int32) (x7 : Int32) (x8 : Int32) (g_isAwake : Int32) (g_torn : Int32) (g_had : (Nat → Int32)) (g_state : (Nat → Int32)), Rn Z 10 (Option.map enc) 0 0 55 [(0, .ref a_this), (1, .int x1), (2, .int x2), (3, .int x3), (4, .int x4), (5, .int x5), (6, .int x6), (7, .int x7), (8, .int x8)] [] [(a_this, .inr (11, [.ref a_state, .ref a_readPage, .int g_isAwake, .ref a_tape, .int g_taped, .int g_fault, .int g_broken, .int g_brokenAt, .int g_spot, .int g_here, .int g_token, .int g_value, .ref a_letters, .int g_hasPlaces, .int g_highest, .ref a_sums, .ref a_aside, .ref a_groups, .ref a_sides, .int g_laid, .int g_groupMany, .int g_isDrawn, .ref a_names, .ref a_firstNames, .ref a_isKept, .ref a_lanes, .ref a_lengths, .ref a_cells, .int g_torn, .ref a_had])), (a_cells, .inl ((zG Z).2.1 1, 160, .inl g_cells)), (a_had, .inl ((zG Z).2.1 1, 21, .inl g_had)), (a_lanes, .inl ((zG Z).2.1 1, 4, .inl g_lanes)), (a_lengths, .inl ((zG Z).2.1 1, 4, .inl g_lengths)), (a_state, .inl ((zG Z).2.1 1, 96, .inl g_state))] (X11_read_L55 k82 n x1 x2 x3 x4 x5 x6 x7 x8 g_isAwake g_torn g_had g_state) := by
    intro k82 hk82 n
    induction n with
    | zero => intros; exact rn_none
    | succ n ih => exact hB55 _ _ ih hk82
  unfold X11_read
  refine rn_aload_n hX dX11_read_0 0 rfl 1 rfl ?_
  refine rn_lat (fun u17 hu17 => ?_)
  refine rn_callV hX (gV mcC wd_1152 wd_1154 wd_35 wd_81 wd_1155) rfl hdV_X11_awake rfl rfl ⟨Nat.le_of_ble_eq_true rfl, Nat.le_of_ble_eq_true rfl⟩ (c_X11_awake (zl Z) (zG Z) a_this a_state a_readPage a_tape a_letters a_sums a_aside a_groups a_sides a_names a_firstNames a_isKept a_lanes a_lengths a_cells a_had g_isAwake g_taped g_fault g_broken g_brokenAt g_spot g_here g_token g_value g_hasPlaces g_highest g_laid g_groupMany g_isDrawn g_torn g_state hu17) rfl [0, 5] rfl rfl rfl (ci := 11) rfl rfl rfl (Nat.le_of_ble_eq_true rfl) dX11_read_1 4 rfl (wn := [(a_this, .inr (11, [.ref a_state, .ref a_readPage, .int u17.1, .ref a_tape, .int g_taped, .int g_fault, .int g_broken, .int g_brokenAt, .int g_spot, .int g_here, .int g_token, .int g_value, .ref a_letters, .int g_hasPlaces, .int g_highest, .ref a_sums, .ref a_aside, .ref a_groups, .ref a_sides, .int g_laid, .int g_groupMany, .int g_isDrawn, .ref a_names, .ref a_firstNames, .ref a_isKept, .ref a_lanes, .ref a_lengths, .ref a_cells, .int g_torn, .ref a_had])), (a_cells, .inl ((zG Z).2.1 1, 160, .inl g_cells)), (a_had, .inl ((zG Z).2.1 1, 21, .inl g_had)), (a_lanes, .inl ((zG Z).2.1 1, 4, .inl g_lanes)), (a_lengths, .inl ((zG Z).2.1 1, 4, .inl g_lengths)), (a_state, .inl ((zG Z).2.1 1, 96, .inl u17.2))]) rfl (S' := []) rfl ⟨Nat.zero_le _, Nat.zero_le _⟩ ?_
  refine rn_iload_n hX dX11_read_4 1 rfl 5 rfl ?_
  refine rn_i2l hX dX11_read_5 6 rfl ?_
  refine rn_lconst hX dX11_read_6 7 rfl lc_0 ?_
  refine rn_ldc2 hX kl194 dX11_read_7 10 rfl ?_
  refine rn_callS0 hX (gS mcC wd_1090 wd_1091 wd_81 wd_1092) rfl hdS_X11_in rfl rfl ⟨Nat.le_of_ble_eq_true rfl, Nat.le_of_ble_eq_true rfl⟩ (c_X11_in (zl Z) (zG Z) x1.toInt64 (0 : Int64) (3 : Int64) rfl) rfl [] rfl rfl rfl (Nat.le_of_ble_eq_true rfl) dX11_read_10 13 rfl (S' := [.int (X11_in x1.toInt64 (0 : Int64) (3 : Int64))]) rfl ⟨Nat.zero_le _, Nat.zero_le _⟩ ?_
  refine rn_if_eq hX dX11_read_13 41 (by decide) 16 rfl ?_ ?_
  · refine rn_iconst hX dX11_read_41 42 rfl ic_m1 ?_
    exact rn_iret hX hr (by rw [henc]; rfl) dX11_read_42
  refine rn_iload_n hX dX11_read_16 2 rfl 17 rfl ?_
  refine rn_i2l hX dX11_read_17 18 rfl ?_
  refine rn_lconst hX dX11_read_18 19 rfl lc_0 ?_
  refine rn_ldc2 hX kl179 dX11_read_19 22 rfl ?_
  refine rn_callS0 hX (gS mcC wd_1090 wd_1091 wd_81 wd_1092) rfl hdS_X11_in rfl rfl ⟨Nat.le_of_ble_eq_true rfl, Nat.le_of_ble_eq_true rfl⟩ (c_X11_in (zl Z) (zG Z) x2.toInt64 (0 : Int64) (2 : Int64) rfl) rfl [] rfl rfl rfl (Nat.le_of_ble_eq_true rfl) dX11_read_22 25 rfl (S' := [.int (X11_in x2.toInt64 (0 : Int64) (2 : Int64))]) rfl ⟨Nat.zero_le _, Nat.zero_le _⟩ ?_
  refine rn_if_eq hX dX11_read_25 41 (by decide) 28 rfl ?_ ?_
  · refine rn_iconst hX dX11_read_41 42 rfl ic_m1 ?_
    exact rn_iret hX hr (by rw [henc]; rfl) dX11_read_42
  refine rn_iload hX dX11_read_28 4 rfl 30 rfl ?_
  refine rn_i2l hX dX11_read_30 31 rfl ?_
  refine rn_lconst hX dX11_read_31 32 rfl lc_0 ?_
  refine rn_ldc2 hX kl303 dX11_read_32 35 rfl ?_
  refine rn_callS0 hX (gS mcC wd_1090 wd_1091 wd_81 wd_1092) rfl hdS_X11_in rfl rfl ⟨Nat.le_of_ble_eq_true rfl, Nat.le_of_ble_eq_true rfl⟩ (c_X11_in (zl Z) (zG Z) x4.toInt64 (0 : Int64) (13 : Int64) rfl) rfl [] rfl rfl rfl (Nat.le_of_ble_eq_true rfl) dX11_read_35 38 rfl (S' := [.int (X11_in x4.toInt64 (0 : Int64) (13 : Int64))]) rfl ⟨Nat.zero_le _, Nat.zero_le _⟩ ?_
  refine rn_if_ne hX dX11_read_38 43 (by decide) 41 rfl ?_ ?_
  · refine rn_iconst hX dX11_read_43 44 rfl ic_0 ?_
    refine rn_istore hX dX11_read_44 (by decide) (L' := [(5, .int (0 : Int32)), (0, .ref a_this), (1, .int x1), (2, .int x2), (3, .int x3), (4, .int x4)]) rfl 46 rfl ?_
    refine rn_iconst hX dX11_read_46 47 rfl ic_0 ?_
    refine rn_istore hX dX11_read_47 (by decide) (L' := [(6, .int (0 : Int32)), (5, .int (0 : Int32)), (0, .ref a_this), (1, .int x1), (2, .int x2), (3, .int x3), (4, .int x4)]) rfl 49 rfl ?_
    refine rn_iconst hX dX11_read_49 50 rfl ic_0 ?_
    refine rn_istore hX dX11_read_50 (by decide) (L' := [(7, .int (0 : Int32)), (6, .int (0 : Int32)), (5, .int (0 : Int32)), (0, .ref a_this), (1, .int x1), (2, .int x2), (3, .int x3), (4, .int x4)]) rfl 52 rfl ?_
    refine rn_iconst hX dX11_read_52 53 rfl ic_0 ?_
    refine rn_istore hX dX11_read_53 (by decide) (L' := [(8, .int (0 : Int32)), (7, .int (0 : Int32)), (6, .int (0 : Int32)), (5, .int (0 : Int32)), (0, .ref a_this), (1, .int x1), (2, .int x2), (3, .int x3), (4, .int x4)]) rfl 55 rfl ?_
    refine rn_sub [4, 5, 6, 7, 8, 3, 2, 1, 0] rfl ?_
    exact (hL55 _ hJ82 1000) x1 x2 x3 x4 (0 : Int32) (0 : Int32) (0 : Int32) (0 : Int32) u17.1 g_torn g_had u17.2
  refine rn_iconst hX dX11_read_41 42 rfl ic_m1 ?_
  exact rn_iret hX hr (by rw [henc]; rfl) dX11_read_42
abbrev rmX11_torn : Room := { frames := 0, cells := 0, slots := 0, locals := 0 }
theorem hdV_X11_torn : yX11_torn.cls = RX11 ∧ yX11_torn.cls ≠ "java/lang/invoke/MethodHandle" ∧ yX11_torn.cls ≠ "java/lang/invoke/VarHandle" ∧ (parseMethodDescriptor yX11_torn.desc).map (fun d => d.parameters.length) = some 0 := by decide +kernel
set_option maxHeartbeats 4000000 in
set_option maxRecDepth 100000 in
theorem c_X11_torn (l : Launch) (G : GT) (a_this a_state a_readPage a_tape a_letters a_sums a_aside a_groups a_sides a_names a_firstNames a_isKept a_lanes a_lengths a_cells a_had : Nat) (g_isAwake : Int32) (g_taped : Int32) (g_fault : Int32) (g_broken : Int32) (g_brokenAt : Int32) (g_spot : Int32) (g_here : Int32) (g_token : Int32) (g_value : Int32) (g_hasPlaces : Int32) (g_highest : Int32) (g_laid : Int32) (g_groupMany : Int32) (g_isDrawn : Int32) (g_torn : Int32) {u : Int32} (hu : X11_torn g_torn = u) : Ctr l G yX11_torn wsX11_torn rmX11_torn [.ref a_this] [(a_this, .inr (11, [.ref a_state, .ref a_readPage, .int g_isAwake, .ref a_tape, .int g_taped, .int g_fault, .int g_broken, .int g_brokenAt, .int g_spot, .int g_here, .int g_token, .int g_value, .ref a_letters, .int g_hasPlaces, .int g_highest, .ref a_sums, .ref a_aside, .ref a_groups, .ref a_sides, .int g_laid, .int g_groupMany, .int g_isDrawn, .ref a_names, .ref a_firstNames, .ref a_isKept, .ref a_lanes, .ref a_lengths, .ref a_cells, .int g_torn, .ref a_had]))] (some (.int u)) [(a_this, .inr (11, [.ref a_state, .ref a_readPage, .int g_isAwake, .ref a_tape, .int g_taped, .int g_fault, .int g_broken, .int g_brokenAt, .int g_spot, .int g_here, .int g_token, .int g_value, .ref a_letters, .int g_hasPlaces, .int g_highest, .ref a_sums, .ref a_aside, .ref a_groups, .ref a_sides, .int g_laid, .int g_groupMany, .int g_isDrawn, .ref a_names, .ref a_firstNames, .ref a_isKept, .ref a_lanes, .ref a_lengths, .ref a_cells, .int g_torn, .ref a_had]))] := by
  obtain ⟨enc, henc⟩ : ∃ enc : (Int32) → Option Value × va_W, enc = fun u => (((some (.int u)) : Option Value), ([(a_this, .inr (11, [.ref a_state, .ref a_readPage, .int g_isAwake, .ref a_tape, .int g_taped, .int g_fault, .int g_broken, .int g_brokenAt, .int g_spot, .int g_here, .int g_token, .int g_value, .ref a_letters, .int g_hasPlaces, .int g_highest, .ref a_sums, .ref a_aside, .ref a_groups, .ref a_sides, .int g_laid, .int g_groupMany, .int g_isDrawn, .ref a_names, .ref a_firstNames, .ref a_isKept, .ref a_lanes, .ref a_lengths, .ref a_cells, .int g_torn, .ref a_had]))] : va_W)) := ⟨_, rfl⟩
  refine ctr_of (cc := cX11_torn) (own := RX11) (E := fun o => some (enc o)) (o := X11_torn g_torn) (by decide) rfl rfl (L := [(0, .ref a_this)]) rfl (Nat.le_of_ble_eq_true rfl) (by rw [hu, henc]) ?_
  intro Z hX hl hG hr
  subst hl; subst hG
  have fl305 : (Cond.fieldLink RX11 305 "OnlyFarModel" "torn" "I").before (za Z) (zs Z) = true := hX.wd (mcC _ wd_1018)
  have inX11 : ∀ w ∈ u_ws RX11 TX11 30, w ∈ wsX11_torn := fun w h => mcC w (inC_X11 w h)
  unfold X11_torn
  refine rn_aload_n hX dX11_torn_0 0 rfl 1 rfl ?_
  refine rn_get hX inX11 0 rfl rfl 28 (by decide) fl305 rfl rfl dX11_torn_1 4 rfl ?_
  exact rn_iret hX hr (by rw [henc]) dX11_torn_4
abbrev rmX11_count : Room := { frames := 1, cells := 0, slots := 0, locals := 22 }
theorem hdV_X11_count : yX11_count.cls = RX11 ∧ yX11_count.cls ≠ "java/lang/invoke/MethodHandle" ∧ yX11_count.cls ≠ "java/lang/invoke/VarHandle" ∧ (parseMethodDescriptor yX11_count.desc).map (fun d => d.parameters.length) = some 1 := by decide +kernel
set_option maxHeartbeats 4000000 in
set_option maxRecDepth 100000 in
theorem c_X11_count (l : Launch) (G : GT) (a_this a_isKept a_lanes a_lengths a_state a_readPage a_tape a_letters a_sums a_aside a_groups a_sides a_names a_firstNames a_cells a_had : Nat) (g_isAwake : Int32) (g_taped : Int32) (g_fault : Int32) (g_broken : Int32) (g_brokenAt : Int32) (g_spot : Int32) (g_here : Int32) (g_token : Int32) (g_value : Int32) (g_hasPlaces : Int32) (g_highest : Int32) (g_laid : Int32) (g_groupMany : Int32) (g_isDrawn : Int32) (g_torn : Int32) (g_isKept : (Nat → Int32)) (g_lanes : (Nat → Int32)) (g_lengths : (Nat → Int32)) (g_state : (Nat → Int32)) (x1 : Int32) {u : Int32 × Int32 × (Nat → Int32)} (hu : X11_count x1 g_isAwake g_taped g_isKept g_lanes g_lengths g_state = some u) : Ctr l G yX11_count wsX11_count rmX11_count [.ref a_this, .int x1] [(a_this, .inr (11, [.ref a_state, .ref a_readPage, .int g_isAwake, .ref a_tape, .int g_taped, .int g_fault, .int g_broken, .int g_brokenAt, .int g_spot, .int g_here, .int g_token, .int g_value, .ref a_letters, .int g_hasPlaces, .int g_highest, .ref a_sums, .ref a_aside, .ref a_groups, .ref a_sides, .int g_laid, .int g_groupMany, .int g_isDrawn, .ref a_names, .ref a_firstNames, .ref a_isKept, .ref a_lanes, .ref a_lengths, .ref a_cells, .int g_torn, .ref a_had])), (a_isKept, .inl (G.2.1 2, 2, .inl g_isKept)), (a_lanes, .inl (G.2.1 1, 4, .inl g_lanes)), (a_lengths, .inl (G.2.1 1, 4, .inl g_lengths)), (a_state, .inl (G.2.1 1, 96, .inl g_state))] (some (.int u.1)) [(a_this, .inr (11, [.ref a_state, .ref a_readPage, .int u.2.1, .ref a_tape, .int g_taped, .int g_fault, .int g_broken, .int g_brokenAt, .int g_spot, .int g_here, .int g_token, .int g_value, .ref a_letters, .int g_hasPlaces, .int g_highest, .ref a_sums, .ref a_aside, .ref a_groups, .ref a_sides, .int g_laid, .int g_groupMany, .int g_isDrawn, .ref a_names, .ref a_firstNames, .ref a_isKept, .ref a_lanes, .ref a_lengths, .ref a_cells, .int g_torn, .ref a_had])), (a_isKept, .inl (G.2.1 2, 2, .inl g_isKept)), (a_lanes, .inl (G.2.1 1, 4, .inl g_lanes)), (a_lengths, .inl (G.2.1 1, 4, .inl g_lengths)), (a_state, .inl (G.2.1 1, 96, .inl u.2.2))] := by
  obtain ⟨enc, henc⟩ : ∃ enc : (Int32 × Int32 × (Nat → Int32)) → Option Value × va_W, enc = fun u => (((some (.int u.1)) : Option Value), ([(a_this, .inr (11, [.ref a_state, .ref a_readPage, .int u.2.1, .ref a_tape, .int g_taped, .int g_fault, .int g_broken, .int g_brokenAt, .int g_spot, .int g_here, .int g_token, .int g_value, .ref a_letters, .int g_hasPlaces, .int g_highest, .ref a_sums, .ref a_aside, .ref a_groups, .ref a_sides, .int g_laid, .int g_groupMany, .int g_isDrawn, .ref a_names, .ref a_firstNames, .ref a_isKept, .ref a_lanes, .ref a_lengths, .ref a_cells, .int g_torn, .ref a_had])), (a_isKept, .inl (G.2.1 2, 2, .inl g_isKept)), (a_lanes, .inl (G.2.1 1, 4, .inl g_lanes)), (a_lengths, .inl (G.2.1 1, 4, .inl g_lengths)), (a_state, .inl (G.2.1 1, 96, .inl u.2.2))] : va_W)) := ⟨_, rfl⟩
  refine ctr_of (cc := cX11_count) (own := RX11) (E := Option.map enc) (o := X11_count x1 g_isAwake g_taped g_isKept g_lanes g_lengths g_state) (by decide) rfl rfl (L := [(0, .ref a_this), (1, .int x1)]) rfl (Nat.le_of_ble_eq_true rfl) (by rw [hu, henc]; rfl) ?_
  intro Z hX hl hG hr
  subst hl; subst hG
  have fl40 : (Cond.fieldLink RX11 40 "OnlyFarModel" "isKept" "[Z").before (za Z) (zs Z) = true := hX.wd (mcC _ wd_1014)
  have fl44 : (Cond.fieldLink RX11 44 "OnlyFarModel" "lanes" "[I").before (za Z) (zs Z) = true := hX.wd (mcC _ wd_1015)
  have fl47 : (Cond.fieldLink RX11 47 "OnlyFarModel" "lengths" "[I").before (za Z) (zs Z) = true := hX.wd (mcC _ wd_1016)
  have fl60 : (Cond.fieldLink RX11 60 "OnlyFarModel" "taped" "I").before (za Z) (zs Z) = true := hX.wd (mcC _ wd_994)
  have fl7 : (Cond.fieldLink RX11 7 "OnlyFarModel" "state" "[I").before (za Z) (zs Z) = true := hX.wd (mcC _ wd_990)
  have inX11 : ∀ w ∈ u_ws RX11 TX11 30, w ∈ wsX11_count := fun w h => mcC w (inC_X11 w h)
  have hJ79 : ∀ (s0 : Int32) (g_isAwake : Int32) (g_state : (Nat → Int32)), Rn Z 2 (Option.map enc) 0 0 79 [(0, .ref a_this)] [.int s0] [(a_this, .inr (11, [.ref a_state, .ref a_readPage, .int g_isAwake, .ref a_tape, .int g_taped, .int g_fault, .int g_broken, .int g_brokenAt, .int g_spot, .int g_here, .int g_token, .int g_value, .ref a_letters, .int g_hasPlaces, .int g_highest, .ref a_sums, .ref a_aside, .ref a_groups, .ref a_sides, .int g_laid, .int g_groupMany, .int g_isDrawn, .ref a_names, .ref a_firstNames, .ref a_isKept, .ref a_lanes, .ref a_lengths, .ref a_cells, .int g_torn, .ref a_had])), (a_isKept, .inl ((zG Z).2.1 2, 2, .inl g_isKept)), (a_lanes, .inl ((zG Z).2.1 1, 4, .inl g_lanes)), (a_lengths, .inl ((zG Z).2.1 1, 4, .inl g_lengths)), (a_state, .inl ((zG Z).2.1 1, 96, .inl g_state))] (X11_count_J79 g_isKept s0 g_isAwake g_state) := by
    intro s0 g_isAwake g_state
    unfold X11_count_J79
    refine rn_aload_n hX dX11_count_79 0 rfl 80 rfl ?_
    refine rn_get hX inX11 0 rfl rfl 24 (by decide) fl40 rfl rfl dX11_count_80 83 rfl ?_
    refine rn_iconst hX dX11_count_83 84 rfl ic_1 ?_
    refine rn_zaldk hX 1 rfl cl_1 (vpk (by decide)) dX11_count_84 85 rfl ?_
    refine rn_if_eq hX dX11_count_85 92 (by decide) 88 rfl ?_ ?_
    · refine rn_iconst hX dX11_count_92 93 rfl ic_0 ?_
      refine rn_iadd hX dX11_count_93 94 rfl ?_
      exact rn_iret hX hr (by rw [henc]; rfl) dX11_count_94
    refine rn_iconst hX dX11_count_88 89 rfl ic_1 ?_
    refine rn_goto hX dX11_count_89 93 (by decide) ?_
    refine rn_iadd hX dX11_count_93 94 rfl ?_
    exact rn_iret hX hr (by rw [henc]; rfl) dX11_count_94
  unfold X11_count
  refine rn_aload_n hX dX11_count_0 0 rfl 1 rfl ?_
  refine rn_lat (fun u1 hu1 => ?_)
  refine rn_callV hX (gV mcC wd_1152 wd_1154 wd_35 wd_81 wd_1155) rfl hdV_X11_awake rfl rfl ⟨Nat.le_of_ble_eq_true rfl, Nat.le_of_ble_eq_true rfl⟩ (c_X11_awake (zl Z) (zG Z) a_this a_state a_readPage a_tape a_letters a_sums a_aside a_groups a_sides a_names a_firstNames a_isKept a_lanes a_lengths a_cells a_had g_isAwake g_taped g_fault g_broken g_brokenAt g_spot g_here g_token g_value g_hasPlaces g_highest g_laid g_groupMany g_isDrawn g_torn g_state hu1) rfl [0, 4] rfl rfl rfl (ci := 11) rfl rfl rfl (Nat.le_of_ble_eq_true rfl) dX11_count_1 4 rfl (wn := [(a_this, .inr (11, [.ref a_state, .ref a_readPage, .int u1.1, .ref a_tape, .int g_taped, .int g_fault, .int g_broken, .int g_brokenAt, .int g_spot, .int g_here, .int g_token, .int g_value, .ref a_letters, .int g_hasPlaces, .int g_highest, .ref a_sums, .ref a_aside, .ref a_groups, .ref a_sides, .int g_laid, .int g_groupMany, .int g_isDrawn, .ref a_names, .ref a_firstNames, .ref a_isKept, .ref a_lanes, .ref a_lengths, .ref a_cells, .int g_torn, .ref a_had])), (a_isKept, .inl ((zG Z).2.1 2, 2, .inl g_isKept)), (a_lanes, .inl ((zG Z).2.1 1, 4, .inl g_lanes)), (a_lengths, .inl ((zG Z).2.1 1, 4, .inl g_lengths)), (a_state, .inl ((zG Z).2.1 1, 96, .inl u1.2))]) rfl (S' := []) rfl ⟨Nat.zero_le _, Nat.zero_le _⟩ ?_
  refine rn_iload_n hX dX11_count_4 1 rfl 5 rfl ?_
  by_cases hs2 : x1 = (0 : Int32)
  · rw [if_pos hs2]
    refine rn_tableIn hX dX11_count_5 hs2 (by decide) (by decide) rfl 44 (by decide) ?_
    refine rn_aload_n hX dX11_count_44 0 rfl 45 rfl ?_
    refine rn_get hX inX11 0 rfl rfl 0 (by decide) fl7 rfl rfl dX11_count_45 48 rfl ?_
    refine rn_bipush hX dX11_count_48 50 rfl bp_21 ?_
    refine rn_ialdk hX 4 rfl cl_21 (vpk (by decide)) dX11_count_50 51 rfl ?_
    exact rn_iret hX hr (by rw [henc]; rfl) dX11_count_51
  rw [if_neg hs2]
  by_cases hs4 : x1 = (1 : Int32)
  · rw [if_pos hs4]
    refine rn_tableIn hX dX11_count_5 hs4 (by decide) (by decide) rfl 52 (by decide) ?_
    refine rn_aload_n hX dX11_count_52 0 rfl 53 rfl ?_
    refine rn_bind (fun u3 hu3 => ?_)
    refine rn_callV0 hX (gV mcC wd_1430 wd_1432 wd_68 wd_81 wd_1433) rfl hdV_X11_lengthMany rfl rfl ⟨Nat.le_of_ble_eq_true rfl, Nat.le_of_ble_eq_true rfl⟩ (c_X11_lengthMany (zl Z) (zG Z) a_this a_state a_readPage a_tape a_letters a_sums a_aside a_groups a_sides a_names a_firstNames a_isKept a_lanes a_lengths a_cells a_had u1.1 g_taped g_fault g_broken g_brokenAt g_spot g_here g_token g_value g_hasPlaces g_highest g_laid g_groupMany g_isDrawn g_torn u1.2 hu3) rfl [0, 4] rfl rfl (ci := 11) rfl rfl rfl (Nat.le_of_ble_eq_true rfl) dX11_count_53 56 rfl (S' := [.int u3]) rfl ⟨Nat.zero_le _, Nat.zero_le _⟩ ?_
    exact rn_iret hX hr (by rw [henc]; rfl) dX11_count_56
  rw [if_neg hs4]
  by_cases hs5 : x1 = (2 : Int32)
  · rw [if_pos hs5]
    refine rn_tableIn hX dX11_count_5 hs5 (by decide) (by decide) rfl 57 (by decide) ?_
    refine rn_aload_n hX dX11_count_57 0 rfl 58 rfl ?_
    refine rn_get hX inX11 0 rfl rfl 0 (by decide) fl7 rfl rfl dX11_count_58 61 rfl ?_
    refine rn_bipush hX dX11_count_61 63 rfl bp_30 ?_
    refine rn_ialdk hX 4 rfl cl_30 (vpk (by decide)) dX11_count_63 64 rfl ?_
    exact rn_iret hX hr (by rw [henc]; rfl) dX11_count_64
  rw [if_neg hs5]
  by_cases hs6 : x1 = (3 : Int32)
  · rw [if_pos hs6]
    refine rn_tableIn hX dX11_count_5 hs6 (by decide) (by decide) rfl 65 (by decide) ?_
    refine rn_aload_n hX dX11_count_65 0 rfl 66 rfl ?_
    refine rn_get hX inX11 0 rfl rfl 24 (by decide) fl40 rfl rfl dX11_count_66 69 rfl ?_
    refine rn_iconst hX dX11_count_69 70 rfl ic_0 ?_
    refine rn_zaldk hX 1 rfl cl_0 (vpk (by decide)) dX11_count_70 71 rfl ?_
    refine rn_if_eq hX dX11_count_71 78 (by decide) 74 rfl ?_ ?_
    · refine rn_iconst hX dX11_count_78 79 rfl ic_0 ?_
      refine rn_sub [0] rfl ?_
      exact hJ79 (0 : Int32) u1.1 u1.2
    refine rn_iconst hX dX11_count_74 75 rfl ic_1 ?_
    refine rn_goto hX dX11_count_75 79 (by decide) ?_
    refine rn_sub [0] rfl ?_
    exact hJ79 (1 : Int32) u1.1 u1.2
  rw [if_neg hs6]
  by_cases hs7 : x1 = (4 : Int32)
  · rw [if_pos hs7]
    refine rn_tableIn hX dX11_count_5 hs7 (by decide) (by decide) rfl 95 (by decide) ?_
    refine rn_aload_n hX dX11_count_95 0 rfl 96 rfl ?_
    refine rn_get hX inX11 0 rfl rfl 4 (by decide) fl60 rfl rfl dX11_count_96 99 rfl ?_
    exact rn_iret hX hr (by rw [henc]; rfl) dX11_count_99
  rw [if_neg hs7]
  by_cases hs8 : x1 = (5 : Int32)
  · rw [if_pos hs8]
    refine rn_tableIn hX dX11_count_5 hs8 (by decide) (by decide) rfl 100 (by decide) ?_
    refine rn_aload_n hX dX11_count_100 0 rfl 101 rfl ?_
    refine rn_get hX inX11 0 rfl rfl 25 (by decide) fl44 rfl rfl dX11_count_101 104 rfl ?_
    refine rn_iconst hX dX11_count_104 105 rfl ic_0 ?_
    refine rn_ialdk hX 2 rfl cl_0 (vpk (by decide)) dX11_count_105 106 rfl ?_
    refine rn_bipush hX dX11_count_106 108 rfl bp_m4 ?_
    refine rn_icmp_ne hX dX11_count_108 116 (by decide) 111 rfl ?_ ?_
    · refine rn_aload_n hX dX11_count_116 0 rfl 117 rfl ?_
      refine rn_get hX inX11 0 rfl rfl 26 (by decide) fl47 rfl rfl dX11_count_117 120 rfl ?_
      refine rn_iconst hX dX11_count_120 121 rfl ic_0 ?_
      refine rn_ialdk hX 3 rfl cl_0 (vpk (by decide)) dX11_count_121 122 rfl ?_
      exact rn_iret hX hr (by rw [henc]; rfl) dX11_count_122
    refine rn_bipush hX dX11_count_111 113 rfl bp_m4 ?_
    refine rn_goto hX dX11_count_113 122 (by decide) ?_
    exact rn_iret hX hr (by rw [henc]; rfl) dX11_count_122
  rw [if_neg hs8]
  refine rn_tableOut hX dX11_count_5 (by have qhs2 := ne_int hs2; rw [show (0 : Int32).toInt = 0 from by decide] at qhs2; have qhs4 := ne_int hs4; rw [show (1 : Int32).toInt = 1 from by decide] at qhs4; have qhs5 := ne_int hs5; rw [show (2 : Int32).toInt = 2 from by decide] at qhs5; have qhs6 := ne_int hs6; rw [show (3 : Int32).toInt = 3 from by decide] at qhs6; have qhs7 := ne_int hs7; rw [show (4 : Int32).toInt = 4 from by decide] at qhs7; have qhs8 := ne_int hs8; rw [show (5 : Int32).toInt = 5 from by decide] at qhs8; have := qhs2; omega) 123 (by decide) ?_
  refine rn_iconst hX dX11_count_123 124 rfl ic_m1 ?_
  exact rn_iret hX hr (by rw [henc]; rfl) dX11_count_124
