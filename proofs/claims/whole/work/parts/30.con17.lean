abbrev rmX11_within : Room := { frames := 6, cells := 0, slots := 0, locals := 152 }
theorem hdV_X11_within : yX11_within.cls = RX11 ∧ yX11_within.cls ≠ "java/lang/invoke/MethodHandle" ∧ yX11_within.cls ≠ "java/lang/invoke/VarHandle" ∧ (parseMethodDescriptor yX11_within.desc).map (fun d => d.parameters.length) = some 4 := by decide +kernel
set_option maxHeartbeats 4000000 in
set_option maxRecDepth 100000 in
theorem c_X11_within (l : Launch) (G : GT) (a_this a_state a_readPage a_tape a_letters a_sums a_aside a_groups a_sides a_names a_firstNames a_isKept a_lanes a_lengths a_cells a_had : Nat) (g_isAwake : Int32) (g_taped : Int32) (g_fault : Int32) (g_broken : Int32) (g_brokenAt : Int32) (g_spot : Int32) (g_here : Int32) (g_token : Int32) (g_value : Int32) (g_hasPlaces : Int32) (g_highest : Int32) (g_laid : Int32) (g_groupMany : Int32) (g_isDrawn : Int32) (g_torn : Int32) (g_state : (Nat → Int32)) (x1 : Int32) (x2 : Int32) (x3 : Int32) (x4 : Int32) {u : Int32 × Int32 × (Nat → Int32)} (hu : X11_within x1 x2 x3 x4 g_isAwake g_state = some u) : Ctr l G yX11_within wsX11_within rmX11_within [.ref a_this, .int x1, .int x2, .int x3, .int x4] [(a_this, .inr (11, [.ref a_state, .ref a_readPage, .int g_isAwake, .ref a_tape, .int g_taped, .int g_fault, .int g_broken, .int g_brokenAt, .int g_spot, .int g_here, .int g_token, .int g_value, .ref a_letters, .int g_hasPlaces, .int g_highest, .ref a_sums, .ref a_aside, .ref a_groups, .ref a_sides, .int g_laid, .int g_groupMany, .int g_isDrawn, .ref a_names, .ref a_firstNames, .ref a_isKept, .ref a_lanes, .ref a_lengths, .ref a_cells, .int g_torn, .ref a_had])), (a_state, .inl (G.2.1 1, 96, .inl g_state))] (some (.int u.1)) [(a_this, .inr (11, [.ref a_state, .ref a_readPage, .int u.2.1, .ref a_tape, .int g_taped, .int g_fault, .int g_broken, .int g_brokenAt, .int g_spot, .int g_here, .int g_token, .int g_value, .ref a_letters, .int g_hasPlaces, .int g_highest, .ref a_sums, .ref a_aside, .ref a_groups, .ref a_sides, .int g_laid, .int g_groupMany, .int g_isDrawn, .ref a_names, .ref a_firstNames, .ref a_isKept, .ref a_lanes, .ref a_lengths, .ref a_cells, .int g_torn, .ref a_had])), (a_state, .inl (G.2.1 1, 96, .inl u.2.2))] := by
  obtain ⟨enc, henc⟩ : ∃ enc : (Int32 × Int32 × (Nat → Int32)) → Option Value × va_W, enc = fun u => (((some (.int u.1)) : Option Value), ([(a_this, .inr (11, [.ref a_state, .ref a_readPage, .int u.2.1, .ref a_tape, .int g_taped, .int g_fault, .int g_broken, .int g_brokenAt, .int g_spot, .int g_here, .int g_token, .int g_value, .ref a_letters, .int g_hasPlaces, .int g_highest, .ref a_sums, .ref a_aside, .ref a_groups, .ref a_sides, .int g_laid, .int g_groupMany, .int g_isDrawn, .ref a_names, .ref a_firstNames, .ref a_isKept, .ref a_lanes, .ref a_lengths, .ref a_cells, .int g_torn, .ref a_had])), (a_state, .inl (G.2.1 1, 96, .inl u.2.2))] : va_W)) := ⟨_, rfl⟩
  refine ctr_of (cc := cX11_within) (own := RX11) (E := Option.map enc) (o := X11_within x1 x2 x3 x4 g_isAwake g_state) (by decide) rfl rfl (L := [(0, .ref a_this), (1, .int x1), (2, .int x2), (3, .int x3), (4, .int x4)]) rfl (Nat.le_of_ble_eq_true rfl) (by rw [hu, henc]; rfl) ?_
  intro Z hX hl hG hr
  subst hl; subst hG
  unfold X11_within
  refine rn_aload_n hX dX11_within_0 0 rfl 1 rfl ?_
  refine rn_iload_n hX dX11_within_1 1 rfl 2 rfl ?_
  refine rn_iload_n hX dX11_within_2 2 rfl 3 rfl ?_
  refine rn_iload_n hX dX11_within_3 3 rfl 4 rfl ?_
  refine rn_iload hX dX11_within_4 4 rfl 6 rfl ?_
  refine rn_bind (fun u1 hu1 => ?_)
  refine rn_callV hX (gV mcC wd_1207 wd_1209 wd_42 wd_81 wd_1210) rfl hdV_X11_areFour rfl rfl ⟨Nat.le_of_ble_eq_true rfl, Nat.le_of_ble_eq_true rfl⟩ (c_X11_areFour (zl Z) (zG Z) a_this a_state a_readPage a_tape a_letters a_sums a_aside a_groups a_sides a_names a_firstNames a_isKept a_lanes a_lengths a_cells a_had g_isAwake g_taped g_fault g_broken g_brokenAt g_spot g_here g_token g_value g_hasPlaces g_highest g_laid g_groupMany g_isDrawn g_torn g_state x1 x2 x3 x4 hu1) rfl [0, 1] rfl rfl rfl (ci := 11) rfl rfl rfl (Nat.le_of_ble_eq_true rfl) dX11_within_6 9 rfl (wn := [(a_this, .inr (11, [.ref a_state, .ref a_readPage, .int u1.2.1, .ref a_tape, .int g_taped, .int g_fault, .int g_broken, .int g_brokenAt, .int g_spot, .int g_here, .int g_token, .int g_value, .ref a_letters, .int g_hasPlaces, .int g_highest, .ref a_sums, .ref a_aside, .ref a_groups, .ref a_sides, .int g_laid, .int g_groupMany, .int g_isDrawn, .ref a_names, .ref a_firstNames, .ref a_isKept, .ref a_lanes, .ref a_lengths, .ref a_cells, .int g_torn, .ref a_had])), (a_state, .inl ((zG Z).2.1 1, 96, .inl u1.2.2))]) rfl (S' := [.int u1.1]) rfl ⟨Nat.zero_le _, Nat.zero_le _⟩ ?_
  refine rn_if_ne hX dX11_within_9 14 (by decide) 12 rfl ?_ ?_
  · refine rn_aload_n hX dX11_within_14 0 rfl 15 rfl ?_
    refine rn_iload_n hX dX11_within_15 1 rfl 16 rfl ?_
    refine rn_iload_n hX dX11_within_16 2 rfl 17 rfl ?_
    refine rn_iload_n hX dX11_within_17 3 rfl 18 rfl ?_
    refine rn_iload hX dX11_within_18 4 rfl 20 rfl ?_
    refine rn_bind (fun u2 hu2 => ?_)
    refine rn_callV0 hX (gV mcC wd_1287 wd_1289 wd_52 wd_81 wd_1290) rfl hdV_X11_isWhole rfl rfl ⟨Nat.le_of_ble_eq_true rfl, Nat.le_of_ble_eq_true rfl⟩ (c_X11_isWhole (zl Z) (zG Z) a_this a_state a_readPage a_tape a_letters a_sums a_aside a_groups a_sides a_names a_firstNames a_isKept a_lanes a_lengths a_cells a_had u1.2.1 g_taped g_fault g_broken g_brokenAt g_spot g_here g_token g_value g_hasPlaces g_highest g_laid g_groupMany g_isDrawn g_torn u1.2.2 x1 x2 x3 x4 hu2) rfl [0, 1] rfl rfl (ci := 11) rfl rfl rfl (Nat.le_of_ble_eq_true rfl) dX11_within_20 23 rfl (S' := [.int u2]) rfl ⟨Nat.zero_le _, Nat.zero_le _⟩ ?_
    refine rn_if_eq hX dX11_within_23 38 (by decide) 26 rfl ?_ ?_
    · refine rn_bipush hX dX11_within_38 40 rfl bp_m2 ?_
      exact rn_iret hX hr (by rw [henc]; rfl) dX11_within_40
    refine rn_aload_n hX dX11_within_26 0 rfl 27 rfl ?_
    refine rn_iload_n hX dX11_within_27 1 rfl 28 rfl ?_
    refine rn_iload_n hX dX11_within_28 2 rfl 29 rfl ?_
    refine rn_iload_n hX dX11_within_29 3 rfl 30 rfl ?_
    refine rn_bind (fun u3 hu3 => ?_)
    refine rn_callV0 hX (gV mcC wd_1186 wd_1188 wd_40 wd_81 wd_1189) rfl hdV_X11_wideOf rfl rfl ⟨Nat.le_of_ble_eq_true rfl, Nat.le_of_ble_eq_true rfl⟩ (c_X11_wideOf (zl Z) (zG Z) a_this a_state a_readPage a_tape a_letters a_sums a_aside a_groups a_sides a_names a_firstNames a_isKept a_lanes a_lengths a_cells a_had u1.2.1 g_taped g_fault g_broken g_brokenAt g_spot g_here g_token g_value g_hasPlaces g_highest g_laid g_groupMany g_isDrawn g_torn u1.2.2 x1 x2 x3 hu3) rfl [0, 1] rfl rfl (ci := 11) rfl rfl rfl (Nat.le_of_ble_eq_true rfl) dX11_within_30 33 rfl (S' := [.long u3]) rfl ⟨Nat.zero_le _, Nat.zero_le _⟩ ?_
    refine rn_lconst hX dX11_within_33 34 rfl lc_0 ?_
    refine rn_lcmp_ne hX dX11_within_34 35 rfl dX11_within_35 41 (by decide) 38 rfl ?_ ?_
    · refine rn_aload_n hX dX11_within_41 0 rfl 42 rfl ?_
      refine rn_iload_n hX dX11_within_42 1 rfl 43 rfl ?_
      refine rn_iload_n hX dX11_within_43 2 rfl 44 rfl ?_
      refine rn_iload_n hX dX11_within_44 3 rfl 45 rfl ?_
      refine rn_iload hX dX11_within_45 4 rfl 47 rfl ?_
      refine rn_bind (fun u4 hu4 => ?_)
      refine rn_callV0 hX (gV mcC wd_1291 wd_1293 wd_53 wd_81 wd_1294) rfl hdV_X11_sideOf rfl rfl ⟨Nat.le_of_ble_eq_true rfl, Nat.le_of_ble_eq_true rfl⟩ (c_X11_sideOf (zl Z) (zG Z) a_this a_state a_readPage a_tape a_letters a_sums a_aside a_groups a_sides a_names a_firstNames a_isKept a_lanes a_lengths a_cells a_had u1.2.1 g_taped g_fault g_broken g_brokenAt g_spot g_here g_token g_value g_hasPlaces g_highest g_laid g_groupMany g_isDrawn g_torn u1.2.2 x1 x2 x3 x4 hu4) rfl [0, 1] rfl rfl (ci := 11) rfl rfl rfl (Nat.le_of_ble_eq_true rfl) dX11_within_47 50 rfl (S' := [.int u4]) rfl ⟨Nat.zero_le _, Nat.zero_le _⟩ ?_
      refine rn_if_lt hX dX11_within_50 81 (by decide) 53 rfl ?_ ?_
      · refine rn_iconst hX dX11_within_81 82 rfl ic_0 ?_
        exact rn_iret hX hr (by rw [henc]; rfl) dX11_within_82
      refine rn_aload_n hX dX11_within_53 0 rfl 54 rfl ?_
      refine rn_iload_n hX dX11_within_54 1 rfl 55 rfl ?_
      refine rn_iload_n hX dX11_within_55 3 rfl 56 rfl ?_
      refine rn_iload_n hX dX11_within_56 2 rfl 57 rfl ?_
      refine rn_iload hX dX11_within_57 4 rfl 59 rfl ?_
      refine rn_bind (fun u5 hu5 => ?_)
      refine rn_callV0 hX (gV mcC wd_1291 wd_1293 wd_53 wd_81 wd_1294) rfl hdV_X11_sideOf rfl rfl ⟨Nat.le_of_ble_eq_true rfl, Nat.le_of_ble_eq_true rfl⟩ (c_X11_sideOf (zl Z) (zG Z) a_this a_state a_readPage a_tape a_letters a_sums a_aside a_groups a_sides a_names a_firstNames a_isKept a_lanes a_lengths a_cells a_had u1.2.1 g_taped g_fault g_broken g_brokenAt g_spot g_here g_token g_value g_hasPlaces g_highest g_laid g_groupMany g_isDrawn g_torn u1.2.2 x1 x3 x2 x4 hu5) rfl [0, 1] rfl rfl (ci := 11) rfl rfl rfl (Nat.le_of_ble_eq_true rfl) dX11_within_59 62 rfl (S' := [.int u5]) rfl ⟨Nat.zero_le _, Nat.zero_le _⟩ ?_
      refine rn_if_lt hX dX11_within_62 81 (by decide) 65 rfl ?_ ?_
      · refine rn_iconst hX dX11_within_81 82 rfl ic_0 ?_
        exact rn_iret hX hr (by rw [henc]; rfl) dX11_within_82
      refine rn_aload_n hX dX11_within_65 0 rfl 66 rfl ?_
      refine rn_iload_n hX dX11_within_66 2 rfl 67 rfl ?_
      refine rn_iload_n hX dX11_within_67 3 rfl 68 rfl ?_
      refine rn_iload_n hX dX11_within_68 1 rfl 69 rfl ?_
      refine rn_iload hX dX11_within_69 4 rfl 71 rfl ?_
      refine rn_bind (fun u6 hu6 => ?_)
      refine rn_callV0 hX (gV mcC wd_1291 wd_1293 wd_53 wd_81 wd_1294) rfl hdV_X11_sideOf rfl rfl ⟨Nat.le_of_ble_eq_true rfl, Nat.le_of_ble_eq_true rfl⟩ (c_X11_sideOf (zl Z) (zG Z) a_this a_state a_readPage a_tape a_letters a_sums a_aside a_groups a_sides a_names a_firstNames a_isKept a_lanes a_lengths a_cells a_had u1.2.1 g_taped g_fault g_broken g_brokenAt g_spot g_here g_token g_value g_hasPlaces g_highest g_laid g_groupMany g_isDrawn g_torn u1.2.2 x2 x3 x1 x4 hu6) rfl [0, 1] rfl rfl (ci := 11) rfl rfl rfl (Nat.le_of_ble_eq_true rfl) dX11_within_71 74 rfl (S' := [.int u6]) rfl ⟨Nat.zero_le _, Nat.zero_le _⟩ ?_
      refine rn_if_lt hX dX11_within_74 81 (by decide) 77 rfl ?_ ?_
      · refine rn_iconst hX dX11_within_81 82 rfl ic_0 ?_
        exact rn_iret hX hr (by rw [henc]; rfl) dX11_within_82
      refine rn_iconst hX dX11_within_77 78 rfl ic_1 ?_
      refine rn_goto hX dX11_within_78 82 (by decide) ?_
      exact rn_iret hX hr (by rw [henc]; rfl) dX11_within_82
    refine rn_bipush hX dX11_within_38 40 rfl bp_m2 ?_
    exact rn_iret hX hr (by rw [henc]; rfl) dX11_within_40
  refine rn_iconst hX dX11_within_12 13 rfl ic_m1 ?_
  exact rn_iret hX hr (by rw [henc]; rfl) dX11_within_13
abbrev rmX11_root : Room := { frames := 0, cells := 0, slots := 0, locals := 0 }
theorem hdS_X11_root : yX11_root.cls ≠ "java/lang/invoke/MethodHandle" ∧ yX11_root.cls ≠ "java/lang/invoke/VarHandle" ∧ (parseMethodDescriptor yX11_root.desc).map (fun d => d.parameters.length) = some 1 := by decide +kernel
set_option maxHeartbeats 4000000 in
set_option maxRecDepth 100000 in
theorem c_X11_root (l : Launch) (G : GT) (x0 : Int64) {u : Int64} (hu : X11_root x0 = some u) : Ctr l G yX11_root wsX11_root rmX11_root [.long x0] [] (some (.long u)) [] := by
  obtain ⟨enc, henc⟩ : ∃ enc : (Int64) → Option Value × va_W, enc = fun u => (((some (.long u)) : Option Value), ([] : va_W)) := ⟨_, rfl⟩
  refine ctr_of (cc := cX11_root) (own := RX11) (E := Option.map enc) (o := X11_root x0) (by decide) rfl rfl (L := [(0, .long x0)]) rfl (Nat.le_of_ble_eq_true rfl) (by rw [hu, henc]; rfl) ?_
  intro Z hX hl hG hr
  subst hl; subst hG
  have kl179 : (Cond.constantLong RX11 179 (2)).before (za Z) (zs Z) = true := hX.wd (mcC _ wd_1219)
  have kl231 : (Cond.constantLong RX11 231 (1000000000)).before (za Z) (zs Z) = true := hX.wd (mcC _ wd_1314)
  have hJ69 : ∀ (again : Int64 → Int64 → Int64 → Option (Int64)) (hagain : ∀ (x0 : Int64) (x2 : Int64) (x4 : Int64), Rn Z 9 (Option.map enc) 0 0 7 [(0, .long x0), (2, .long x2), (4, .long x4)] [] [] (again x0 x2 x4)) (x0 : Int64) (x2 : Int64) (s0 : Int64), Rn Z 9 (Option.map enc) 0 0 69 [(0, .long x0), (2, .long x2)] [.long s0] [] (X11_root_J69 again x0 x2 s0) := by
    intro again hagain x0 x2 s0
    unfold X11_root_J69
    refine rn_lstore hX dX11_root_69 (by decide) (L' := [(4, .long s0), (0, .long x0), (2, .long x2)]) rfl 71 rfl ?_
    refine rn_goto hX dX11_root_71 7 (by decide) ?_
    refine rn_sub [1, 2, 0] rfl ?_
    exact hagain x0 x2 s0
  have hJ54 : ∀ (again : Int64 → Int64 → Int64 → Option (Int64)) (hagain : ∀ (x0 : Int64) (x2 : Int64) (x4 : Int64), Rn Z 9 (Option.map enc) 0 0 7 [(0, .long x0), (2, .long x2), (4, .long x4)] [] [] (again x0 x2 x4)) (x0 : Int64) (x4 : Int64) (x6 : Int64) (x8 : Int32) (s0 : Int64), Rn Z 9 (Option.map enc) 0 0 54 [(0, .long x0), (4, .long x4), (6, .long x6), (8, .int x8)] [.long s0] [] (X11_root_J54 again x0 x4 x6 x8 s0) := by
    intro again hagain x0 x4 x6 x8 s0
    unfold X11_root_J54
    refine rn_lstore_n hX dX11_root_54 2 rfl (by decide) (L' := [(2, .long s0), (0, .long x0), (4, .long x4), (6, .long x6), (8, .int x8)]) rfl 55 rfl ?_
    refine rn_iload hX dX11_root_55 4 rfl 57 rfl ?_
    refine rn_if_eq hX dX11_root_57 65 (by decide) 60 rfl ?_ ?_
    · refine rn_lload hX dX11_root_65 3 rfl 67 rfl ?_
      refine rn_lconst hX dX11_root_67 68 rfl lc_1 ?_
      refine rn_lsub hX dX11_root_68 69 rfl ?_
      refine rn_sub [1, 0] rfl ?_
      exact (hJ69 _ hagain) x0 s0 (x6 - (1 : Int64))
    refine rn_lload hX dX11_root_60 2 rfl 62 rfl ?_
    refine rn_goto hX dX11_root_62 69 (by decide) ?_
    refine rn_sub [1, 0] rfl ?_
    exact (hJ69 _ hagain) x0 s0 x4
  have hJ41 : ∀ (again : Int64 → Int64 → Int64 → Option (Int64)) (hagain : ∀ (x0 : Int64) (x2 : Int64) (x4 : Int64), Rn Z 9 (Option.map enc) 0 0 7 [(0, .long x0), (2, .long x2), (4, .long x4)] [] [] (again x0 x2 x4)) (x0 : Int64) (x2 : Int64) (x4 : Int64) (x6 : Int64) (s0 : Int32), Rn Z 9 (Option.map enc) 0 0 41 [(0, .long x0), (2, .long x2), (4, .long x4), (6, .long x6)] [.int s0] [] (X11_root_J41 again x0 x2 x4 x6 s0) := by
    intro again hagain x0 x2 x4 x6 s0
    unfold X11_root_J41
    refine rn_istore hX dX11_root_41 (by decide) (L' := [(8, .int s0), (0, .long x0), (2, .long x2), (4, .long x4), (6, .long x6)]) rfl 43 rfl ?_
    refine rn_iload hX dX11_root_43 0 rfl 45 rfl ?_
    refine rn_if_eq hX dX11_root_45 53 (by decide) 48 rfl ?_ ?_
    · refine rn_lload_n hX dX11_root_53 2 rfl 54 rfl ?_
      refine rn_sub [1, 3, 4, 0] rfl ?_
      exact (hJ54 _ hagain) x0 x4 x6 s0 x2
    refine rn_lload hX dX11_root_48 4 rfl 50 rfl ?_
    refine rn_goto hX dX11_root_50 54 (by decide) ?_
    refine rn_sub [1, 3, 4, 0] rfl ?_
    exact (hJ54 _ hagain) x0 x4 x6 s0 x6
  have hB7 : ∀ (again : Int64 → Int64 → Int64 → Option (Int64)) (hagain : ∀ (x0 : Int64) (x2 : Int64) (x4 : Int64), Rn Z 9 (Option.map enc) 0 0 7 [(0, .long x0), (2, .long x2), (4, .long x4)] [] [] (again x0 x2 x4)) (x0 : Int64) (x2 : Int64) (x4 : Int64), Rn Z 9 (Option.map enc) 0 0 7 [(0, .long x0), (2, .long x2), (4, .long x4)] [] [] (X11_root_B7 again x0 x2 x4) := by
    intro again hagain x0 x2 x4
    unfold X11_root_B7
    refine rn_lload_n hX dX11_root_7 1 rfl 8 rfl ?_
    refine rn_lload hX dX11_root_8 2 rfl 10 rfl ?_
    refine rn_lcmp_ge hX dX11_root_10 11 rfl dX11_root_11 74 (by decide) 14 rfl ?_ ?_
    · refine rn_lload_n hX dX11_root_74 1 rfl 75 rfl ?_
      exact rn_lret hX hr (by rw [henc]; rfl) dX11_root_75
    refine rn_lload_n hX dX11_root_14 1 rfl 15 rfl ?_
    refine rn_lload hX dX11_root_15 2 rfl 17 rfl ?_
    refine rn_ladd hX dX11_root_17 18 rfl ?_
    refine rn_lconst hX dX11_root_18 19 rfl lc_1 ?_
    refine rn_ladd hX dX11_root_19 20 rfl ?_
    refine rn_ldc2 hX kl179 dX11_root_20 23 rfl ?_
    refine rn_ldiv hX dX11_root_23 24 rfl (by decide) ?_
    refine rn_latl (fun v1 => ?_)
    refine rn_lstore hX dX11_root_24 (by decide) (L' := [(6, .long v1), (0, .long x0), (2, .long x2), (4, .long x4)]) rfl 26 rfl ?_
    refine rn_lload hX dX11_root_26 0 rfl 28 rfl ?_
    refine rn_lload hX dX11_root_28 0 rfl 30 rfl ?_
    refine rn_lmul hX dX11_root_30 31 rfl ?_
    refine rn_lload_n hX dX11_root_31 1 rfl 32 rfl ?_
    refine rn_lcmp_gt hX dX11_root_32 33 rfl dX11_root_33 40 (by decide) 36 rfl ?_ ?_
    · refine rn_iconst hX dX11_root_40 41 rfl ic_0 ?_
      refine rn_sub [1, 2, 3, 0] rfl ?_
      exact (hJ41 _ hagain) x0 x2 x4 v1 (0 : Int32)
    refine rn_iconst hX dX11_root_36 37 rfl ic_1 ?_
    refine rn_goto hX dX11_root_37 41 (by decide) ?_
    refine rn_sub [1, 2, 3, 0] rfl ?_
    exact (hJ41 _ hagain) x0 x2 x4 v1 (1 : Int32)
  have hL7 : ∀ (n : Nat) (x0 : Int64) (x2 : Int64) (x4 : Int64), Rn Z 9 (Option.map enc) 0 0 7 [(0, .long x0), (2, .long x2), (4, .long x4)] [] [] (X11_root_L7 n x0 x2 x4) := by
    intro n
    induction n with
    | zero => intros; exact rn_none
    | succ n ih => exact hB7 _ ih
  unfold X11_root
  refine rn_lconst hX dX11_root_0 1 rfl lc_0 ?_
  refine rn_lstore_n hX dX11_root_1 2 rfl (by decide) (L' := [(2, .long (0 : Int64)), (0, .long x0)]) rfl 2 rfl ?_
  refine rn_ldc2 hX kl231 dX11_root_2 5 rfl ?_
  refine rn_lstore hX dX11_root_5 (by decide) (L' := [(4, .long (1000000000 : Int64)), (2, .long (0 : Int64)), (0, .long x0)]) rfl 7 rfl ?_
  refine rn_sub [2, 1, 0] rfl ?_
  exact (hL7  1000) x0 (0 : Int64) (1000000000 : Int64)
abbrev rmX11_across : Room := { frames := 2, cells := 0, slots := 0, locals := 45 }
theorem hdV_X11_across : yX11_across.cls = RX11 ∧ yX11_across.cls ≠ "java/lang/invoke/MethodHandle" ∧ yX11_across.cls ≠ "java/lang/invoke/VarHandle" ∧ (parseMethodDescriptor yX11_across.desc).map (fun d => d.parameters.length) = some 4 := by decide +kernel
set_option maxHeartbeats 4000000 in
set_option maxRecDepth 100000 in
theorem c_X11_across (l : Launch) (G : GT) (a_this a_state a_readPage a_tape a_letters a_sums a_aside a_groups a_sides a_names a_firstNames a_isKept a_lanes a_lengths a_cells a_had : Nat) (g_isAwake : Int32) (g_taped : Int32) (g_fault : Int32) (g_broken : Int32) (g_brokenAt : Int32) (g_spot : Int32) (g_here : Int32) (g_token : Int32) (g_value : Int32) (g_hasPlaces : Int32) (g_highest : Int32) (g_laid : Int32) (g_groupMany : Int32) (g_isDrawn : Int32) (g_torn : Int32) (g_state : (Nat → Int32)) (x1 : Int32) (x2 : Int32) (x3 : Int32) (x4 : Int32) {u : Int64} (hu : X11_across x1 x2 x3 x4 g_state = some u) : Ctr l G yX11_across wsX11_across rmX11_across [.ref a_this, .int x1, .int x2, .int x3, .int x4] [(a_this, .inr (11, [.ref a_state, .ref a_readPage, .int g_isAwake, .ref a_tape, .int g_taped, .int g_fault, .int g_broken, .int g_brokenAt, .int g_spot, .int g_here, .int g_token, .int g_value, .ref a_letters, .int g_hasPlaces, .int g_highest, .ref a_sums, .ref a_aside, .ref a_groups, .ref a_sides, .int g_laid, .int g_groupMany, .int g_isDrawn, .ref a_names, .ref a_firstNames, .ref a_isKept, .ref a_lanes, .ref a_lengths, .ref a_cells, .int g_torn, .ref a_had])), (a_state, .inl (G.2.1 1, 96, .inl g_state))] (some (.long u)) [(a_this, .inr (11, [.ref a_state, .ref a_readPage, .int g_isAwake, .ref a_tape, .int g_taped, .int g_fault, .int g_broken, .int g_brokenAt, .int g_spot, .int g_here, .int g_token, .int g_value, .ref a_letters, .int g_hasPlaces, .int g_highest, .ref a_sums, .ref a_aside, .ref a_groups, .ref a_sides, .int g_laid, .int g_groupMany, .int g_isDrawn, .ref a_names, .ref a_firstNames, .ref a_isKept, .ref a_lanes, .ref a_lengths, .ref a_cells, .int g_torn, .ref a_had])), (a_state, .inl (G.2.1 1, 96, .inl g_state))] := by
  obtain ⟨enc, henc⟩ : ∃ enc : (Int64) → Option Value × va_W, enc = fun u => (((some (.long u)) : Option Value), ([(a_this, .inr (11, [.ref a_state, .ref a_readPage, .int g_isAwake, .ref a_tape, .int g_taped, .int g_fault, .int g_broken, .int g_brokenAt, .int g_spot, .int g_here, .int g_token, .int g_value, .ref a_letters, .int g_hasPlaces, .int g_highest, .ref a_sums, .ref a_aside, .ref a_groups, .ref a_sides, .int g_laid, .int g_groupMany, .int g_isDrawn, .ref a_names, .ref a_firstNames, .ref a_isKept, .ref a_lanes, .ref a_lengths, .ref a_cells, .int g_torn, .ref a_had])), (a_state, .inl (G.2.1 1, 96, .inl g_state))] : va_W)) := ⟨_, rfl⟩
  refine ctr_of (cc := cX11_across) (own := RX11) (E := Option.map enc) (o := X11_across x1 x2 x3 x4 g_state) (by decide) rfl rfl (L := [(0, .ref a_this), (1, .int x1), (2, .int x2), (3, .int x3), (4, .int x4)]) rfl (Nat.le_of_ble_eq_true rfl) (by rw [hu, henc]; rfl) ?_
  intro Z hX hl hG hr
  subst hl; subst hG
  have kl179 : (Cond.constantLong RX11 179 (2)).before (za Z) (zs Z) = true := hX.wd (mcC _ wd_1219)
  unfold X11_across
  refine rn_aload_n hX dX11_across_0 0 rfl 1 rfl ?_
  refine rn_iload_n hX dX11_across_1 3 rfl 2 rfl ?_
  refine rn_iload hX dX11_across_2 4 rfl 4 rfl ?_
  refine rn_bind (fun u1 hu1 => ?_)
  refine rn_callV0 hX (gV mcC wd_1156 wd_1158 wd_36 wd_81 wd_1159) rfl hdV_X11_sq rfl rfl ⟨Nat.le_of_ble_eq_true rfl, Nat.le_of_ble_eq_true rfl⟩ (c_X11_sq (zl Z) (zG Z) a_this a_state a_readPage a_tape a_letters a_sums a_aside a_groups a_sides a_names a_firstNames a_isKept a_lanes a_lengths a_cells a_had g_isAwake g_taped g_fault g_broken g_brokenAt g_spot g_here g_token g_value g_hasPlaces g_highest g_laid g_groupMany g_isDrawn g_torn g_state x3 x4 hu1) rfl [0, 1] rfl rfl (ci := 11) rfl rfl rfl (Nat.le_of_ble_eq_true rfl) dX11_across_4 7 rfl (S' := [.long u1]) rfl ⟨Nat.zero_le _, Nat.zero_le _⟩ ?_
  refine rn_aload_n hX dX11_across_7 0 rfl 8 rfl ?_
  refine rn_iload_n hX dX11_across_8 3 rfl 9 rfl ?_
  refine rn_iload_n hX dX11_across_9 1 rfl 10 rfl ?_
  refine rn_bind (fun u2 hu2 => ?_)
  refine rn_callV0 hX (gV mcC wd_1156 wd_1158 wd_36 wd_81 wd_1159) rfl hdV_X11_sq rfl rfl ⟨Nat.le_of_ble_eq_true rfl, Nat.le_of_ble_eq_true rfl⟩ (c_X11_sq (zl Z) (zG Z) a_this a_state a_readPage a_tape a_letters a_sums a_aside a_groups a_sides a_names a_firstNames a_isKept a_lanes a_lengths a_cells a_had g_isAwake g_taped g_fault g_broken g_brokenAt g_spot g_here g_token g_value g_hasPlaces g_highest g_laid g_groupMany g_isDrawn g_torn g_state x3 x1 hu2) rfl [0, 1] rfl rfl (ci := 11) rfl rfl rfl (Nat.le_of_ble_eq_true rfl) dX11_across_10 13 rfl (S' := [.long u2, .long u1]) rfl ⟨Nat.zero_le _, Nat.zero_le _⟩ ?_
  refine rn_ladd hX dX11_across_13 14 rfl ?_
  refine rn_aload_n hX dX11_across_14 0 rfl 15 rfl ?_
  refine rn_iload hX dX11_across_15 4 rfl 17 rfl ?_
  refine rn_iload_n hX dX11_across_17 1 rfl 18 rfl ?_
  refine rn_bind (fun u3 hu3 => ?_)
  refine rn_callV0 hX (gV mcC wd_1156 wd_1158 wd_36 wd_81 wd_1159) rfl hdV_X11_sq rfl rfl ⟨Nat.le_of_ble_eq_true rfl, Nat.le_of_ble_eq_true rfl⟩ (c_X11_sq (zl Z) (zG Z) a_this a_state a_readPage a_tape a_letters a_sums a_aside a_groups a_sides a_names a_firstNames a_isKept a_lanes a_lengths a_cells a_had g_isAwake g_taped g_fault g_broken g_brokenAt g_spot g_here g_token g_value g_hasPlaces g_highest g_laid g_groupMany g_isDrawn g_torn g_state x4 x1 hu3) rfl [0, 1] rfl rfl (ci := 11) rfl rfl rfl (Nat.le_of_ble_eq_true rfl) dX11_across_18 21 rfl (S' := [.long u3, .long (u1 + u2)]) rfl ⟨Nat.zero_le _, Nat.zero_le _⟩ ?_
  refine rn_lsub hX dX11_across_21 22 rfl ?_
  refine rn_latl (fun v4 => ?_)
  refine rn_lstore hX dX11_across_22 (by decide) (L' := [(5, .long v4), (0, .ref a_this), (1, .int x1), (2, .int x2), (3, .int x3), (4, .int x4)]) rfl 24 rfl ?_
  refine rn_aload_n hX dX11_across_24 1 rfl 25 rfl ?_
  refine rn_iload_n hX dX11_across_25 4 rfl 26 rfl ?_
  refine rn_iload hX dX11_across_26 5 rfl 28 rfl ?_
  refine rn_bind (fun u5 hu5 => ?_)
  refine rn_callV0 hX (gV mcC wd_1156 wd_1158 wd_36 wd_81 wd_1159) rfl hdV_X11_sq rfl rfl ⟨Nat.le_of_ble_eq_true rfl, Nat.le_of_ble_eq_true rfl⟩ (c_X11_sq (zl Z) (zG Z) a_this a_state a_readPage a_tape a_letters a_sums a_aside a_groups a_sides a_names a_firstNames a_isKept a_lanes a_lengths a_cells a_had g_isAwake g_taped g_fault g_broken g_brokenAt g_spot g_here g_token g_value g_hasPlaces g_highest g_laid g_groupMany g_isDrawn g_torn g_state x3 x4 hu5) rfl [0, 1] rfl rfl (ci := 11) rfl rfl rfl (Nat.le_of_ble_eq_true rfl) dX11_across_28 31 rfl (S' := [.long u5]) rfl ⟨Nat.zero_le _, Nat.zero_le _⟩ ?_
  refine rn_aload_n hX dX11_across_31 1 rfl 32 rfl ?_
  refine rn_iload_n hX dX11_across_32 4 rfl 33 rfl ?_
  refine rn_iload_n hX dX11_across_33 3 rfl 34 rfl ?_
  refine rn_bind (fun u6 hu6 => ?_)
  refine rn_callV0 hX (gV mcC wd_1156 wd_1158 wd_36 wd_81 wd_1159) rfl hdV_X11_sq rfl rfl ⟨Nat.le_of_ble_eq_true rfl, Nat.le_of_ble_eq_true rfl⟩ (c_X11_sq (zl Z) (zG Z) a_this a_state a_readPage a_tape a_letters a_sums a_aside a_groups a_sides a_names a_firstNames a_isKept a_lanes a_lengths a_cells a_had g_isAwake g_taped g_fault g_broken g_brokenAt g_spot g_here g_token g_value g_hasPlaces g_highest g_laid g_groupMany g_isDrawn g_torn g_state x3 x2 hu6) rfl [0, 1] rfl rfl (ci := 11) rfl rfl rfl (Nat.le_of_ble_eq_true rfl) dX11_across_34 37 rfl (S' := [.long u6, .long u5]) rfl ⟨Nat.zero_le _, Nat.zero_le _⟩ ?_
  refine rn_ladd hX dX11_across_37 38 rfl ?_
  refine rn_aload_n hX dX11_across_38 1 rfl 39 rfl ?_
  refine rn_iload hX dX11_across_39 5 rfl 41 rfl ?_
  refine rn_iload_n hX dX11_across_41 3 rfl 42 rfl ?_
  refine rn_bind (fun u7 hu7 => ?_)
  refine rn_callV0 hX (gV mcC wd_1156 wd_1158 wd_36 wd_81 wd_1159) rfl hdV_X11_sq rfl rfl ⟨Nat.le_of_ble_eq_true rfl, Nat.le_of_ble_eq_true rfl⟩ (c_X11_sq (zl Z) (zG Z) a_this a_state a_readPage a_tape a_letters a_sums a_aside a_groups a_sides a_names a_firstNames a_isKept a_lanes a_lengths a_cells a_had g_isAwake g_taped g_fault g_broken g_brokenAt g_spot g_here g_token g_value g_hasPlaces g_highest g_laid g_groupMany g_isDrawn g_torn g_state x4 x2 hu7) rfl [0, 1] rfl rfl (ci := 11) rfl rfl rfl (Nat.le_of_ble_eq_true rfl) dX11_across_42 45 rfl (S' := [.long u7, .long (u5 + u6)]) rfl ⟨Nat.zero_le _, Nat.zero_le _⟩ ?_
  refine rn_lsub hX dX11_across_45 46 rfl ?_
  refine rn_latl (fun v8 => ?_)
  refine rn_lstore hX dX11_across_46 (by decide) (L' := [(7, .long v8), (5, .long v4), (0, .ref a_this), (1, .int x1), (2, .int x2), (3, .int x3), (4, .int x4)]) rfl 48 rfl ?_
  refine rn_ldc2 hX kl179 dX11_across_48 51 rfl ?_
  refine rn_aload_n hX dX11_across_51 2 rfl 52 rfl ?_
  refine rn_iload_n hX dX11_across_52 5 rfl 53 rfl ?_
  refine rn_iload hX dX11_across_53 6 rfl 55 rfl ?_
  refine rn_bind (fun u9 hu9 => ?_)
  refine rn_callV0 hX (gV mcC wd_1156 wd_1158 wd_36 wd_81 wd_1159) rfl hdV_X11_sq rfl rfl ⟨Nat.le_of_ble_eq_true rfl, Nat.le_of_ble_eq_true rfl⟩ (c_X11_sq (zl Z) (zG Z) a_this a_state a_readPage a_tape a_letters a_sums a_aside a_groups a_sides a_names a_firstNames a_isKept a_lanes a_lengths a_cells a_had g_isAwake g_taped g_fault g_broken g_brokenAt g_spot g_here g_token g_value g_hasPlaces g_highest g_laid g_groupMany g_isDrawn g_torn g_state x3 x4 hu9) rfl [0, 1] rfl rfl (ci := 11) rfl rfl rfl (Nat.le_of_ble_eq_true rfl) dX11_across_55 58 rfl (S' := [.long u9, .long (2 : Int64)]) rfl ⟨Nat.zero_le _, Nat.zero_le _⟩ ?_
  refine rn_lmul hX dX11_across_58 59 rfl ?_
  refine rn_aload_n hX dX11_across_59 2 rfl 60 rfl ?_
  refine rn_iload_n hX dX11_across_60 5 rfl 61 rfl ?_
  refine rn_iload_n hX dX11_across_61 3 rfl 62 rfl ?_
  refine rn_bind (fun u10 hu10 => ?_)
  refine rn_callV0 hX (gV mcC wd_1156 wd_1158 wd_36 wd_81 wd_1159) rfl hdV_X11_sq rfl rfl ⟨Nat.le_of_ble_eq_true rfl, Nat.le_of_ble_eq_true rfl⟩ (c_X11_sq (zl Z) (zG Z) a_this a_state a_readPage a_tape a_letters a_sums a_aside a_groups a_sides a_names a_firstNames a_isKept a_lanes a_lengths a_cells a_had g_isAwake g_taped g_fault g_broken g_brokenAt g_spot g_here g_token g_value g_hasPlaces g_highest g_laid g_groupMany g_isDrawn g_torn g_state x3 x1 hu10) rfl [0, 1] rfl rfl (ci := 11) rfl rfl rfl (Nat.le_of_ble_eq_true rfl) dX11_across_62 65 rfl (S' := [.long u10, .long ((2 : Int64) * u9)]) rfl ⟨Nat.zero_le _, Nat.zero_le _⟩ ?_
  refine rn_aload_n hX dX11_across_65 2 rfl 66 rfl ?_
  refine rn_iload_n hX dX11_across_66 5 rfl 67 rfl ?_
  refine rn_iload_n hX dX11_across_67 4 rfl 68 rfl ?_
  refine rn_bind (fun u11 hu11 => ?_)
  refine rn_callV0 hX (gV mcC wd_1156 wd_1158 wd_36 wd_81 wd_1159) rfl hdV_X11_sq rfl rfl ⟨Nat.le_of_ble_eq_true rfl, Nat.le_of_ble_eq_true rfl⟩ (c_X11_sq (zl Z) (zG Z) a_this a_state a_readPage a_tape a_letters a_sums a_aside a_groups a_sides a_names a_firstNames a_isKept a_lanes a_lengths a_cells a_had g_isAwake g_taped g_fault g_broken g_brokenAt g_spot g_here g_token g_value g_hasPlaces g_highest g_laid g_groupMany g_isDrawn g_torn g_state x3 x2 hu11) rfl [0, 1] rfl rfl (ci := 11) rfl rfl rfl (Nat.le_of_ble_eq_true rfl) dX11_across_68 71 rfl (S' := [.long u11, .long u10, .long ((2 : Int64) * u9)]) rfl ⟨Nat.zero_le _, Nat.zero_le _⟩ ?_
  refine rn_ladd hX dX11_across_71 72 rfl ?_
  refine rn_lmul hX dX11_across_72 73 rfl ?_
  refine rn_lload hX dX11_across_73 1 rfl 75 rfl ?_
  refine rn_lload hX dX11_across_75 0 rfl 77 rfl ?_
  refine rn_lmul hX dX11_across_77 78 rfl ?_
  refine rn_lsub hX dX11_across_78 79 rfl ?_
  exact rn_lret hX hr (by rw [henc]; rfl) dX11_across_79
abbrev rmX11_under : Room := { frames := 3, cells := 0, slots := 0, locals := 68 }
theorem hdV_X11_under : yX11_under.cls = RX11 ∧ yX11_under.cls ≠ "java/lang/invoke/MethodHandle" ∧ yX11_under.cls ≠ "java/lang/invoke/VarHandle" ∧ (parseMethodDescriptor yX11_under.desc).map (fun d => d.parameters.length) = some 4 := by decide +kernel
set_option maxHeartbeats 4000000 in
set_option maxRecDepth 100000 in
theorem c_X11_under (l : Launch) (G : GT) (a_this a_state a_readPage a_tape a_letters a_sums a_aside a_groups a_sides a_names a_firstNames a_isKept a_lanes a_lengths a_cells a_had : Nat) (g_isAwake : Int32) (g_taped : Int32) (g_fault : Int32) (g_broken : Int32) (g_brokenAt : Int32) (g_spot : Int32) (g_here : Int32) (g_token : Int32) (g_value : Int32) (g_hasPlaces : Int32) (g_highest : Int32) (g_laid : Int32) (g_groupMany : Int32) (g_isDrawn : Int32) (g_torn : Int32) (g_state : (Nat → Int32)) (x1 : Int32) (x2 : Int32) (x3 : Int32) (x4 : Int32) {u : Int64} (hu : X11_under x1 x2 x3 x4 g_state = some u) : Ctr l G yX11_under wsX11_under rmX11_under [.ref a_this, .int x1, .int x2, .int x3, .int x4] [(a_this, .inr (11, [.ref a_state, .ref a_readPage, .int g_isAwake, .ref a_tape, .int g_taped, .int g_fault, .int g_broken, .int g_brokenAt, .int g_spot, .int g_here, .int g_token, .int g_value, .ref a_letters, .int g_hasPlaces, .int g_highest, .ref a_sums, .ref a_aside, .ref a_groups, .ref a_sides, .int g_laid, .int g_groupMany, .int g_isDrawn, .ref a_names, .ref a_firstNames, .ref a_isKept, .ref a_lanes, .ref a_lengths, .ref a_cells, .int g_torn, .ref a_had])), (a_state, .inl (G.2.1 1, 96, .inl g_state))] (some (.long u)) [(a_this, .inr (11, [.ref a_state, .ref a_readPage, .int g_isAwake, .ref a_tape, .int g_taped, .int g_fault, .int g_broken, .int g_brokenAt, .int g_spot, .int g_here, .int g_token, .int g_value, .ref a_letters, .int g_hasPlaces, .int g_highest, .ref a_sums, .ref a_aside, .ref a_groups, .ref a_sides, .int g_laid, .int g_groupMany, .int g_isDrawn, .ref a_names, .ref a_firstNames, .ref a_isKept, .ref a_lanes, .ref a_lengths, .ref a_cells, .int g_torn, .ref a_had])), (a_state, .inl (G.2.1 1, 96, .inl g_state))] := by
  obtain ⟨enc, henc⟩ : ∃ enc : (Int64) → Option Value × va_W, enc = fun u => (((some (.long u)) : Option Value), ([(a_this, .inr (11, [.ref a_state, .ref a_readPage, .int g_isAwake, .ref a_tape, .int g_taped, .int g_fault, .int g_broken, .int g_brokenAt, .int g_spot, .int g_here, .int g_token, .int g_value, .ref a_letters, .int g_hasPlaces, .int g_highest, .ref a_sums, .ref a_aside, .ref a_groups, .ref a_sides, .int g_laid, .int g_groupMany, .int g_isDrawn, .ref a_names, .ref a_firstNames, .ref a_isKept, .ref a_lanes, .ref a_lengths, .ref a_cells, .int g_torn, .ref a_had])), (a_state, .inl (G.2.1 1, 96, .inl g_state))] : va_W)) := ⟨_, rfl⟩
  refine ctr_of (cc := cX11_under) (own := RX11) (E := Option.map enc) (o := X11_under x1 x2 x3 x4 g_state) (by decide) rfl rfl (L := [(0, .ref a_this), (1, .int x1), (2, .int x2), (3, .int x3), (4, .int x4)]) rfl (Nat.le_of_ble_eq_true rfl) (by rw [hu, henc]; rfl) ?_
  intro Z hX hl hG hr
  subst hl; subst hG
  unfold X11_under
  refine rn_aload_n hX dX11_under_0 0 rfl 1 rfl ?_
  refine rn_iload_n hX dX11_under_1 3 rfl 2 rfl ?_
  refine rn_iload hX dX11_under_2 4 rfl 4 rfl ?_
  refine rn_iload_n hX dX11_under_4 1 rfl 5 rfl ?_
  refine rn_bind (fun u1 hu1 => ?_)
  refine rn_callV0 hX (gV mcC wd_1186 wd_1188 wd_40 wd_81 wd_1189) rfl hdV_X11_wideOf rfl rfl ⟨Nat.le_of_ble_eq_true rfl, Nat.le_of_ble_eq_true rfl⟩ (c_X11_wideOf (zl Z) (zG Z) a_this a_state a_readPage a_tape a_letters a_sums a_aside a_groups a_sides a_names a_firstNames a_isKept a_lanes a_lengths a_cells a_had g_isAwake g_taped g_fault g_broken g_brokenAt g_spot g_here g_token g_value g_hasPlaces g_highest g_laid g_groupMany g_isDrawn g_torn g_state x3 x4 x1 hu1) rfl [0, 1] rfl rfl (ci := 11) rfl rfl rfl (Nat.le_of_ble_eq_true rfl) dX11_under_5 8 rfl (S' := [.long u1]) rfl ⟨Nat.zero_le _, Nat.zero_le _⟩ ?_
  refine rn_aload_n hX dX11_under_8 0 rfl 9 rfl ?_
  refine rn_iload_n hX dX11_under_9 3 rfl 10 rfl ?_
  refine rn_iload hX dX11_under_10 4 rfl 12 rfl ?_
  refine rn_iload_n hX dX11_under_12 2 rfl 13 rfl ?_
  refine rn_bind (fun u2 hu2 => ?_)
  refine rn_callV0 hX (gV mcC wd_1186 wd_1188 wd_40 wd_81 wd_1189) rfl hdV_X11_wideOf rfl rfl ⟨Nat.le_of_ble_eq_true rfl, Nat.le_of_ble_eq_true rfl⟩ (c_X11_wideOf (zl Z) (zG Z) a_this a_state a_readPage a_tape a_letters a_sums a_aside a_groups a_sides a_names a_firstNames a_isKept a_lanes a_lengths a_cells a_had g_isAwake g_taped g_fault g_broken g_brokenAt g_spot g_here g_token g_value g_hasPlaces g_highest g_laid g_groupMany g_isDrawn g_torn g_state x3 x4 x2 hu2) rfl [0, 1] rfl rfl (ci := 11) rfl rfl rfl (Nat.le_of_ble_eq_true rfl) dX11_under_13 16 rfl (S' := [.long u2, .long u1]) rfl ⟨Nat.zero_le _, Nat.zero_le _⟩ ?_
  refine rn_lmul hX dX11_under_16 17 rfl ?_
  exact rn_lret hX hr (by rw [henc]; rfl) dX11_under_17
abbrev rmX11_sixth : Room := { frames := 5, cells := 0, slots := 0, locals := 115 }
theorem hdV_X11_sixth : yX11_sixth.cls = RX11 ∧ yX11_sixth.cls ≠ "java/lang/invoke/MethodHandle" ∧ yX11_sixth.cls ≠ "java/lang/invoke/VarHandle" ∧ (parseMethodDescriptor yX11_sixth.desc).map (fun d => d.parameters.length) = some 5 := by decide +kernel
set_option maxHeartbeats 4000000 in
set_option maxRecDepth 100000 in
theorem c_X11_sixth (l : Launch) (G : GT) (a_this a_state a_readPage a_tape a_letters a_sums a_aside a_groups a_sides a_names a_firstNames a_isKept a_lanes a_lengths a_cells a_had : Nat) (g_isAwake : Int32) (g_taped : Int32) (g_fault : Int32) (g_broken : Int32) (g_brokenAt : Int32) (g_spot : Int32) (g_here : Int32) (g_token : Int32) (g_value : Int32) (g_hasPlaces : Int32) (g_highest : Int32) (g_laid : Int32) (g_groupMany : Int32) (g_isDrawn : Int32) (g_torn : Int32) (g_state : (Nat → Int32)) (x1 : Int32) (x2 : Int32) (x3 : Int32) (x4 : Int32) (x5 : Int32) {u : Int64 × Int32 × (Nat → Int32)} (hu : X11_sixth x1 x2 x3 x4 x5 g_isAwake g_state = some u) : Ctr l G yX11_sixth wsX11_sixth rmX11_sixth [.ref a_this, .int x1, .int x2, .int x3, .int x4, .int x5] [(a_this, .inr (11, [.ref a_state, .ref a_readPage, .int g_isAwake, .ref a_tape, .int g_taped, .int g_fault, .int g_broken, .int g_brokenAt, .int g_spot, .int g_here, .int g_token, .int g_value, .ref a_letters, .int g_hasPlaces, .int g_highest, .ref a_sums, .ref a_aside, .ref a_groups, .ref a_sides, .int g_laid, .int g_groupMany, .int g_isDrawn, .ref a_names, .ref a_firstNames, .ref a_isKept, .ref a_lanes, .ref a_lengths, .ref a_cells, .int g_torn, .ref a_had])), (a_state, .inl (G.2.1 1, 96, .inl g_state))] (some (.long u.1)) [(a_this, .inr (11, [.ref a_state, .ref a_readPage, .int u.2.1, .ref a_tape, .int g_taped, .int g_fault, .int g_broken, .int g_brokenAt, .int g_spot, .int g_here, .int g_token, .int g_value, .ref a_letters, .int g_hasPlaces, .int g_highest, .ref a_sums, .ref a_aside, .ref a_groups, .ref a_sides, .int g_laid, .int g_groupMany, .int g_isDrawn, .ref a_names, .ref a_firstNames, .ref a_isKept, .ref a_lanes, .ref a_lengths, .ref a_cells, .int g_torn, .ref a_had])), (a_state, .inl (G.2.1 1, 96, .inl u.2.2))] := by
  obtain ⟨enc, henc⟩ : ∃ enc : (Int64 × Int32 × (Nat → Int32)) → Option Value × va_W, enc = fun u => (((some (.long u.1)) : Option Value), ([(a_this, .inr (11, [.ref a_state, .ref a_readPage, .int u.2.1, .ref a_tape, .int g_taped, .int g_fault, .int g_broken, .int g_brokenAt, .int g_spot, .int g_here, .int g_token, .int g_value, .ref a_letters, .int g_hasPlaces, .int g_highest, .ref a_sums, .ref a_aside, .ref a_groups, .ref a_sides, .int g_laid, .int g_groupMany, .int g_isDrawn, .ref a_names, .ref a_firstNames, .ref a_isKept, .ref a_lanes, .ref a_lengths, .ref a_cells, .int g_torn, .ref a_had])), (a_state, .inl (G.2.1 1, 96, .inl u.2.2))] : va_W)) := ⟨_, rfl⟩
  refine ctr_of (cc := cX11_sixth) (own := RX11) (E := Option.map enc) (o := X11_sixth x1 x2 x3 x4 x5 g_isAwake g_state) (by decide) rfl rfl (L := [(0, .ref a_this), (1, .int x1), (2, .int x2), (3, .int x3), (4, .int x4), (5, .int x5)]) rfl (Nat.le_of_ble_eq_true rfl) (by rw [hu, henc]; rfl) ?_
  intro Z hX hl hG hr
  subst hl; subst hG
  have kl162 : (Cond.constantLong RX11 162 (4)).before (za Z) (zs Z) = true := hX.wd (mcC _ wd_1193)
  have kl172 : (Cond.constantLong RX11 172 (-9000000000)).before (za Z) (zs Z) = true := hX.wd (mcC _ wd_1181)
  have kl174 : (Cond.constantLong RX11 174 (-9000000001)).before (za Z) (zs Z) = true := hX.wd (mcC _ wd_1194)
  have kl179 : (Cond.constantLong RX11 179 (2)).before (za Z) (zs Z) = true := hX.wd (mcC _ wd_1219)
  have kl243 : (Cond.constantLong RX11 243 (-4)).before (za Z) (zs Z) = true := hX.wd (mcC _ wd_1315)
  have hJ168 : ∀ (x8 : Int64) (x10 : Int64) (x12 : Int64) (s0 : Int64) (g_isAwake : Int32) (g_state : (Nat → Int32)), Rn Z 16 (Option.map enc) 0 0 168 [(8, .long x8), (10, .long x10), (12, .long x12)] [.long s0] [(a_this, .inr (11, [.ref a_state, .ref a_readPage, .int g_isAwake, .ref a_tape, .int g_taped, .int g_fault, .int g_broken, .int g_brokenAt, .int g_spot, .int g_here, .int g_token, .int g_value, .ref a_letters, .int g_hasPlaces, .int g_highest, .ref a_sums, .ref a_aside, .ref a_groups, .ref a_sides, .int g_laid, .int g_groupMany, .int g_isDrawn, .ref a_names, .ref a_firstNames, .ref a_isKept, .ref a_lanes, .ref a_lengths, .ref a_cells, .int g_torn, .ref a_had])), (a_state, .inl ((zG Z).2.1 1, 96, .inl g_state))] (X11_sixth_J168 x8 x10 x12 s0 g_isAwake g_state) := by
    intro x8 x10 x12 s0 g_isAwake g_state
    unfold X11_sixth_J168
    refine rn_lstore hX dX11_sixth_168 (by decide) (L' := [(14, .long s0), (8, .long x8), (10, .long x10), (12, .long x12)]) rfl 170 rfl ?_
    refine rn_lload hX dX11_sixth_170 3 rfl 172 rfl ?_
    refine rn_lload hX dX11_sixth_172 3 rfl 174 rfl ?_
    refine rn_lmul hX dX11_sixth_174 175 rfl ?_
    refine rn_lload hX dX11_sixth_175 1 rfl 177 rfl ?_
    refine rn_lcmp_ne hX dX11_sixth_177 178 rfl dX11_sixth_178 199 (by decide) 181 rfl ?_ ?_
    · refine rn_ldc2 hX kl243 dX11_sixth_199 202 rfl ?_
      exact rn_lret hX hr (by rw [henc]; rfl) dX11_sixth_202
    refine rn_lload hX dX11_sixth_181 0 rfl 183 rfl ?_
    refine rn_lload hX dX11_sixth_183 2 rfl 185 rfl ?_
    refine rn_gdl (fun hd1 => ?_)
    refine rn_lrem hX dX11_sixth_185 186 rfl hd1 ?_
    refine rn_lconst hX dX11_sixth_186 187 rfl lc_0 ?_
    refine rn_lcmp_ne hX dX11_sixth_187 188 rfl dX11_sixth_188 199 (by decide) 191 rfl ?_ ?_
    · refine rn_ldc2 hX kl243 dX11_sixth_199 202 rfl ?_
      exact rn_lret hX hr (by rw [henc]; rfl) dX11_sixth_202
    refine rn_lload hX dX11_sixth_191 0 rfl 193 rfl ?_
    refine rn_lload hX dX11_sixth_193 2 rfl 195 rfl ?_
    refine rn_gdl (fun hd2 => ?_)
    refine rn_ldiv hX dX11_sixth_195 196 rfl hd2 ?_
    refine rn_goto hX dX11_sixth_196 202 (by decide) ?_
    exact rn_lret hX hr (by rw [henc]; rfl) dX11_sixth_202
  unfold X11_sixth
  refine rn_aload_n hX dX11_sixth_0 0 rfl 1 rfl ?_
  refine rn_iload_n hX dX11_sixth_1 1 rfl 2 rfl ?_
  refine rn_iload_n hX dX11_sixth_2 2 rfl 3 rfl ?_
  refine rn_iload_n hX dX11_sixth_3 3 rfl 4 rfl ?_
  refine rn_iload hX dX11_sixth_4 4 rfl 6 rfl ?_
  refine rn_bind (fun u3 hu3 => ?_)
  refine rn_callV hX (gV mcC wd_1207 wd_1209 wd_42 wd_81 wd_1210) rfl hdV_X11_areFour rfl rfl ⟨Nat.le_of_ble_eq_true rfl, Nat.le_of_ble_eq_true rfl⟩ (c_X11_areFour (zl Z) (zG Z) a_this a_state a_readPage a_tape a_letters a_sums a_aside a_groups a_sides a_names a_firstNames a_isKept a_lanes a_lengths a_cells a_had g_isAwake g_taped g_fault g_broken g_brokenAt g_spot g_here g_token g_value g_hasPlaces g_highest g_laid g_groupMany g_isDrawn g_torn g_state x1 x2 x3 x4 hu3) rfl [0, 1] rfl rfl rfl (ci := 11) rfl rfl rfl (Nat.le_of_ble_eq_true rfl) dX11_sixth_6 9 rfl (wn := [(a_this, .inr (11, [.ref a_state, .ref a_readPage, .int u3.2.1, .ref a_tape, .int g_taped, .int g_fault, .int g_broken, .int g_brokenAt, .int g_spot, .int g_here, .int g_token, .int g_value, .ref a_letters, .int g_hasPlaces, .int g_highest, .ref a_sums, .ref a_aside, .ref a_groups, .ref a_sides, .int g_laid, .int g_groupMany, .int g_isDrawn, .ref a_names, .ref a_firstNames, .ref a_isKept, .ref a_lanes, .ref a_lengths, .ref a_cells, .int g_torn, .ref a_had])), (a_state, .inl ((zG Z).2.1 1, 96, .inl u3.2.2))]) rfl (S' := [.int u3.1]) rfl ⟨Nat.zero_le _, Nat.zero_le _⟩ ?_
  refine rn_if_eq hX dX11_sixth_9 25 (by decide) 12 rfl ?_ ?_
  · refine rn_ldc2 hX kl172 dX11_sixth_25 28 rfl ?_
    exact rn_lret hX hr (by rw [henc]; rfl) dX11_sixth_28
  refine rn_iload hX dX11_sixth_12 5 rfl 14 rfl ?_
  refine rn_i2l hX dX11_sixth_14 15 rfl ?_
  refine rn_lconst hX dX11_sixth_15 16 rfl lc_0 ?_
  refine rn_ldc2 hX kl162 dX11_sixth_16 19 rfl ?_
  refine rn_callS0 hX (gS mcC wd_1090 wd_1091 wd_81 wd_1092) rfl hdS_X11_in rfl rfl ⟨Nat.le_of_ble_eq_true rfl, Nat.le_of_ble_eq_true rfl⟩ (c_X11_in (zl Z) (zG Z) x5.toInt64 (0 : Int64) (4 : Int64) rfl) rfl [] rfl rfl rfl (Nat.le_of_ble_eq_true rfl) dX11_sixth_19 22 rfl (S' := [.int (X11_in x5.toInt64 (0 : Int64) (4 : Int64))]) rfl ⟨Nat.zero_le _, Nat.zero_le _⟩ ?_
  refine rn_if_ne hX dX11_sixth_22 29 (by decide) 25 rfl ?_ ?_
  · refine rn_aload_n hX dX11_sixth_29 0 rfl 30 rfl ?_
    refine rn_iload_n hX dX11_sixth_30 3 rfl 31 rfl ?_
    refine rn_iload hX dX11_sixth_31 4 rfl 33 rfl ?_
    refine rn_iload_n hX dX11_sixth_33 1 rfl 34 rfl ?_
    refine rn_bind (fun u4 hu4 => ?_)
    refine rn_callV0 hX (gV mcC wd_1182 wd_1184 wd_39 wd_81 wd_1185) rfl hdV_X11_areTold rfl rfl ⟨Nat.le_of_ble_eq_true rfl, Nat.le_of_ble_eq_true rfl⟩ (c_X11_areTold (zl Z) (zG Z) a_this a_state a_readPage a_tape a_letters a_sums a_aside a_groups a_sides a_names a_firstNames a_isKept a_lanes a_lengths a_cells a_had u3.2.1 g_taped g_fault g_broken g_brokenAt g_spot g_here g_token g_value g_hasPlaces g_highest g_laid g_groupMany g_isDrawn g_torn u3.2.2 x3 x4 x1 hu4) rfl [0, 1] rfl rfl (ci := 11) rfl rfl rfl (Nat.le_of_ble_eq_true rfl) dX11_sixth_34 37 rfl (S' := [.int u4]) rfl ⟨Nat.zero_le _, Nat.zero_le _⟩ ?_
    refine rn_if_eq hX dX11_sixth_37 73 (by decide) 40 rfl ?_ ?_
    · refine rn_ldc2 hX kl174 dX11_sixth_73 76 rfl ?_
      exact rn_lret hX hr (by rw [henc]; rfl) dX11_sixth_76
    refine rn_aload_n hX dX11_sixth_40 0 rfl 41 rfl ?_
    refine rn_iload_n hX dX11_sixth_41 3 rfl 42 rfl ?_
    refine rn_iload hX dX11_sixth_42 4 rfl 44 rfl ?_
    refine rn_iload_n hX dX11_sixth_44 2 rfl 45 rfl ?_
    refine rn_bind (fun u5 hu5 => ?_)
    refine rn_callV0 hX (gV mcC wd_1182 wd_1184 wd_39 wd_81 wd_1185) rfl hdV_X11_areTold rfl rfl ⟨Nat.le_of_ble_eq_true rfl, Nat.le_of_ble_eq_true rfl⟩ (c_X11_areTold (zl Z) (zG Z) a_this a_state a_readPage a_tape a_letters a_sums a_aside a_groups a_sides a_names a_firstNames a_isKept a_lanes a_lengths a_cells a_had u3.2.1 g_taped g_fault g_broken g_brokenAt g_spot g_here g_token g_value g_hasPlaces g_highest g_laid g_groupMany g_isDrawn g_torn u3.2.2 x3 x4 x2 hu5) rfl [0, 1] rfl rfl (ci := 11) rfl rfl rfl (Nat.le_of_ble_eq_true rfl) dX11_sixth_45 48 rfl (S' := [.int u5]) rfl ⟨Nat.zero_le _, Nat.zero_le _⟩ ?_
    refine rn_if_eq hX dX11_sixth_48 73 (by decide) 51 rfl ?_ ?_
    · refine rn_ldc2 hX kl174 dX11_sixth_73 76 rfl ?_
      exact rn_lret hX hr (by rw [henc]; rfl) dX11_sixth_76
    refine rn_aload_n hX dX11_sixth_51 0 rfl 52 rfl ?_
    refine rn_iload_n hX dX11_sixth_52 3 rfl 53 rfl ?_
    refine rn_iload hX dX11_sixth_53 4 rfl 55 rfl ?_
    refine rn_iload_n hX dX11_sixth_55 1 rfl 56 rfl ?_
    refine rn_bind (fun u6 hu6 => ?_)
    refine rn_callV0 hX (gV mcC wd_1199 wd_1201 wd_41 wd_81 wd_1202) rfl hdV_X11_canBe rfl rfl ⟨Nat.le_of_ble_eq_true rfl, Nat.le_of_ble_eq_true rfl⟩ (c_X11_canBe (zl Z) (zG Z) a_this a_state a_readPage a_tape a_letters a_sums a_aside a_groups a_sides a_names a_firstNames a_isKept a_lanes a_lengths a_cells a_had u3.2.1 g_taped g_fault g_broken g_brokenAt g_spot g_here g_token g_value g_hasPlaces g_highest g_laid g_groupMany g_isDrawn g_torn u3.2.2 x3 x4 x1 hu6) rfl [0, 1] rfl rfl (ci := 11) rfl rfl rfl (Nat.le_of_ble_eq_true rfl) dX11_sixth_56 59 rfl (S' := [.int u6]) rfl ⟨Nat.zero_le _, Nat.zero_le _⟩ ?_
    refine rn_if_eq hX dX11_sixth_59 73 (by decide) 62 rfl ?_ ?_
    · refine rn_ldc2 hX kl174 dX11_sixth_73 76 rfl ?_
      exact rn_lret hX hr (by rw [henc]; rfl) dX11_sixth_76
    refine rn_aload_n hX dX11_sixth_62 0 rfl 63 rfl ?_
    refine rn_iload_n hX dX11_sixth_63 3 rfl 64 rfl ?_
    refine rn_iload hX dX11_sixth_64 4 rfl 66 rfl ?_
    refine rn_iload_n hX dX11_sixth_66 2 rfl 67 rfl ?_
    refine rn_bind (fun u7 hu7 => ?_)
    refine rn_callV0 hX (gV mcC wd_1199 wd_1201 wd_41 wd_81 wd_1202) rfl hdV_X11_canBe rfl rfl ⟨Nat.le_of_ble_eq_true rfl, Nat.le_of_ble_eq_true rfl⟩ (c_X11_canBe (zl Z) (zG Z) a_this a_state a_readPage a_tape a_letters a_sums a_aside a_groups a_sides a_names a_firstNames a_isKept a_lanes a_lengths a_cells a_had u3.2.1 g_taped g_fault g_broken g_brokenAt g_spot g_here g_token g_value g_hasPlaces g_highest g_laid g_groupMany g_isDrawn g_torn u3.2.2 x3 x4 x2 hu7) rfl [0, 1] rfl rfl (ci := 11) rfl rfl rfl (Nat.le_of_ble_eq_true rfl) dX11_sixth_67 70 rfl (S' := [.int u7]) rfl ⟨Nat.zero_le _, Nat.zero_le _⟩ ?_
    refine rn_if_ne hX dX11_sixth_70 77 (by decide) 73 rfl ?_ ?_
    · refine rn_aload_n hX dX11_sixth_77 0 rfl 78 rfl ?_
      refine rn_iload_n hX dX11_sixth_78 1 rfl 79 rfl ?_
      refine rn_iload_n hX dX11_sixth_79 2 rfl 80 rfl ?_
      refine rn_iload_n hX dX11_sixth_80 3 rfl 81 rfl ?_
      refine rn_iload hX dX11_sixth_81 4 rfl 83 rfl ?_
      refine rn_bind (fun u8 hu8 => ?_)
      refine rn_callV0 hX (gV mcC wd_1303 wd_1305 wd_54 wd_81 wd_1306) rfl hdV_X11_across rfl rfl ⟨Nat.le_of_ble_eq_true rfl, Nat.le_of_ble_eq_true rfl⟩ (c_X11_across (zl Z) (zG Z) a_this a_state a_readPage a_tape a_letters a_sums a_aside a_groups a_sides a_names a_firstNames a_isKept a_lanes a_lengths a_cells a_had u3.2.1 g_taped g_fault g_broken g_brokenAt g_spot g_here g_token g_value g_hasPlaces g_highest g_laid g_groupMany g_isDrawn g_torn u3.2.2 x1 x2 x3 x4 hu8) rfl [0, 1] rfl rfl (ci := 11) rfl rfl rfl (Nat.le_of_ble_eq_true rfl) dX11_sixth_83 86 rfl (S' := [.long u8]) rfl ⟨Nat.zero_le _, Nat.zero_le _⟩ ?_
      refine rn_lstore hX dX11_sixth_86 (by decide) (L' := [(6, .long u8), (0, .ref a_this), (1, .int x1), (2, .int x2), (3, .int x3), (4, .int x4), (5, .int x5)]) rfl 88 rfl ?_
      refine rn_aload_n hX dX11_sixth_88 1 rfl 89 rfl ?_
      refine rn_iload_n hX dX11_sixth_89 2 rfl 90 rfl ?_
      refine rn_iload_n hX dX11_sixth_90 3 rfl 91 rfl ?_
      refine rn_iload_n hX dX11_sixth_91 4 rfl 92 rfl ?_
      refine rn_iload hX dX11_sixth_92 5 rfl 94 rfl ?_
      refine rn_bind (fun u9 hu9 => ?_)
      refine rn_callV0 hX (gV mcC wd_1307 wd_1309 wd_55 wd_81 wd_1310) rfl hdV_X11_under rfl rfl ⟨Nat.le_of_ble_eq_true rfl, Nat.le_of_ble_eq_true rfl⟩ (c_X11_under (zl Z) (zG Z) a_this a_state a_readPage a_tape a_letters a_sums a_aside a_groups a_sides a_names a_firstNames a_isKept a_lanes a_lengths a_cells a_had u3.2.1 g_taped g_fault g_broken g_brokenAt g_spot g_here g_token g_value g_hasPlaces g_highest g_laid g_groupMany g_isDrawn g_torn u3.2.2 x1 x2 x3 x4 hu9) rfl [0, 1] rfl rfl (ci := 11) rfl rfl rfl (Nat.le_of_ble_eq_true rfl) dX11_sixth_94 97 rfl (S' := [.long u9]) rfl ⟨Nat.zero_le _, Nat.zero_le _⟩ ?_
      refine rn_lstore hX dX11_sixth_97 (by decide) (L' := [(8, .long u9), (6, .long u8), (0, .ref a_this), (1, .int x1), (2, .int x2), (3, .int x3), (4, .int x4), (5, .int x5)]) rfl 99 rfl ?_
      refine rn_ldc2 hX kl179 dX11_sixth_99 102 rfl ?_
      refine rn_aload_n hX dX11_sixth_102 2 rfl 103 rfl ?_
      refine rn_iload_n hX dX11_sixth_103 5 rfl 104 rfl ?_
      refine rn_iload hX dX11_sixth_104 6 rfl 106 rfl ?_
      refine rn_bind (fun u10 hu10 => ?_)
      refine rn_callV0 hX (gV mcC wd_1156 wd_1158 wd_36 wd_81 wd_1159) rfl hdV_X11_sq rfl rfl ⟨Nat.le_of_ble_eq_true rfl, Nat.le_of_ble_eq_true rfl⟩ (c_X11_sq (zl Z) (zG Z) a_this a_state a_readPage a_tape a_letters a_sums a_aside a_groups a_sides a_names a_firstNames a_isKept a_lanes a_lengths a_cells a_had u3.2.1 g_taped g_fault g_broken g_brokenAt g_spot g_here g_token g_value g_hasPlaces g_highest g_laid g_groupMany g_isDrawn g_torn u3.2.2 x3 x4 hu10) rfl [0, 1] rfl rfl (ci := 11) rfl rfl rfl (Nat.le_of_ble_eq_true rfl) dX11_sixth_106 109 rfl (S' := [.long u10, .long (2 : Int64)]) rfl ⟨Nat.zero_le _, Nat.zero_le _⟩ ?_
      refine rn_lmul hX dX11_sixth_109 110 rfl ?_
      refine rn_latl (fun v11 => ?_)
      refine rn_lstore hX dX11_sixth_110 (by decide) (L' := [(10, .long v11), (8, .long u9), (6, .long u8), (0, .ref a_this), (1, .int x1), (2, .int x2), (3, .int x3), (4, .int x4), (5, .int x5)]) rfl 112 rfl ?_
      refine rn_iload hX dX11_sixth_112 8 rfl 114 rfl ?_
      refine rn_iconst hX dX11_sixth_114 115 rfl ic_3 ?_
      refine rn_icmp_ge hX dX11_sixth_115 142 (by decide) 118 rfl ?_ ?_
      · refine rn_lload hX dX11_sixth_142 1 rfl 144 rfl ?_
        refine rn_bind (fun u12 hu12 => ?_)
        refine rn_callS0 hX (gS mcC wd_1311 wd_1312 wd_81 wd_1313) rfl hdS_X11_root rfl rfl ⟨Nat.le_of_ble_eq_true rfl, Nat.le_of_ble_eq_true rfl⟩ (c_X11_root (zl Z) (zG Z) u9 hu12) rfl [] rfl rfl rfl (Nat.le_of_ble_eq_true rfl) dX11_sixth_144 147 rfl (S' := [.long u12]) rfl ⟨Nat.zero_le _, Nat.zero_le _⟩ ?_
        refine rn_lstore hX dX11_sixth_147 (by decide) (L' := [(12, .long u12), (10, .long v11), (8, .long u9), (6, .long u8), (0, .ref a_this), (1, .int x1), (2, .int x2), (3, .int x3), (4, .int x4), (5, .int x5)]) rfl 149 rfl ?_
        refine rn_iload hX dX11_sixth_149 9 rfl 151 rfl ?_
        refine rn_iconst hX dX11_sixth_151 152 rfl ic_3 ?_
        refine rn_icmp_ne hX dX11_sixth_152 163 (by decide) 155 rfl ?_ ?_
        · refine rn_lload hX dX11_sixth_163 3 rfl 165 rfl ?_
          refine rn_lload hX dX11_sixth_165 0 rfl 167 rfl ?_
          refine rn_ladd hX dX11_sixth_167 168 rfl ?_
          refine rn_sub [2, 1, 0] rfl ?_
          exact hJ168 u9 v11 u12 (u8 + u12) u3.2.1 u3.2.2
        refine rn_lload hX dX11_sixth_155 3 rfl 157 rfl ?_
        refine rn_lload hX dX11_sixth_157 0 rfl 159 rfl ?_
        refine rn_lsub hX dX11_sixth_159 160 rfl ?_
        refine rn_goto hX dX11_sixth_160 168 (by decide) ?_
        refine rn_sub [2, 1, 0] rfl ?_
        exact hJ168 u9 v11 u12 (u8 - u12) u3.2.1 u3.2.2
      refine rn_iload hX dX11_sixth_118 8 rfl 120 rfl ?_
      refine rn_if_ne hX dX11_sixth_120 128 (by decide) 123 rfl ?_ ?_
      · refine rn_iload hX dX11_sixth_128 8 rfl 130 rfl ?_
        refine rn_iconst hX dX11_sixth_130 131 rfl ic_1 ?_
        refine rn_icmp_ne hX dX11_sixth_131 139 (by decide) 134 rfl ?_ ?_
        · refine rn_lload hX dX11_sixth_139 0 rfl 141 rfl ?_
          exact rn_lret hX hr (by rw [henc]; rfl) dX11_sixth_141
        refine rn_lload hX dX11_sixth_134 1 rfl 136 rfl ?_
        refine rn_goto hX dX11_sixth_136 141 (by decide) ?_
        exact rn_lret hX hr (by rw [henc]; rfl) dX11_sixth_141
      refine rn_lload hX dX11_sixth_123 2 rfl 125 rfl ?_
      refine rn_goto hX dX11_sixth_125 141 (by decide) ?_
      exact rn_lret hX hr (by rw [henc]; rfl) dX11_sixth_141
    refine rn_ldc2 hX kl174 dX11_sixth_73 76 rfl ?_
    exact rn_lret hX hr (by rw [henc]; rfl) dX11_sixth_76
  refine rn_ldc2 hX kl172 dX11_sixth_25 28 rfl ?_
  exact rn_lret hX hr (by rw [henc]; rfl) dX11_sixth_28
abbrev rmX11_ends : Room := { frames := 3, cells := 0, slots := 0, locals := 68 }
theorem hdV_X11_ends : yX11_ends.cls = RX11 ∧ yX11_ends.cls ≠ "java/lang/invoke/MethodHandle" ∧ yX11_ends.cls ≠ "java/lang/invoke/VarHandle" ∧ (parseMethodDescriptor yX11_ends.desc).map (fun d => d.parameters.length) = some 3 := by decide +kernel
set_option maxHeartbeats 4000000 in
set_option maxRecDepth 100000 in
theorem c_X11_ends (l : Launch) (G : GT) (a_this a_state a_readPage a_tape a_letters a_sums a_aside a_groups a_sides a_names a_firstNames a_isKept a_lanes a_lengths a_cells a_had : Nat) (g_isAwake : Int32) (g_taped : Int32) (g_fault : Int32) (g_broken : Int32) (g_brokenAt : Int32) (g_spot : Int32) (g_here : Int32) (g_token : Int32) (g_value : Int32) (g_hasPlaces : Int32) (g_highest : Int32) (g_laid : Int32) (g_groupMany : Int32) (g_isDrawn : Int32) (g_torn : Int32) (g_state : (Nat → Int32)) (x1 : Int32) (x2 : Int32) (x3 : Int32) {u : Int32 × Int32 × (Nat → Int32)} (hu : X11_ends x1 x2 x3 g_isAwake g_state = some u) : Ctr l G yX11_ends wsX11_ends rmX11_ends [.ref a_this, .int x1, .int x2, .int x3] [(a_this, .inr (11, [.ref a_state, .ref a_readPage, .int g_isAwake, .ref a_tape, .int g_taped, .int g_fault, .int g_broken, .int g_brokenAt, .int g_spot, .int g_here, .int g_token, .int g_value, .ref a_letters, .int g_hasPlaces, .int g_highest, .ref a_sums, .ref a_aside, .ref a_groups, .ref a_sides, .int g_laid, .int g_groupMany, .int g_isDrawn, .ref a_names, .ref a_firstNames, .ref a_isKept, .ref a_lanes, .ref a_lengths, .ref a_cells, .int g_torn, .ref a_had])), (a_state, .inl (G.2.1 1, 96, .inl g_state))] (some (.int u.1)) [(a_this, .inr (11, [.ref a_state, .ref a_readPage, .int u.2.1, .ref a_tape, .int g_taped, .int g_fault, .int g_broken, .int g_brokenAt, .int g_spot, .int g_here, .int g_token, .int g_value, .ref a_letters, .int g_hasPlaces, .int g_highest, .ref a_sums, .ref a_aside, .ref a_groups, .ref a_sides, .int g_laid, .int g_groupMany, .int g_isDrawn, .ref a_names, .ref a_firstNames, .ref a_isKept, .ref a_lanes, .ref a_lengths, .ref a_cells, .int g_torn, .ref a_had])), (a_state, .inl (G.2.1 1, 96, .inl u.2.2))] := by
  obtain ⟨enc, henc⟩ : ∃ enc : (Int32 × Int32 × (Nat → Int32)) → Option Value × va_W, enc = fun u => (((some (.int u.1)) : Option Value), ([(a_this, .inr (11, [.ref a_state, .ref a_readPage, .int u.2.1, .ref a_tape, .int g_taped, .int g_fault, .int g_broken, .int g_brokenAt, .int g_spot, .int g_here, .int g_token, .int g_value, .ref a_letters, .int g_hasPlaces, .int g_highest, .ref a_sums, .ref a_aside, .ref a_groups, .ref a_sides, .int g_laid, .int g_groupMany, .int g_isDrawn, .ref a_names, .ref a_firstNames, .ref a_isKept, .ref a_lanes, .ref a_lengths, .ref a_cells, .int g_torn, .ref a_had])), (a_state, .inl (G.2.1 1, 96, .inl u.2.2))] : va_W)) := ⟨_, rfl⟩
  refine ctr_of (cc := cX11_ends) (own := RX11) (E := Option.map enc) (o := X11_ends x1 x2 x3 g_isAwake g_state) (by decide) rfl rfl (L := [(0, .ref a_this), (1, .int x1), (2, .int x2), (3, .int x3)]) rfl (Nat.le_of_ble_eq_true rfl) (by rw [hu, henc]; rfl) ?_
  intro Z hX hl hG hr
  subst hl; subst hG
  have fl7 : (Cond.fieldLink RX11 7 "OnlyFarModel" "state" "[I").before (za Z) (zs Z) = true := hX.wd (mcC _ wd_990)
  have kl162 : (Cond.constantLong RX11 162 (4)).before (za Z) (zs Z) = true := hX.wd (mcC _ wd_1193)
  have kl245 : (Cond.constantLong RX11 245 (99999)).before (za Z) (zs Z) = true := hX.wd (mcC _ wd_1320)
  have inX11 : ∀ w ∈ u_ws RX11 TX11 30, w ∈ wsX11_ends := fun w h => mcC w (inC_X11 w h)
  have hJ166 : ∀ (x3 : Int32) (x4 : Int64) (x6 : Int64) (g_isAwake : Int32) (g_state : (Nat → Int32)), Rn Z 15 (Option.map enc) 0 0 166 [(3, .int x3), (4, .long x4), (6, .long x6)] [] [(a_this, .inr (11, [.ref a_state, .ref a_readPage, .int g_isAwake, .ref a_tape, .int g_taped, .int g_fault, .int g_broken, .int g_brokenAt, .int g_spot, .int g_here, .int g_token, .int g_value, .ref a_letters, .int g_hasPlaces, .int g_highest, .ref a_sums, .ref a_aside, .ref a_groups, .ref a_sides, .int g_laid, .int g_groupMany, .int g_isDrawn, .ref a_names, .ref a_firstNames, .ref a_isKept, .ref a_lanes, .ref a_lengths, .ref a_cells, .int g_torn, .ref a_had])), (a_state, .inl ((zG Z).2.1 1, 96, .inl g_state))] (X11_ends_J166 x3 x4 x6 g_isAwake g_state) := by
    intro x3 x4 x6 g_isAwake g_state
    unfold X11_ends_J166
    refine rn_iload_n hX dX11_ends_166 0 rfl 167 rfl ?_
    refine rn_if_ne hX dX11_ends_167 175 (by decide) 170 rfl ?_ ?_
    · refine rn_lload hX dX11_ends_175 2 rfl 177 rfl ?_
      refine rn_l2i hX dX11_ends_177 178 rfl ?_
      exact rn_iret hX hr (by rw [henc]; rfl) dX11_ends_178
    refine rn_lload hX dX11_ends_170 1 rfl 172 rfl ?_
    refine rn_goto hX dX11_ends_172 177 (by decide) ?_
    refine rn_l2i hX dX11_ends_177 178 rfl ?_
    exact rn_iret hX hr (by rw [henc]; rfl) dX11_ends_178
  have hJ160 : ∀ (again : Int32 → Int32 → Int32 → Int64 → Int64 → Int32 → Int32 → (Nat → Int32) → Option (Int32 × Int32 × (Nat → Int32))) (k166 : Int32 → Int64 → Int64 → Int32 → (Nat → Int32) → Option (Int32 × Int32 × (Nat → Int32))) (hagain : ∀ (x1 : Int32) (x2 : Int32) (x3 : Int32) (x4 : Int64) (x6 : Int64) (x8 : Int32) (g_isAwake : Int32) (g_state : (Nat → Int32)), Rn Z 15 (Option.map enc) 0 0 32 [(0, .ref a_this), (1, .int x1), (2, .int x2), (3, .int x3), (4, .long x4), (6, .long x6), (8, .int x8)] [] [(a_this, .inr (11, [.ref a_state, .ref a_readPage, .int g_isAwake, .ref a_tape, .int g_taped, .int g_fault, .int g_broken, .int g_brokenAt, .int g_spot, .int g_here, .int g_token, .int g_value, .ref a_letters, .int g_hasPlaces, .int g_highest, .ref a_sums, .ref a_aside, .ref a_groups, .ref a_sides, .int g_laid, .int g_groupMany, .int g_isDrawn, .ref a_names, .ref a_firstNames, .ref a_isKept, .ref a_lanes, .ref a_lengths, .ref a_cells, .int g_torn, .ref a_had])), (a_state, .inl ((zG Z).2.1 1, 96, .inl g_state))] (again x1 x2 x3 x4 x6 x8 g_isAwake g_state)) (hk166 : ∀ (x3 : Int32) (x4 : Int64) (x6 : Int64) (g_isAwake : Int32) (g_state : (Nat → Int32)), Rn Z 15 (Option.map enc) 0 0 166 [(3, .int x3), (4, .long x4), (6, .long x6)] [] [(a_this, .inr (11, [.ref a_state, .ref a_readPage, .int g_isAwake, .ref a_tape, .int g_taped, .int g_fault, .int g_broken, .int g_brokenAt, .int g_spot, .int g_here, .int g_token, .int g_value, .ref a_letters, .int g_hasPlaces, .int g_highest, .ref a_sums, .ref a_aside, .ref a_groups, .ref a_sides, .int g_laid, .int g_groupMany, .int g_isDrawn, .ref a_names, .ref a_firstNames, .ref a_isKept, .ref a_lanes, .ref a_lengths, .ref a_cells, .int g_torn, .ref a_had])), (a_state, .inl ((zG Z).2.1 1, 96, .inl g_state))] (k166 x3 x4 x6 g_isAwake g_state)) (x1 : Int32) (x2 : Int32) (x3 : Int32) (x4 : Int64) (x6 : Int64) (x8 : Int32) (g_isAwake : Int32) (g_state : (Nat → Int32)), Rn Z 15 (Option.map enc) 0 0 160 [(0, .ref a_this), (1, .int x1), (2, .int x2), (3, .int x3), (4, .long x4), (6, .long x6), (8, .int x8)] [] [(a_this, .inr (11, [.ref a_state, .ref a_readPage, .int g_isAwake, .ref a_tape, .int g_taped, .int g_fault, .int g_broken, .int g_brokenAt, .int g_spot, .int g_here, .int g_token, .int g_value, .ref a_letters, .int g_hasPlaces, .int g_highest, .ref a_sums, .ref a_aside, .ref a_groups, .ref a_sides, .int g_laid, .int g_groupMany, .int g_isDrawn, .ref a_names, .ref a_firstNames, .ref a_isKept, .ref a_lanes, .ref a_lengths, .ref a_cells, .int g_torn, .ref a_had])), (a_state, .inl ((zG Z).2.1 1, 96, .inl g_state))] (X11_ends_J160 again k166 x1 x2 x3 x4 x6 x8 g_isAwake g_state) := by
    intro again k166 hagain hk166 x1 x2 x3 x4 x6 x8 g_isAwake g_state
    unfold X11_ends_J160
    refine rn_iinc hX dX11_ends_160 6 rfl ic_1 (by decide) (L' := fun v1 => [(8, .int v1), (0, .ref a_this), (1, .int x1), (2, .int x2), (3, .int x3), (4, .long x4), (6, .long x6)]) (fun _ => rfl) 163 rfl (fun v1 => ?_)
    refine rn_goto hX dX11_ends_163 32 (by decide) ?_
    refine rn_sub [1, 2, 3, 4, 5, 6, 0] rfl ?_
    exact hagain x1 x2 x3 x4 x6 v1 g_isAwake g_state
  have hJ158 : ∀ (again : Int32 → Int32 → Int32 → Int64 → Int64 → Int32 → Int32 → (Nat → Int32) → Option (Int32 × Int32 × (Nat → Int32))) (k166 : Int32 → Int64 → Int64 → Int32 → (Nat → Int32) → Option (Int32 × Int32 × (Nat → Int32))) (hagain : ∀ (x1 : Int32) (x2 : Int32) (x3 : Int32) (x4 : Int64) (x6 : Int64) (x8 : Int32) (g_isAwake : Int32) (g_state : (Nat → Int32)), Rn Z 15 (Option.map enc) 0 0 32 [(0, .ref a_this), (1, .int x1), (2, .int x2), (3, .int x3), (4, .long x4), (6, .long x6), (8, .int x8)] [] [(a_this, .inr (11, [.ref a_state, .ref a_readPage, .int g_isAwake, .ref a_tape, .int g_taped, .int g_fault, .int g_broken, .int g_brokenAt, .int g_spot, .int g_here, .int g_token, .int g_value, .ref a_letters, .int g_hasPlaces, .int g_highest, .ref a_sums, .ref a_aside, .ref a_groups, .ref a_sides, .int g_laid, .int g_groupMany, .int g_isDrawn, .ref a_names, .ref a_firstNames, .ref a_isKept, .ref a_lanes, .ref a_lengths, .ref a_cells, .int g_torn, .ref a_had])), (a_state, .inl ((zG Z).2.1 1, 96, .inl g_state))] (again x1 x2 x3 x4 x6 x8 g_isAwake g_state)) (hk166 : ∀ (x3 : Int32) (x4 : Int64) (x6 : Int64) (g_isAwake : Int32) (g_state : (Nat → Int32)), Rn Z 15 (Option.map enc) 0 0 166 [(3, .int x3), (4, .long x4), (6, .long x6)] [] [(a_this, .inr (11, [.ref a_state, .ref a_readPage, .int g_isAwake, .ref a_tape, .int g_taped, .int g_fault, .int g_broken, .int g_brokenAt, .int g_spot, .int g_here, .int g_token, .int g_value, .ref a_letters, .int g_hasPlaces, .int g_highest, .ref a_sums, .ref a_aside, .ref a_groups, .ref a_sides, .int g_laid, .int g_groupMany, .int g_isDrawn, .ref a_names, .ref a_firstNames, .ref a_isKept, .ref a_lanes, .ref a_lengths, .ref a_cells, .int g_torn, .ref a_had])), (a_state, .inl ((zG Z).2.1 1, 96, .inl g_state))] (k166 x3 x4 x6 g_isAwake g_state)) (x1 : Int32) (x2 : Int32) (x3 : Int32) (x4 : Int64) (x8 : Int32) (s0 : Int64) (g_isAwake : Int32) (g_state : (Nat → Int32)), Rn Z 15 (Option.map enc) 0 0 158 [(0, .ref a_this), (1, .int x1), (2, .int x2), (3, .int x3), (4, .long x4), (8, .int x8)] [.long s0] [(a_this, .inr (11, [.ref a_state, .ref a_readPage, .int g_isAwake, .ref a_tape, .int g_taped, .int g_fault, .int g_broken, .int g_brokenAt, .int g_spot, .int g_here, .int g_token, .int g_value, .ref a_letters, .int g_hasPlaces, .int g_highest, .ref a_sums, .ref a_aside, .ref a_groups, .ref a_sides, .int g_laid, .int g_groupMany, .int g_isDrawn, .ref a_names, .ref a_firstNames, .ref a_isKept, .ref a_lanes, .ref a_lengths, .ref a_cells, .int g_torn, .ref a_had])), (a_state, .inl ((zG Z).2.1 1, 96, .inl g_state))] (X11_ends_J158 again k166 x1 x2 x3 x4 x8 s0 g_isAwake g_state) := by
    intro again k166 hagain hk166 x1 x2 x3 x4 x8 s0 g_isAwake g_state
    unfold X11_ends_J158
    refine rn_lstore hX dX11_ends_158 (by decide) (L' := [(6, .long s0), (0, .ref a_this), (1, .int x1), (2, .int x2), (3, .int x3), (4, .long x4), (8, .int x8)]) rfl 160 rfl ?_
    refine rn_sub [1, 2, 3, 4, 5, 0, 6] rfl ?_
    exact (hJ160 _ _ hagain hk166) x1 x2 x3 x4 s0 x8 g_isAwake g_state
  have hJ129 : ∀ (again : Int32 → Int32 → Int32 → Int64 → Int64 → Int32 → Int32 → (Nat → Int32) → Option (Int32 × Int32 × (Nat → Int32))) (k166 : Int32 → Int64 → Int64 → Int32 → (Nat → Int32) → Option (Int32 × Int32 × (Nat → Int32))) (hagain : ∀ (x1 : Int32) (x2 : Int32) (x3 : Int32) (x4 : Int64) (x6 : Int64) (x8 : Int32) (g_isAwake : Int32) (g_state : (Nat → Int32)), Rn Z 15 (Option.map enc) 0 0 32 [(0, .ref a_this), (1, .int x1), (2, .int x2), (3, .int x3), (4, .long x4), (6, .long x6), (8, .int x8)] [] [(a_this, .inr (11, [.ref a_state, .ref a_readPage, .int g_isAwake, .ref a_tape, .int g_taped, .int g_fault, .int g_broken, .int g_brokenAt, .int g_spot, .int g_here, .int g_token, .int g_value, .ref a_letters, .int g_hasPlaces, .int g_highest, .ref a_sums, .ref a_aside, .ref a_groups, .ref a_sides, .int g_laid, .int g_groupMany, .int g_isDrawn, .ref a_names, .ref a_firstNames, .ref a_isKept, .ref a_lanes, .ref a_lengths, .ref a_cells, .int g_torn, .ref a_had])), (a_state, .inl ((zG Z).2.1 1, 96, .inl g_state))] (again x1 x2 x3 x4 x6 x8 g_isAwake g_state)) (hk166 : ∀ (x3 : Int32) (x4 : Int64) (x6 : Int64) (g_isAwake : Int32) (g_state : (Nat → Int32)), Rn Z 15 (Option.map enc) 0 0 166 [(3, .int x3), (4, .long x4), (6, .long x6)] [] [(a_this, .inr (11, [.ref a_state, .ref a_readPage, .int g_isAwake, .ref a_tape, .int g_taped, .int g_fault, .int g_broken, .int g_brokenAt, .int g_spot, .int g_here, .int g_token, .int g_value, .ref a_letters, .int g_hasPlaces, .int g_highest, .ref a_sums, .ref a_aside, .ref a_groups, .ref a_sides, .int g_laid, .int g_groupMany, .int g_isDrawn, .ref a_names, .ref a_firstNames, .ref a_isKept, .ref a_lanes, .ref a_lengths, .ref a_cells, .int g_torn, .ref a_had])), (a_state, .inl ((zG Z).2.1 1, 96, .inl g_state))] (k166 x3 x4 x6 g_isAwake g_state)) (x1 : Int32) (x2 : Int32) (x3 : Int32) (x6 : Int64) (x8 : Int32) (x9 : Int64) (x11 : Int64) (x13 : Int64) (s0 : Int64) (g_isAwake : Int32) (g_state : (Nat → Int32)), Rn Z 15 (Option.map enc) 0 0 129 [(0, .ref a_this), (1, .int x1), (2, .int x2), (3, .int x3), (6, .long x6), (8, .int x8), (9, .long x9), (11, .long x11), (13, .long x13)] [.long s0] [(a_this, .inr (11, [.ref a_state, .ref a_readPage, .int g_isAwake, .ref a_tape, .int g_taped, .int g_fault, .int g_broken, .int g_brokenAt, .int g_spot, .int g_here, .int g_token, .int g_value, .ref a_letters, .int g_hasPlaces, .int g_highest, .ref a_sums, .ref a_aside, .ref a_groups, .ref a_sides, .int g_laid, .int g_groupMany, .int g_isDrawn, .ref a_names, .ref a_firstNames, .ref a_isKept, .ref a_lanes, .ref a_lengths, .ref a_cells, .int g_torn, .ref a_had])), (a_state, .inl ((zG Z).2.1 1, 96, .inl g_state))] (X11_ends_J129 again k166 x1 x2 x3 x6 x8 x9 x11 x13 s0 g_isAwake g_state) := by
    intro again k166 hagain hk166 x1 x2 x3 x6 x8 x9 x11 x13 s0 g_isAwake g_state
    unfold X11_ends_J129
    refine rn_lstore hX dX11_ends_129 (by decide) (L' := [(4, .long s0), (0, .ref a_this), (1, .int x1), (2, .int x2), (3, .int x3), (6, .long x6), (8, .int x8), (9, .long x9), (11, .long x11), (13, .long x13)]) rfl 131 rfl ?_
    refine rn_lload hX dX11_ends_131 7 rfl 133 rfl ?_
    refine rn_lload hX dX11_ends_133 8 rfl 135 rfl ?_
    refine rn_ladd hX dX11_ends_135 136 rfl ?_
    refine rn_lload hX dX11_ends_136 9 rfl 138 rfl ?_
    refine rn_ladd hX dX11_ends_138 139 rfl ?_
    refine rn_lload hX dX11_ends_139 5 rfl 141 rfl ?_
    refine rn_lcmp_ge hX dX11_ends_141 142 rfl dX11_ends_142 156 (by decide) 145 rfl ?_ ?_
    · refine rn_lload hX dX11_ends_156 5 rfl 158 rfl ?_
      refine rn_sub [1, 2, 3, 4, 0, 6] rfl ?_
      exact (hJ158 _ _ hagain hk166) x1 x2 x3 s0 x8 x6 g_isAwake g_state
    refine rn_lload hX dX11_ends_145 7 rfl 147 rfl ?_
    refine rn_lload hX dX11_ends_147 8 rfl 149 rfl ?_
    refine rn_ladd hX dX11_ends_149 150 rfl ?_
    refine rn_lload hX dX11_ends_150 9 rfl 152 rfl ?_
    refine rn_ladd hX dX11_ends_152 153 rfl ?_
    refine rn_goto hX dX11_ends_153 158 (by decide) ?_
    refine rn_sub [1, 2, 3, 4, 0, 6] rfl ?_
    exact (hJ158 _ _ hagain hk166) x1 x2 x3 s0 x8 ((x9 + x11) + x13) g_isAwake g_state
  have hB32 : ∀ (again : Int32 → Int32 → Int32 → Int64 → Int64 → Int32 → Int32 → (Nat → Int32) → Option (Int32 × Int32 × (Nat → Int32))) (k166 : Int32 → Int64 → Int64 → Int32 → (Nat → Int32) → Option (Int32 × Int32 × (Nat → Int32))) (hagain : ∀ (x1 : Int32) (x2 : Int32) (x3 : Int32) (x4 : Int64) (x6 : Int64) (x8 : Int32) (g_isAwake : Int32) (g_state : (Nat → Int32)), Rn Z 15 (Option.map enc) 0 0 32 [(0, .ref a_this), (1, .int x1), (2, .int x2), (3, .int x3), (4, .long x4), (6, .long x6), (8, .int x8)] [] [(a_this, .inr (11, [.ref a_state, .ref a_readPage, .int g_isAwake, .ref a_tape, .int g_taped, .int g_fault, .int g_broken, .int g_brokenAt, .int g_spot, .int g_here, .int g_token, .int g_value, .ref a_letters, .int g_hasPlaces, .int g_highest, .ref a_sums, .ref a_aside, .ref a_groups, .ref a_sides, .int g_laid, .int g_groupMany, .int g_isDrawn, .ref a_names, .ref a_firstNames, .ref a_isKept, .ref a_lanes, .ref a_lengths, .ref a_cells, .int g_torn, .ref a_had])), (a_state, .inl ((zG Z).2.1 1, 96, .inl g_state))] (again x1 x2 x3 x4 x6 x8 g_isAwake g_state)) (hk166 : ∀ (x3 : Int32) (x4 : Int64) (x6 : Int64) (g_isAwake : Int32) (g_state : (Nat → Int32)), Rn Z 15 (Option.map enc) 0 0 166 [(3, .int x3), (4, .long x4), (6, .long x6)] [] [(a_this, .inr (11, [.ref a_state, .ref a_readPage, .int g_isAwake, .ref a_tape, .int g_taped, .int g_fault, .int g_broken, .int g_brokenAt, .int g_spot, .int g_here, .int g_token, .int g_value, .ref a_letters, .int g_hasPlaces, .int g_highest, .ref a_sums, .ref a_aside, .ref a_groups, .ref a_sides, .int g_laid, .int g_groupMany, .int g_isDrawn, .ref a_names, .ref a_firstNames, .ref a_isKept, .ref a_lanes, .ref a_lengths, .ref a_cells, .int g_torn, .ref a_had])), (a_state, .inl ((zG Z).2.1 1, 96, .inl g_state))] (k166 x3 x4 x6 g_isAwake g_state)) (x1 : Int32) (x2 : Int32) (x3 : Int32) (x4 : Int64) (x6 : Int64) (x8 : Int32) (g_isAwake : Int32) (g_state : (Nat → Int32)), Rn Z 15 (Option.map enc) 0 0 32 [(0, .ref a_this), (1, .int x1), (2, .int x2), (3, .int x3), (4, .long x4), (6, .long x6), (8, .int x8)] [] [(a_this, .inr (11, [.ref a_state, .ref a_readPage, .int g_isAwake, .ref a_tape, .int g_taped, .int g_fault, .int g_broken, .int g_brokenAt, .int g_spot, .int g_here, .int g_token, .int g_value, .ref a_letters, .int g_hasPlaces, .int g_highest, .ref a_sums, .ref a_aside, .ref a_groups, .ref a_sides, .int g_laid, .int g_groupMany, .int g_isDrawn, .ref a_names, .ref a_firstNames, .ref a_isKept, .ref a_lanes, .ref a_lengths, .ref a_cells, .int g_torn, .ref a_had])), (a_state, .inl ((zG Z).2.1 1, 96, .inl g_state))] (X11_ends_B32 again k166 x1 x2 x3 x4 x6 x8 g_isAwake g_state) := by
    intro again k166 hagain hk166 x1 x2 x3 x4 x6 x8 g_isAwake g_state
    unfold X11_ends_B32
    refine rn_iload hX dX11_ends_32 6 rfl 34 rfl ?_
    refine rn_aload_n hX dX11_ends_34 0 rfl 35 rfl ?_
    refine rn_get hX inX11 0 rfl rfl 0 (by decide) fl7 rfl rfl dX11_ends_35 38 rfl ?_
    refine rn_bipush hX dX11_ends_38 40 rfl bp_21 ?_
    refine rn_ialdk hX 1 rfl cl_21 (vpk (by decide)) dX11_ends_40 41 rfl ?_
    refine rn_icmp_ge hX dX11_ends_41 166 (by decide) 44 rfl ?_ ?_
    · refine rn_sub [3, 4, 5] rfl ?_
      exact hk166 x3 x4 x6 g_isAwake g_state
    refine rn_aload_n hX dX11_ends_44 0 rfl 45 rfl ?_
    refine rn_iload_n hX dX11_ends_45 1 rfl 46 rfl ?_
    refine rn_iload hX dX11_ends_46 6 rfl 48 rfl ?_
    refine rn_bind (fun u2 hu2 => ?_)
    refine rn_callV0 hX (gV mcC wd_1156 wd_1158 wd_36 wd_81 wd_1159) rfl hdV_X11_sq rfl rfl ⟨Nat.le_of_ble_eq_true rfl, Nat.le_of_ble_eq_true rfl⟩ (c_X11_sq (zl Z) (zG Z) a_this a_state a_readPage a_tape a_letters a_sums a_aside a_groups a_sides a_names a_firstNames a_isKept a_lanes a_lengths a_cells a_had g_isAwake g_taped g_fault g_broken g_brokenAt g_spot g_here g_token g_value g_hasPlaces g_highest g_laid g_groupMany g_isDrawn g_torn g_state x1 x8 hu2) rfl [0, 1] rfl rfl (ci := 11) rfl rfl rfl (Nat.le_of_ble_eq_true rfl) dX11_ends_48 51 rfl (S' := [.long u2]) rfl ⟨Nat.zero_le _, Nat.zero_le _⟩ ?_
    refine rn_lstore hX dX11_ends_51 (by decide) (L' := [(9, .long u2), (0, .ref a_this), (1, .int x1), (2, .int x2), (3, .int x3), (4, .long x4), (6, .long x6), (8, .int x8)]) rfl 53 rfl ?_
    refine rn_aload_n hX dX11_ends_53 1 rfl 54 rfl ?_
    refine rn_iload_n hX dX11_ends_54 3 rfl 55 rfl ?_
    refine rn_iload hX dX11_ends_55 7 rfl 57 rfl ?_
    refine rn_bind (fun u3 hu3 => ?_)
    refine rn_callV0 hX (gV mcC wd_1156 wd_1158 wd_36 wd_81 wd_1159) rfl hdV_X11_sq rfl rfl ⟨Nat.le_of_ble_eq_true rfl, Nat.le_of_ble_eq_true rfl⟩ (c_X11_sq (zl Z) (zG Z) a_this a_state a_readPage a_tape a_letters a_sums a_aside a_groups a_sides a_names a_firstNames a_isKept a_lanes a_lengths a_cells a_had g_isAwake g_taped g_fault g_broken g_brokenAt g_spot g_here g_token g_value g_hasPlaces g_highest g_laid g_groupMany g_isDrawn g_torn g_state x2 x8 hu3) rfl [0, 1] rfl rfl (ci := 11) rfl rfl rfl (Nat.le_of_ble_eq_true rfl) dX11_ends_57 60 rfl (S' := [.long u3]) rfl ⟨Nat.zero_le _, Nat.zero_le _⟩ ?_
    refine rn_lstore hX dX11_ends_60 (by decide) (L' := [(11, .long u3), (9, .long u2), (0, .ref a_this), (1, .int x1), (2, .int x2), (3, .int x3), (4, .long x4), (6, .long x6), (8, .int x8)]) rfl 62 rfl ?_
    refine rn_iload hX dX11_ends_62 8 rfl 64 rfl ?_
    refine rn_iload_n hX dX11_ends_64 3 rfl 65 rfl ?_
    refine rn_icmp_eq hX dX11_ends_65 160 (by decide) 68 rfl ?_ ?_
    · refine rn_sub [2, 3, 4, 5, 6, 7, 8] rfl ?_
      exact (hJ160 _ _ hagain hk166) x1 x2 x3 x4 x6 x8 g_isAwake g_state
    refine rn_iload hX dX11_ends_68 8 rfl 70 rfl ?_
    refine rn_iload_n hX dX11_ends_70 4 rfl 71 rfl ?_
    refine rn_icmp_eq hX dX11_ends_71 160 (by decide) 74 rfl ?_ ?_
    · refine rn_sub [2, 3, 4, 5, 6, 7, 8] rfl ?_
      exact (hJ160 _ _ hagain hk166) x1 x2 x3 x4 x6 x8 g_isAwake g_state
    refine rn_lload hX dX11_ends_74 1 rfl 76 rfl ?_
    refine rn_lconst hX dX11_ends_76 77 rfl lc_0 ?_
    refine rn_lcmp_le hX dX11_ends_77 78 rfl dX11_ends_78 160 (by decide) 81 rfl ?_ ?_
    · refine rn_sub [2, 3, 4, 5, 6, 7, 8] rfl ?_
      exact (hJ160 _ _ hagain hk166) x1 x2 x3 x4 x6 x8 g_isAwake g_state
    refine rn_lload hX dX11_ends_81 0 rfl 83 rfl ?_
    refine rn_lconst hX dX11_ends_83 84 rfl lc_0 ?_
    refine rn_lcmp_le hX dX11_ends_84 85 rfl dX11_ends_85 160 (by decide) 88 rfl ?_ ?_
    · refine rn_sub [2, 3, 4, 5, 6, 7, 8] rfl ?_
      exact (hJ160 _ _ hagain hk166) x1 x2 x3 x4 x6 x8 g_isAwake g_state
    refine rn_ldc2 hX kl162 dX11_ends_88 91 rfl ?_
    refine rn_lload hX dX11_ends_91 1 rfl 93 rfl ?_
    refine rn_lmul hX dX11_ends_93 94 rfl ?_
    refine rn_lload hX dX11_ends_94 0 rfl 96 rfl ?_
    refine rn_lmul hX dX11_ends_96 97 rfl ?_
    refine rn_bind (fun u4 hu4 => ?_)
    refine rn_callS0 hX (gS mcC wd_1311 wd_1312 wd_81 wd_1313) rfl hdS_X11_root rfl rfl ⟨Nat.le_of_ble_eq_true rfl, Nat.le_of_ble_eq_true rfl⟩ (c_X11_root (zl Z) (zG Z) (((4 : Int64) * u2) * u3) hu4) rfl [] rfl rfl rfl (Nat.le_of_ble_eq_true rfl) dX11_ends_97 100 rfl (S' := [.long u4]) rfl ⟨Nat.zero_le _, Nat.zero_le _⟩ ?_
    refine rn_lstore hX dX11_ends_100 (by decide) (L' := [(13, .long u4), (11, .long u3), (9, .long u2), (0, .ref a_this), (1, .int x1), (2, .int x2), (3, .int x3), (4, .long x4), (6, .long x6), (8, .int x8)]) rfl 102 rfl ?_
    refine rn_lload hX dX11_ends_102 2 rfl 104 rfl ?_
    refine rn_lload hX dX11_ends_104 1 rfl 106 rfl ?_
    refine rn_ladd hX dX11_ends_106 107 rfl ?_
    refine rn_lload hX dX11_ends_107 0 rfl 109 rfl ?_
    refine rn_lsub hX dX11_ends_109 110 rfl ?_
    refine rn_lload hX dX11_ends_110 7 rfl 112 rfl ?_
    refine rn_lcmp_le hX dX11_ends_112 113 rfl dX11_ends_113 127 (by decide) 116 rfl ?_ ?_
    · refine rn_lload hX dX11_ends_127 7 rfl 129 rfl ?_
      refine rn_sub [3, 4, 5, 6, 8, 9, 2, 1, 0] rfl ?_
      exact (hJ129 _ _ hagain hk166) x1 x2 x3 x6 x8 u2 u3 u4 x4 g_isAwake g_state
    refine rn_lload hX dX11_ends_116 2 rfl 118 rfl ?_
    refine rn_lload hX dX11_ends_118 1 rfl 120 rfl ?_
    refine rn_ladd hX dX11_ends_120 121 rfl ?_
    refine rn_lload hX dX11_ends_121 0 rfl 123 rfl ?_
    refine rn_lsub hX dX11_ends_123 124 rfl ?_
    refine rn_goto hX dX11_ends_124 129 (by decide) ?_
    refine rn_sub [3, 4, 5, 6, 8, 9, 2, 1, 0] rfl ?_
    exact (hJ129 _ _ hagain hk166) x1 x2 x3 x6 x8 u2 u3 u4 ((u2 + u3) - u4) g_isAwake g_state
  have hL32 : ∀ (k166 : Int32 → Int64 → Int64 → Int32 → (Nat → Int32) → Option (Int32 × Int32 × (Nat → Int32))) (hk166 : ∀ (x3 : Int32) (x4 : Int64) (x6 : Int64) (g_isAwake : Int32) (g_state : (Nat → Int32)), Rn Z 15 (Option.map enc) 0 0 166 [(3, .int x3), (4, .long x4), (6, .long x6)] [] [(a_this, .inr (11, [.ref a_state, .ref a_readPage, .int g_isAwake, .ref a_tape, .int g_taped, .int g_fault, .int g_broken, .int g_brokenAt, .int g_spot, .int g_here, .int g_token, .int g_value, .ref a_letters, .int g_hasPlaces, .int g_highest, .ref a_sums, .ref a_aside, .ref a_groups, .ref a_sides, .int g_laid, .int g_groupMany, .int g_isDrawn, .ref a_names, .ref a_firstNames, .ref a_isKept, .ref a_lanes, .ref a_lengths, .ref a_cells, .int g_torn, .ref a_had])), (a_state, .inl ((zG Z).2.1 1, 96, .inl g_state))] (k166 x3 x4 x6 g_isAwake g_state)) (n : Nat) (x1 : Int32) (x2 : Int32) (x3 : Int32) (x4 : Int64) (x6 : Int64) (x8 : Int32) (g_isAwake : Int32) (g_state : (Nat → Int32)), Rn Z 15 (Option.map enc) 0 0 32 [(0, .ref a_this), (1, .int x1), (2, .int x2), (3, .int x3), (4, .long x4), (6, .long x6), (8, .int x8)] [] [(a_this, .inr (11, [.ref a_state, .ref a_readPage, .int g_isAwake, .ref a_tape, .int g_taped, .int g_fault, .int g_broken, .int g_brokenAt, .int g_spot, .int g_here, .int g_token, .int g_value, .ref a_letters, .int g_hasPlaces, .int g_highest, .ref a_sums, .ref a_aside, .ref a_groups, .ref a_sides, .int g_laid, .int g_groupMany, .int g_isDrawn, .ref a_names, .ref a_firstNames, .ref a_isKept, .ref a_lanes, .ref a_lengths, .ref a_cells, .int g_torn, .ref a_had])), (a_state, .inl ((zG Z).2.1 1, 96, .inl g_state))] (X11_ends_L32 k166 n x1 x2 x3 x4 x6 x8 g_isAwake g_state) := by
    intro k166 hk166 n
    induction n with
    | zero => intros; exact rn_none
    | succ n ih => exact hB32 _ _ ih hk166
  unfold X11_ends
  refine rn_aload_n hX dX11_ends_0 0 rfl 1 rfl ?_
  refine rn_iload_n hX dX11_ends_1 1 rfl 2 rfl ?_
  refine rn_iload_n hX dX11_ends_2 2 rfl 3 rfl ?_
  refine rn_bind (fun u5 hu5 => ?_)
  refine rn_callV hX (gV mcC wd_1144 wd_1146 wd_33 wd_81 wd_1147) rfl hdV_X11_areTwo rfl rfl ⟨Nat.le_of_ble_eq_true rfl, Nat.le_of_ble_eq_true rfl⟩ (c_X11_areTwo (zl Z) (zG Z) a_this a_state a_readPage a_tape a_letters a_sums a_aside a_groups a_sides a_names a_firstNames a_isKept a_lanes a_lengths a_cells a_had g_isAwake g_taped g_fault g_broken g_brokenAt g_spot g_here g_token g_value g_hasPlaces g_highest g_laid g_groupMany g_isDrawn g_torn g_state x1 x2 hu5) rfl [0, 1] rfl rfl rfl (ci := 11) rfl rfl rfl (Nat.le_of_ble_eq_true rfl) dX11_ends_3 6 rfl (wn := [(a_this, .inr (11, [.ref a_state, .ref a_readPage, .int u5.2.1, .ref a_tape, .int g_taped, .int g_fault, .int g_broken, .int g_brokenAt, .int g_spot, .int g_here, .int g_token, .int g_value, .ref a_letters, .int g_hasPlaces, .int g_highest, .ref a_sums, .ref a_aside, .ref a_groups, .ref a_sides, .int g_laid, .int g_groupMany, .int g_isDrawn, .ref a_names, .ref a_firstNames, .ref a_isKept, .ref a_lanes, .ref a_lengths, .ref a_cells, .int g_torn, .ref a_had])), (a_state, .inl ((zG Z).2.1 1, 96, .inl u5.2.2))]) rfl (S' := [.int u5.1]) rfl ⟨Nat.zero_le _, Nat.zero_le _⟩ ?_
  refine rn_if_eq hX dX11_ends_6 19 (by decide) 9 rfl ?_ ?_
  · refine rn_iconst hX dX11_ends_19 20 rfl ic_m1 ?_
    exact rn_iret hX hr (by rw [henc]; rfl) dX11_ends_20
  refine rn_iload_n hX dX11_ends_9 3 rfl 10 rfl ?_
  refine rn_i2l hX dX11_ends_10 11 rfl ?_
  refine rn_lconst hX dX11_ends_11 12 rfl lc_0 ?_
  refine rn_lconst hX dX11_ends_12 13 rfl lc_1 ?_
  refine rn_callS0 hX (gS mcC wd_1090 wd_1091 wd_81 wd_1092) rfl hdS_X11_in rfl rfl ⟨Nat.le_of_ble_eq_true rfl, Nat.le_of_ble_eq_true rfl⟩ (c_X11_in (zl Z) (zG Z) x3.toInt64 (0 : Int64) (1 : Int64) rfl) rfl [] rfl rfl rfl (Nat.le_of_ble_eq_true rfl) dX11_ends_13 16 rfl (S' := [.int (X11_in x3.toInt64 (0 : Int64) (1 : Int64))]) rfl ⟨Nat.zero_le _, Nat.zero_le _⟩ ?_
  refine rn_if_ne hX dX11_ends_16 21 (by decide) 19 rfl ?_ ?_
  · refine rn_lconst hX dX11_ends_21 22 rfl lc_0 ?_
    refine rn_lstore hX dX11_ends_22 (by decide) (L' := [(4, .long (0 : Int64)), (0, .ref a_this), (1, .int x1), (2, .int x2), (3, .int x3)]) rfl 24 rfl ?_
    refine rn_ldc2 hX kl245 dX11_ends_24 27 rfl ?_
    refine rn_lstore hX dX11_ends_27 (by decide) (L' := [(6, .long (99999 : Int64)), (4, .long (0 : Int64)), (0, .ref a_this), (1, .int x1), (2, .int x2), (3, .int x3)]) rfl 29 rfl ?_
    refine rn_iconst hX dX11_ends_29 30 rfl ic_0 ?_
    refine rn_istore hX dX11_ends_30 (by decide) (L' := [(8, .int (0 : Int32)), (6, .long (99999 : Int64)), (4, .long (0 : Int64)), (0, .ref a_this), (1, .int x1), (2, .int x2), (3, .int x3)]) rfl 32 rfl ?_
    refine rn_sub [3, 4, 5, 6, 2, 1, 0] rfl ?_
    exact (hL32 _ hJ166 1000) x1 x2 x3 (0 : Int64) (99999 : Int64) (0 : Int32) u5.2.1 u5.2.2
  refine rn_iconst hX dX11_ends_19 20 rfl ic_m1 ?_
  exact rn_iret hX hr (by rw [henc]; rfl) dX11_ends_20
abbrev rmX11_isLaid : Room := { frames := 0, cells := 0, slots := 0, locals := 0 }
theorem hdV_X11_isLaid : yX11_isLaid.cls = RX11 ∧ yX11_isLaid.cls ≠ "java/lang/invoke/MethodHandle" ∧ yX11_isLaid.cls ≠ "java/lang/invoke/VarHandle" ∧ (parseMethodDescriptor yX11_isLaid.desc).map (fun d => d.parameters.length) = some 1 := by decide +kernel
set_option maxHeartbeats 4000000 in
set_option maxRecDepth 100000 in
theorem c_X11_isLaid (l : Launch) (G : GT) (a_this a_state a_readPage a_tape a_letters a_sums a_aside a_groups a_sides a_names a_firstNames a_isKept a_lanes a_lengths a_cells a_had : Nat) (g_isAwake : Int32) (g_taped : Int32) (g_fault : Int32) (g_broken : Int32) (g_brokenAt : Int32) (g_spot : Int32) (g_here : Int32) (g_token : Int32) (g_value : Int32) (g_hasPlaces : Int32) (g_highest : Int32) (g_laid : Int32) (g_groupMany : Int32) (g_isDrawn : Int32) (g_torn : Int32) (x1 : Int32) {u : Int32} (hu : X11_isLaid x1 g_laid = u) : Ctr l G yX11_isLaid wsX11_isLaid rmX11_isLaid [.ref a_this, .int x1] [(a_this, .inr (11, [.ref a_state, .ref a_readPage, .int g_isAwake, .ref a_tape, .int g_taped, .int g_fault, .int g_broken, .int g_brokenAt, .int g_spot, .int g_here, .int g_token, .int g_value, .ref a_letters, .int g_hasPlaces, .int g_highest, .ref a_sums, .ref a_aside, .ref a_groups, .ref a_sides, .int g_laid, .int g_groupMany, .int g_isDrawn, .ref a_names, .ref a_firstNames, .ref a_isKept, .ref a_lanes, .ref a_lengths, .ref a_cells, .int g_torn, .ref a_had]))] (some (.int u)) [(a_this, .inr (11, [.ref a_state, .ref a_readPage, .int g_isAwake, .ref a_tape, .int g_taped, .int g_fault, .int g_broken, .int g_brokenAt, .int g_spot, .int g_here, .int g_token, .int g_value, .ref a_letters, .int g_hasPlaces, .int g_highest, .ref a_sums, .ref a_aside, .ref a_groups, .ref a_sides, .int g_laid, .int g_groupMany, .int g_isDrawn, .ref a_names, .ref a_firstNames, .ref a_isKept, .ref a_lanes, .ref a_lengths, .ref a_cells, .int g_torn, .ref a_had]))] := by
  obtain ⟨enc, henc⟩ : ∃ enc : (Int32) → Option Value × va_W, enc = fun u => (((some (.int u)) : Option Value), ([(a_this, .inr (11, [.ref a_state, .ref a_readPage, .int g_isAwake, .ref a_tape, .int g_taped, .int g_fault, .int g_broken, .int g_brokenAt, .int g_spot, .int g_here, .int g_token, .int g_value, .ref a_letters, .int g_hasPlaces, .int g_highest, .ref a_sums, .ref a_aside, .ref a_groups, .ref a_sides, .int g_laid, .int g_groupMany, .int g_isDrawn, .ref a_names, .ref a_firstNames, .ref a_isKept, .ref a_lanes, .ref a_lengths, .ref a_cells, .int g_torn, .ref a_had]))] : va_W)) := ⟨_, rfl⟩
  refine ctr_of (cc := cX11_isLaid) (own := RX11) (E := fun o => some (enc o)) (o := X11_isLaid x1 g_laid) (by decide) rfl rfl (L := [(0, .ref a_this), (1, .int x1)]) rfl (Nat.le_of_ble_eq_true rfl) (by rw [hu, henc]) ?_
  intro Z hX hl hG hr
  subst hl; subst hG
  have fl247 : (Cond.fieldLink RX11 247 "OnlyFarModel" "laid" "I").before (za Z) (zs Z) = true := hX.wd (mcC _ wd_1009)
  have inX11 : ∀ w ∈ u_ws RX11 TX11 30, w ∈ wsX11_isLaid := fun w h => mcC w (inC_X11 w h)
  unfold X11_isLaid
  refine rn_aload_n hX dX11_isLaid_0 0 rfl 1 rfl ?_
  refine rn_get hX inX11 0 rfl rfl 19 (by decide) fl247 rfl rfl dX11_isLaid_1 4 rfl ?_
  refine rn_iload_n hX dX11_isLaid_4 1 rfl 5 rfl ?_
  refine rn_ishr hX dX11_isLaid_5 6 rfl ?_
  refine rn_iconst hX dX11_isLaid_6 7 rfl ic_1 ?_
  refine rn_iand hX dX11_isLaid_7 8 rfl ?_
  refine rn_iconst hX dX11_isLaid_8 9 rfl ic_1 ?_
  refine rn_icmp_ne hX dX11_isLaid_9 16 (by decide) 12 rfl ?_ ?_
  · refine rn_iconst hX dX11_isLaid_16 17 rfl ic_0 ?_
    exact rn_zret hX rfl hr (by rw [henc]) dX11_isLaid_17
  refine rn_iconst hX dX11_isLaid_12 13 rfl ic_1 ?_
  refine rn_goto hX dX11_isLaid_13 17 (by decide) ?_
  exact rn_zret hX rfl hr (by rw [henc]) dX11_isLaid_17
abbrev rmX11_relation : Room := { frames := 4, cells := 0, slots := 0, locals := 92 }
theorem hdV_X11_relation : yX11_relation.cls = RX11 ∧ yX11_relation.cls ≠ "java/lang/invoke/MethodHandle" ∧ yX11_relation.cls ≠ "java/lang/invoke/VarHandle" ∧ (parseMethodDescriptor yX11_relation.desc).map (fun d => d.parameters.length) = some 4 := by decide +kernel
set_option maxHeartbeats 4000000 in
set_option maxRecDepth 100000 in
theorem c_X11_relation (l : Launch) (G : GT) (a_this a_state a_readPage a_tape a_letters a_sums a_aside a_groups a_sides a_names a_firstNames a_isKept a_lanes a_lengths a_cells a_had : Nat) (g_isAwake : Int32) (g_taped : Int32) (g_fault : Int32) (g_broken : Int32) (g_brokenAt : Int32) (g_spot : Int32) (g_here : Int32) (g_token : Int32) (g_value : Int32) (g_hasPlaces : Int32) (g_highest : Int32) (g_laid : Int32) (g_groupMany : Int32) (g_isDrawn : Int32) (g_torn : Int32) (g_state : (Nat → Int32)) (x1 : Int32) (x2 : Int32) (x3 : Int32) (x4 : Int32) {u : Int32} (hu : X11_relation x1 x2 x3 x4 g_state = some u) : Ctr l G yX11_relation wsX11_relation rmX11_relation [.ref a_this, .int x1, .int x2, .int x3, .int x4] [(a_this, .inr (11, [.ref a_state, .ref a_readPage, .int g_isAwake, .ref a_tape, .int g_taped, .int g_fault, .int g_broken, .int g_brokenAt, .int g_spot, .int g_here, .int g_token, .int g_value, .ref a_letters, .int g_hasPlaces, .int g_highest, .ref a_sums, .ref a_aside, .ref a_groups, .ref a_sides, .int g_laid, .int g_groupMany, .int g_isDrawn, .ref a_names, .ref a_firstNames, .ref a_isKept, .ref a_lanes, .ref a_lengths, .ref a_cells, .int g_torn, .ref a_had])), (a_state, .inl (G.2.1 1, 96, .inl g_state))] (some (.int u)) [(a_this, .inr (11, [.ref a_state, .ref a_readPage, .int g_isAwake, .ref a_tape, .int g_taped, .int g_fault, .int g_broken, .int g_brokenAt, .int g_spot, .int g_here, .int g_token, .int g_value, .ref a_letters, .int g_hasPlaces, .int g_highest, .ref a_sums, .ref a_aside, .ref a_groups, .ref a_sides, .int g_laid, .int g_groupMany, .int g_isDrawn, .ref a_names, .ref a_firstNames, .ref a_isKept, .ref a_lanes, .ref a_lengths, .ref a_cells, .int g_torn, .ref a_had])), (a_state, .inl (G.2.1 1, 96, .inl g_state))] := by
  obtain ⟨enc, henc⟩ : ∃ enc : (Int32) → Option Value × va_W, enc = fun u => (((some (.int u)) : Option Value), ([(a_this, .inr (11, [.ref a_state, .ref a_readPage, .int g_isAwake, .ref a_tape, .int g_taped, .int g_fault, .int g_broken, .int g_brokenAt, .int g_spot, .int g_here, .int g_token, .int g_value, .ref a_letters, .int g_hasPlaces, .int g_highest, .ref a_sums, .ref a_aside, .ref a_groups, .ref a_sides, .int g_laid, .int g_groupMany, .int g_isDrawn, .ref a_names, .ref a_firstNames, .ref a_isKept, .ref a_lanes, .ref a_lengths, .ref a_cells, .int g_torn, .ref a_had])), (a_state, .inl (G.2.1 1, 96, .inl g_state))] : va_W)) := ⟨_, rfl⟩
  refine ctr_of (cc := cX11_relation) (own := RX11) (E := Option.map enc) (o := X11_relation x1 x2 x3 x4 g_state) (by decide) rfl rfl (L := [(0, .ref a_this), (1, .int x1), (2, .int x2), (3, .int x3), (4, .int x4)]) rfl (Nat.le_of_ble_eq_true rfl) (by rw [hu, henc]; rfl) ?_
  intro Z hX hl hG hr
  subst hl; subst hG
  have kl179 : (Cond.constantLong RX11 179 (2)).before (za Z) (zs Z) = true := hX.wd (mcC _ wd_1219)
  unfold X11_relation
  refine rn_ldc2 hX kl179 dX11_relation_0 3 rfl ?_
  refine rn_aload_n hX dX11_relation_3 0 rfl 4 rfl ?_
  refine rn_iload_n hX dX11_relation_4 1 rfl 5 rfl ?_
  refine rn_iload_n hX dX11_relation_5 2 rfl 6 rfl ?_
  refine rn_bind (fun u1 hu1 => ?_)
  refine rn_callV0 hX (gV mcC wd_1156 wd_1158 wd_36 wd_81 wd_1159) rfl hdV_X11_sq rfl rfl ⟨Nat.le_of_ble_eq_true rfl, Nat.le_of_ble_eq_true rfl⟩ (c_X11_sq (zl Z) (zG Z) a_this a_state a_readPage a_tape a_letters a_sums a_aside a_groups a_sides a_names a_firstNames a_isKept a_lanes a_lengths a_cells a_had g_isAwake g_taped g_fault g_broken g_brokenAt g_spot g_here g_token g_value g_hasPlaces g_highest g_laid g_groupMany g_isDrawn g_torn g_state x1 x2 hu1) rfl [0, 1] rfl rfl (ci := 11) rfl rfl rfl (Nat.le_of_ble_eq_true rfl) dX11_relation_6 9 rfl (S' := [.long u1, .long (2 : Int64)]) rfl ⟨Nat.zero_le _, Nat.zero_le _⟩ ?_
  refine rn_lmul hX dX11_relation_9 10 rfl ?_
  refine rn_aload_n hX dX11_relation_10 0 rfl 11 rfl ?_
  refine rn_iload_n hX dX11_relation_11 3 rfl 12 rfl ?_
  refine rn_iload hX dX11_relation_12 4 rfl 14 rfl ?_
  refine rn_bind (fun u2 hu2 => ?_)
  refine rn_callV0 hX (gV mcC wd_1156 wd_1158 wd_36 wd_81 wd_1159) rfl hdV_X11_sq rfl rfl ⟨Nat.le_of_ble_eq_true rfl, Nat.le_of_ble_eq_true rfl⟩ (c_X11_sq (zl Z) (zG Z) a_this a_state a_readPage a_tape a_letters a_sums a_aside a_groups a_sides a_names a_firstNames a_isKept a_lanes a_lengths a_cells a_had g_isAwake g_taped g_fault g_broken g_brokenAt g_spot g_here g_token g_value g_hasPlaces g_highest g_laid g_groupMany g_isDrawn g_torn g_state x3 x4 hu2) rfl [0, 1] rfl rfl (ci := 11) rfl rfl rfl (Nat.le_of_ble_eq_true rfl) dX11_relation_14 17 rfl (S' := [.long u2, .long ((2 : Int64) * u1)]) rfl ⟨Nat.zero_le _, Nat.zero_le _⟩ ?_
  refine rn_lmul hX dX11_relation_17 18 rfl ?_
  refine rn_aload_n hX dX11_relation_18 0 rfl 19 rfl ?_
  refine rn_iload_n hX dX11_relation_19 3 rfl 20 rfl ?_
  refine rn_iload hX dX11_relation_20 4 rfl 22 rfl ?_
  refine rn_iload_n hX dX11_relation_22 1 rfl 23 rfl ?_
  refine rn_iload_n hX dX11_relation_23 2 rfl 24 rfl ?_
  refine rn_bind (fun u3 hu3 => ?_)
  refine rn_callV0 hX (gV mcC wd_1303 wd_1305 wd_54 wd_81 wd_1306) rfl hdV_X11_across rfl rfl ⟨Nat.le_of_ble_eq_true rfl, Nat.le_of_ble_eq_true rfl⟩ (c_X11_across (zl Z) (zG Z) a_this a_state a_readPage a_tape a_letters a_sums a_aside a_groups a_sides a_names a_firstNames a_isKept a_lanes a_lengths a_cells a_had g_isAwake g_taped g_fault g_broken g_brokenAt g_spot g_here g_token g_value g_hasPlaces g_highest g_laid g_groupMany g_isDrawn g_torn g_state x3 x4 x1 x2 hu3) rfl [0, 1] rfl rfl (ci := 11) rfl rfl rfl (Nat.le_of_ble_eq_true rfl) dX11_relation_24 27 rfl (S' := [.long u3, .long (((2 : Int64) * u1) * u2)]) rfl ⟨Nat.zero_le _, Nat.zero_le _⟩ ?_
  refine rn_lsub hX dX11_relation_27 28 rfl ?_
  refine rn_latl (fun v4 => ?_)
  refine rn_lstore hX dX11_relation_28 (by decide) (L' := [(5, .long v4), (0, .ref a_this), (1, .int x1), (2, .int x2), (3, .int x3), (4, .int x4)]) rfl 30 rfl ?_
  refine rn_lload hX dX11_relation_30 0 rfl 32 rfl ?_
  refine rn_lload hX dX11_relation_32 0 rfl 34 rfl ?_
  refine rn_lmul hX dX11_relation_34 35 rfl ?_
  refine rn_aload_n hX dX11_relation_35 1 rfl 36 rfl ?_
  refine rn_iload_n hX dX11_relation_36 4 rfl 37 rfl ?_
  refine rn_iload hX dX11_relation_37 5 rfl 39 rfl ?_
  refine rn_iload_n hX dX11_relation_39 2 rfl 40 rfl ?_
  refine rn_iload_n hX dX11_relation_40 3 rfl 41 rfl ?_
  refine rn_bind (fun u5 hu5 => ?_)
  refine rn_callV0 hX (gV mcC wd_1307 wd_1309 wd_55 wd_81 wd_1310) rfl hdV_X11_under rfl rfl ⟨Nat.le_of_ble_eq_true rfl, Nat.le_of_ble_eq_true rfl⟩ (c_X11_under (zl Z) (zG Z) a_this a_state a_readPage a_tape a_letters a_sums a_aside a_groups a_sides a_names a_firstNames a_isKept a_lanes a_lengths a_cells a_had g_isAwake g_taped g_fault g_broken g_brokenAt g_spot g_here g_token g_value g_hasPlaces g_highest g_laid g_groupMany g_isDrawn g_torn g_state x3 x4 x1 x2 hu5) rfl [0, 1] rfl rfl (ci := 11) rfl rfl rfl (Nat.le_of_ble_eq_true rfl) dX11_relation_41 44 rfl (S' := [.long u5, .long (v4 * v4)]) rfl ⟨Nat.zero_le _, Nat.zero_le _⟩ ?_
  refine rn_lcmp_eq hX dX11_relation_44 45 rfl dX11_relation_45 50 (by decide) 48 rfl ?_ ?_
  · refine rn_lload hX dX11_relation_50 0 rfl 52 rfl ?_
    refine rn_callS0 hX (gS mcC wd_1261 wd_1262 wd_81 wd_1263) rfl hdS_X11_signOf rfl rfl ⟨Nat.le_of_ble_eq_true rfl, Nat.le_of_ble_eq_true rfl⟩ (c_X11_signOf (zl Z) (zG Z) v4 rfl) rfl [] rfl rfl rfl (Nat.le_of_ble_eq_true rfl) dX11_relation_52 55 rfl (S' := [.int (X11_signOf v4)]) rfl ⟨Nat.zero_le _, Nat.zero_le _⟩ ?_
    refine rn_ineg hX dX11_relation_55 56 rfl ?_
    exact rn_iret hX hr (by rw [henc]; rfl) dX11_relation_56
  refine rn_iconst hX dX11_relation_48 49 rfl ic_2 ?_
  exact rn_iret hX hr (by rw [henc]; rfl) dX11_relation_49
