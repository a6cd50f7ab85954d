abbrev rmX11_spare : Room := { frames := 7, cells := 0, slots := 0, locals := 172 }
theorem hdV_X11_spare : yX11_spare.cls = RX11 ∧ yX11_spare.cls ≠ "java/lang/invoke/MethodHandle" ∧ yX11_spare.cls ≠ "java/lang/invoke/VarHandle" ∧ (parseMethodDescriptor yX11_spare.desc).map (fun d => d.parameters.length) = some 4 := by decide +kernel
set_option maxHeartbeats 4000000 in
set_option maxRecDepth 100000 in
theorem c_X11_spare (l : Launch) (G : GT) (a_this a_groups a_sides a_state a_readPage a_tape a_letters a_sums a_aside a_names a_firstNames a_isKept a_lanes a_lengths a_cells a_had : Nat) (g_isAwake : Int32) (g_taped : Int32) (g_fault : Int32) (g_broken : Int32) (g_brokenAt : Int32) (g_spot : Int32) (g_here : Int32) (g_token : Int32) (g_value : Int32) (g_hasPlaces : Int32) (g_highest : Int32) (g_laid : Int32) (g_groupMany : Int32) (g_isDrawn : Int32) (g_torn : Int32) (g_groups : (Nat → Int32)) (g_sides : (Nat → Int32)) (g_state : (Nat → Int32)) (x1 : Int32) (x2 : Int32) (x3 : Int32) (x4 : Int32) {u : Int32 × Int32 × Int32 × Int32 × Int32 × (Nat → Int32) × (Nat → Int32) × (Nat → Int32)} (hu : X11_spare x1 x2 x3 x4 g_groupMany g_isAwake g_isDrawn g_laid g_groups g_sides g_state = some u) : Ctr l G yX11_spare wsX11_spare rmX11_spare [.ref a_this, .int x1, .int x2, .int x3, .int x4] [(a_this, .inr (11, [.ref a_state, .ref a_readPage, .int g_isAwake, .ref a_tape, .int g_taped, .int g_fault, .int g_broken, .int g_brokenAt, .int g_spot, .int g_here, .int g_token, .int g_value, .ref a_letters, .int g_hasPlaces, .int g_highest, .ref a_sums, .ref a_aside, .ref a_groups, .ref a_sides, .int g_laid, .int g_groupMany, .int g_isDrawn, .ref a_names, .ref a_firstNames, .ref a_isKept, .ref a_lanes, .ref a_lengths, .ref a_cells, .int g_torn, .ref a_had])), (a_groups, .inl (G.2.1 1, 7, .inl g_groups)), (a_sides, .inl (G.2.1 1, 7, .inl g_sides)), (a_state, .inl (G.2.1 1, 96, .inl g_state))] (some (.int u.1)) [(a_this, .inr (11, [.ref a_state, .ref a_readPage, .int u.2.2.1, .ref a_tape, .int g_taped, .int g_fault, .int g_broken, .int g_brokenAt, .int g_spot, .int g_here, .int g_token, .int g_value, .ref a_letters, .int g_hasPlaces, .int g_highest, .ref a_sums, .ref a_aside, .ref a_groups, .ref a_sides, .int u.2.2.2.2.1, .int u.2.1, .int u.2.2.2.1, .ref a_names, .ref a_firstNames, .ref a_isKept, .ref a_lanes, .ref a_lengths, .ref a_cells, .int g_torn, .ref a_had])), (a_groups, .inl (G.2.1 1, 7, .inl u.2.2.2.2.2.1)), (a_sides, .inl (G.2.1 1, 7, .inl u.2.2.2.2.2.2.1)), (a_state, .inl (G.2.1 1, 96, .inl u.2.2.2.2.2.2.2))] := by
  obtain ⟨enc, henc⟩ : ∃ enc : (Int32 × Int32 × Int32 × Int32 × Int32 × (Nat → Int32) × (Nat → Int32) × (Nat → Int32)) → Option Value × va_W, enc = fun u => (((some (.int u.1)) : Option Value), ([(a_this, .inr (11, [.ref a_state, .ref a_readPage, .int u.2.2.1, .ref a_tape, .int g_taped, .int g_fault, .int g_broken, .int g_brokenAt, .int g_spot, .int g_here, .int g_token, .int g_value, .ref a_letters, .int g_hasPlaces, .int g_highest, .ref a_sums, .ref a_aside, .ref a_groups, .ref a_sides, .int u.2.2.2.2.1, .int u.2.1, .int u.2.2.2.1, .ref a_names, .ref a_firstNames, .ref a_isKept, .ref a_lanes, .ref a_lengths, .ref a_cells, .int g_torn, .ref a_had])), (a_groups, .inl (G.2.1 1, 7, .inl u.2.2.2.2.2.1)), (a_sides, .inl (G.2.1 1, 7, .inl u.2.2.2.2.2.2.1)), (a_state, .inl (G.2.1 1, 96, .inl u.2.2.2.2.2.2.2))] : va_W)) := ⟨_, rfl⟩
  refine ctr_of (cc := cX11_spare) (own := RX11) (E := Option.map enc) (o := X11_spare x1 x2 x3 x4 g_groupMany g_isAwake g_isDrawn g_laid g_groups g_sides g_state) (by decide) rfl rfl (L := [(0, .ref a_this), (1, .int x1), (2, .int x2), (3, .int x3), (4, .int x4)]) rfl (Nat.le_of_ble_eq_true rfl) (by rw [hu, henc]; rfl) ?_
  intro Z hX hl hG hr
  subst hl; subst hG
  have fl7 : (Cond.fieldLink RX11 7 "OnlyFarModel" "state" "[I").before (za Z) (zs Z) = true := hX.wd (mcC _ wd_990)
  have inX11 : ∀ w ∈ u_ws RX11 TX11 30, w ∈ wsX11_spare := fun w h => mcC w (inC_X11 w h)
  unfold X11_spare
  refine rn_aload_n hX dX11_spare_0 0 rfl 1 rfl ?_
  refine rn_iload_n hX dX11_spare_1 1 rfl 2 rfl ?_
  refine rn_iload_n hX dX11_spare_2 2 rfl 3 rfl ?_
  refine rn_bind (fun u1 hu1 => ?_)
  refine rn_callV hX (gV mcC wd_1144 wd_1146 wd_33 wd_81 wd_1147) rfl hdV_X11_areTwo rfl rfl ⟨Nat.le_of_ble_eq_true rfl, Nat.le_of_ble_eq_true rfl⟩ (c_X11_areTwo (zl Z) (zG Z) a_this a_state a_readPage a_tape a_letters a_sums a_aside a_groups a_sides a_names a_firstNames a_isKept a_lanes a_lengths a_cells a_had g_isAwake g_taped g_fault g_broken g_brokenAt g_spot g_here g_token g_value g_hasPlaces g_highest g_laid g_groupMany g_isDrawn g_torn g_state x1 x2 hu1) rfl [0, 3] rfl rfl rfl (ci := 11) rfl rfl rfl (Nat.le_of_ble_eq_true rfl) dX11_spare_3 6 rfl (wn := [(a_this, .inr (11, [.ref a_state, .ref a_readPage, .int u1.2.1, .ref a_tape, .int g_taped, .int g_fault, .int g_broken, .int g_brokenAt, .int g_spot, .int g_here, .int g_token, .int g_value, .ref a_letters, .int g_hasPlaces, .int g_highest, .ref a_sums, .ref a_aside, .ref a_groups, .ref a_sides, .int g_laid, .int g_groupMany, .int g_isDrawn, .ref a_names, .ref a_firstNames, .ref a_isKept, .ref a_lanes, .ref a_lengths, .ref a_cells, .int g_torn, .ref a_had])), (a_groups, .inl ((zG Z).2.1 1, 7, .inl g_groups)), (a_sides, .inl ((zG Z).2.1 1, 7, .inl g_sides)), (a_state, .inl ((zG Z).2.1 1, 96, .inl u1.2.2))]) rfl (S' := [.int u1.1]) rfl ⟨Nat.zero_le _, Nat.zero_le _⟩ ?_
  refine rn_if_eq hX dX11_spare_6 19 (by decide) 9 rfl ?_ ?_
  · refine rn_iconst hX dX11_spare_19 20 rfl ic_m1 ?_
    exact rn_iret hX hr (by rw [henc]; rfl) dX11_spare_20
  refine rn_aload_n hX dX11_spare_9 0 rfl 10 rfl ?_
  refine rn_iload_n hX dX11_spare_10 3 rfl 11 rfl ?_
  refine rn_iload hX dX11_spare_11 4 rfl 13 rfl ?_
  refine rn_bind (fun u2 hu2 => ?_)
  refine rn_callV hX (gV mcC wd_1144 wd_1146 wd_33 wd_81 wd_1147) rfl hdV_X11_areTwo rfl rfl ⟨Nat.le_of_ble_eq_true rfl, Nat.le_of_ble_eq_true rfl⟩ (c_X11_areTwo (zl Z) (zG Z) a_this a_state a_readPage a_tape a_letters a_sums a_aside a_groups a_sides a_names a_firstNames a_isKept a_lanes a_lengths a_cells a_had u1.2.1 g_taped g_fault g_broken g_brokenAt g_spot g_here g_token g_value g_hasPlaces g_highest g_laid g_groupMany g_isDrawn g_torn u1.2.2 x3 x4 hu2) rfl [0, 3] rfl rfl rfl (ci := 11) rfl rfl rfl (Nat.le_of_ble_eq_true rfl) dX11_spare_13 16 rfl (wn := [(a_this, .inr (11, [.ref a_state, .ref a_readPage, .int u2.2.1, .ref a_tape, .int g_taped, .int g_fault, .int g_broken, .int g_brokenAt, .int g_spot, .int g_here, .int g_token, .int g_value, .ref a_letters, .int g_hasPlaces, .int g_highest, .ref a_sums, .ref a_aside, .ref a_groups, .ref a_sides, .int g_laid, .int g_groupMany, .int g_isDrawn, .ref a_names, .ref a_firstNames, .ref a_isKept, .ref a_lanes, .ref a_lengths, .ref a_cells, .int g_torn, .ref a_had])), (a_groups, .inl ((zG Z).2.1 1, 7, .inl g_groups)), (a_sides, .inl ((zG Z).2.1 1, 7, .inl g_sides)), (a_state, .inl ((zG Z).2.1 1, 96, .inl u2.2.2))]) rfl (S' := [.int u2.1]) rfl ⟨Nat.zero_le _, Nat.zero_le _⟩ ?_
  refine rn_if_ne hX dX11_spare_16 21 (by decide) 19 rfl ?_ ?_
  · refine rn_aload_n hX dX11_spare_21 0 rfl 22 rfl ?_
    refine rn_iload_n hX dX11_spare_22 1 rfl 23 rfl ?_
    refine rn_iload_n hX dX11_spare_23 2 rfl 24 rfl ?_
    refine rn_bind (fun u3 hu3 => ?_)
    refine rn_callV0 hX (gV mcC wd_1156 wd_1158 wd_36 wd_81 wd_1159) rfl hdV_X11_sq rfl rfl ⟨Nat.le_of_ble_eq_true rfl, Nat.le_of_ble_eq_true rfl⟩ (c_X11_sq (zl Z) (zG Z) a_this a_state a_readPage a_tape a_letters a_sums a_aside a_groups a_sides a_names a_firstNames a_isKept a_lanes a_lengths a_cells a_had u2.2.1 g_taped g_fault g_broken g_brokenAt g_spot g_here g_token g_value g_hasPlaces g_highest g_laid g_groupMany g_isDrawn g_torn u2.2.2 x1 x2 hu3) rfl [0, 3] rfl rfl (ci := 11) rfl rfl rfl (Nat.le_of_ble_eq_true rfl) dX11_spare_24 27 rfl (S' := [.long u3]) rfl ⟨Nat.zero_le _, Nat.zero_le _⟩ ?_
    refine rn_lconst hX dX11_spare_27 28 rfl lc_0 ?_
    refine rn_lcmp_ne hX dX11_spare_28 29 rfl dX11_spare_29 35 (by decide) 32 rfl ?_ ?_
    · refine rn_aload_n hX dX11_spare_35 0 rfl 36 rfl ?_
      refine rn_iload_n hX dX11_spare_36 1 rfl 37 rfl ?_
      refine rn_iload_n hX dX11_spare_37 2 rfl 38 rfl ?_
      refine rn_bind (fun u4 hu4 => ?_)
      refine rn_callV hX (gV mcC wd_1326 wd_1328 wd_56 wd_81 wd_1329) rfl hdV_X11_layDrawings rfl rfl ⟨Nat.le_of_ble_eq_true rfl, Nat.le_of_ble_eq_true rfl⟩ (c_X11_layDrawings (zl Z) (zG Z) a_this a_groups a_sides a_state a_readPage a_tape a_letters a_sums a_aside a_names a_firstNames a_isKept a_lanes a_lengths a_cells a_had u2.2.1 g_taped g_fault g_broken g_brokenAt g_spot g_here g_token g_value g_hasPlaces g_highest g_laid g_groupMany g_isDrawn g_torn g_groups g_sides u2.2.2 x1 x2 hu4) rfl [0, 1, 2, 3] rfl rfl rfl (ci := 11) rfl rfl rfl (Nat.le_of_ble_eq_true rfl) dX11_spare_38 41 rfl (wn := [(a_this, .inr (11, [.ref a_state, .ref a_readPage, .int u2.2.1, .ref a_tape, .int g_taped, .int g_fault, .int g_broken, .int g_brokenAt, .int g_spot, .int g_here, .int g_token, .int g_value, .ref a_letters, .int g_hasPlaces, .int g_highest, .ref a_sums, .ref a_aside, .ref a_groups, .ref a_sides, .int u4.2.2.1, .int u4.1, .int u4.2.1, .ref a_names, .ref a_firstNames, .ref a_isKept, .ref a_lanes, .ref a_lengths, .ref a_cells, .int g_torn, .ref a_had])), (a_groups, .inl ((zG Z).2.1 1, 7, .inl u4.2.2.2.1)), (a_sides, .inl ((zG Z).2.1 1, 7, .inl u4.2.2.2.2)), (a_state, .inl ((zG Z).2.1 1, 96, .inl u2.2.2))]) rfl (S' := []) rfl ⟨Nat.zero_le _, Nat.zero_le _⟩ ?_
      refine rn_aload_n hX dX11_spare_41 0 rfl 42 rfl ?_
      refine rn_iload_n hX dX11_spare_42 3 rfl 43 rfl ?_
      refine rn_callV0 hX (gV mcC wd_1338 wd_1340 wd_59 wd_81 wd_1341) rfl hdV_X11_isLaid rfl rfl ⟨Nat.le_of_ble_eq_true rfl, Nat.le_of_ble_eq_true rfl⟩ (c_X11_isLaid (zl Z) (zG Z) a_this a_state a_readPage a_tape a_letters a_sums a_aside a_groups a_sides a_names a_firstNames a_isKept a_lanes a_lengths a_cells a_had u2.2.1 g_taped g_fault g_broken g_brokenAt g_spot g_here g_token g_value g_hasPlaces g_highest u4.2.2.1 u4.1 u4.2.1 g_torn x3 rfl) rfl [0] rfl rfl (ci := 11) rfl rfl rfl (Nat.le_of_ble_eq_true rfl) dX11_spare_43 46 rfl (S' := [.int (X11_isLaid x3 u4.2.2.1)]) rfl ⟨Nat.zero_le _, Nat.zero_le _⟩ ?_
      refine rn_if_eq hX dX11_spare_46 70 (by decide) 49 rfl ?_ ?_
      · refine rn_bipush hX dX11_spare_70 72 rfl bp_m4 ?_
        exact rn_iret hX hr (by rw [henc]; rfl) dX11_spare_72
      refine rn_aload_n hX dX11_spare_49 0 rfl 50 rfl ?_
      refine rn_iload hX dX11_spare_50 4 rfl 52 rfl ?_
      refine rn_callV0 hX (gV mcC wd_1338 wd_1340 wd_59 wd_81 wd_1341) rfl hdV_X11_isLaid rfl rfl ⟨Nat.le_of_ble_eq_true rfl, Nat.le_of_ble_eq_true rfl⟩ (c_X11_isLaid (zl Z) (zG Z) a_this a_state a_readPage a_tape a_letters a_sums a_aside a_groups a_sides a_names a_firstNames a_isKept a_lanes a_lengths a_cells a_had u2.2.1 g_taped g_fault g_broken g_brokenAt g_spot g_here g_token g_value g_hasPlaces g_highest u4.2.2.1 u4.1 u4.2.1 g_torn x4 rfl) rfl [0] rfl rfl (ci := 11) rfl rfl rfl (Nat.le_of_ble_eq_true rfl) dX11_spare_52 55 rfl (S' := [.int (X11_isLaid x4 u4.2.2.1)]) rfl ⟨Nat.zero_le _, Nat.zero_le _⟩ ?_
      refine rn_if_eq hX dX11_spare_55 70 (by decide) 58 rfl ?_ ?_
      · refine rn_bipush hX dX11_spare_70 72 rfl bp_m4 ?_
        exact rn_iret hX hr (by rw [henc]; rfl) dX11_spare_72
      refine rn_aload_n hX dX11_spare_58 0 rfl 59 rfl ?_
      refine rn_iload_n hX dX11_spare_59 3 rfl 60 rfl ?_
      refine rn_iload hX dX11_spare_60 4 rfl 62 rfl ?_
      refine rn_bind (fun u5 hu5 => ?_)
      refine rn_callV0 hX (gV mcC wd_1156 wd_1158 wd_36 wd_81 wd_1159) rfl hdV_X11_sq rfl rfl ⟨Nat.le_of_ble_eq_true rfl, Nat.le_of_ble_eq_true rfl⟩ (c_X11_sq (zl Z) (zG Z) a_this a_state a_readPage a_tape a_letters a_sums a_aside a_groups a_sides a_names a_firstNames a_isKept a_lanes a_lengths a_cells a_had u2.2.1 g_taped g_fault g_broken g_brokenAt g_spot g_here g_token g_value g_hasPlaces g_highest u4.2.2.1 u4.1 u4.2.1 g_torn u2.2.2 x3 x4 hu5) rfl [0, 3] rfl rfl (ci := 11) rfl rfl rfl (Nat.le_of_ble_eq_true rfl) dX11_spare_62 65 rfl (S' := [.long u5]) rfl ⟨Nat.zero_le _, Nat.zero_le _⟩ ?_
      refine rn_lconst hX dX11_spare_65 66 rfl lc_0 ?_
      refine rn_lcmp_ne hX dX11_spare_66 67 rfl dX11_spare_67 73 (by decide) 70 rfl ?_ ?_
      · refine rn_aload_n hX dX11_spare_73 0 rfl 74 rfl ?_
        refine rn_callV0 hX (gV mcC wd_1342 wd_1344 wd_60 wd_81 wd_1345) rfl hdV_X11_drawingMany rfl rfl ⟨Nat.le_of_ble_eq_true rfl, Nat.le_of_ble_eq_true rfl⟩ (c_X11_drawingMany (zl Z) (zG Z) a_this a_state a_readPage a_tape a_letters a_sums a_aside a_groups a_sides a_names a_firstNames a_isKept a_lanes a_lengths a_cells a_had u2.2.1 g_taped g_fault g_broken g_brokenAt g_spot g_here g_token g_value g_hasPlaces g_highest u4.2.2.1 u4.1 u4.2.1 g_torn rfl) rfl [0] rfl rfl (ci := 11) rfl rfl rfl (Nat.le_of_ble_eq_true rfl) dX11_spare_74 77 rfl (S' := [.int (X11_drawingMany u4.1 u4.2.1)]) rfl ⟨Nat.zero_le _, Nat.zero_le _⟩ ?_
        refine rn_lati (fun v6 => ?_)
        refine rn_istore hX dX11_spare_77 (by decide) (L' := [(5, .int v6), (0, .ref a_this), (1, .int x1), (2, .int x2), (3, .int x3), (4, .int x4)]) rfl 79 rfl ?_
        refine rn_aload_n hX dX11_spare_79 1 rfl 80 rfl ?_
        refine rn_get hX inX11 0 rfl rfl 0 (by decide) fl7 rfl rfl dX11_spare_80 83 rfl ?_
        refine rn_iload_n hX dX11_spare_83 4 rfl 84 rfl ?_
        refine rn_iload hX dX11_spare_84 5 rfl 86 rfl ?_
        refine rn_callS0 hX (gS mcC wd_1133 wd_1134 wd_81 wd_1135) rfl hdS_X11_pairOf rfl rfl ⟨Nat.le_of_ble_eq_true rfl, Nat.le_of_ble_eq_true rfl⟩ (c_X11_pairOf (zl Z) (zG Z) x3 x4 rfl) rfl [] rfl rfl rfl (Nat.le_of_ble_eq_true rfl) dX11_spare_86 89 rfl (S' := [.int (X11_pairOf x3 x4), .ref a_state]) rfl ⟨Nat.zero_le _, Nat.zero_le _⟩ ?_
        refine rn_gd (fun hi7 => ?_)
        refine rn_iald hX 3 rfl hi7 dX11_spare_89 90 rfl ?_
        refine rn_lati (fun v8 => ?_)
        refine rn_istore hX dX11_spare_90 (by decide) (L' := [(6, .int v8), (5, .int v6), (0, .ref a_this), (1, .int x1), (2, .int x2), (3, .int x3), (4, .int x4)]) rfl 92 rfl ?_
        refine rn_aload_n hX dX11_spare_92 2 rfl 93 rfl ?_
        refine rn_get hX inX11 0 rfl rfl 0 (by decide) fl7 rfl rfl dX11_spare_93 96 rfl ?_
        refine rn_iload_n hX dX11_spare_96 5 rfl 97 rfl ?_
        refine rn_iload hX dX11_spare_97 6 rfl 99 rfl ?_
        refine rn_callS0 hX (gS mcC wd_1133 wd_1134 wd_81 wd_1135) rfl hdS_X11_pairOf rfl rfl ⟨Nat.le_of_ble_eq_true rfl, Nat.le_of_ble_eq_true rfl⟩ (c_X11_pairOf (zl Z) (zG Z) x3 x4 rfl) rfl [] rfl rfl rfl (Nat.le_of_ble_eq_true rfl) dX11_spare_99 102 rfl (S' := [.int (X11_pairOf x3 x4), .ref a_state]) rfl ⟨Nat.zero_le _, Nat.zero_le _⟩ ?_
        refine rn_iconst hX dX11_spare_102 103 rfl ic_0 ?_
        refine rn_iast hX 3 rfl hi7 dX11_spare_103 104 rfl (w1 := fun m9 => [(a_this, .inr (11, [.ref a_state, .ref a_readPage, .int u2.2.1, .ref a_tape, .int g_taped, .int g_fault, .int g_broken, .int g_brokenAt, .int g_spot, .int g_here, .int g_token, .int g_value, .ref a_letters, .int g_hasPlaces, .int g_highest, .ref a_sums, .ref a_aside, .ref a_groups, .ref a_sides, .int u4.2.2.1, .int u4.1, .int u4.2.1, .ref a_names, .ref a_firstNames, .ref a_isKept, .ref a_lanes, .ref a_lengths, .ref a_cells, .int g_torn, .ref a_had])), (a_groups, .inl ((zG Z).2.1 1, 7, .inl u4.2.2.2.1)), (a_sides, .inl ((zG Z).2.1 1, 7, .inl u4.2.2.2.2)), (a_state, .inl ((zG Z).2.1 1, 96, .inl m9))]) (fun _ => rfl) (fun m9 => ?_)
        refine rn_aload_n hX dX11_spare_104 2 rfl 105 rfl ?_
        refine rn_iload_n hX dX11_spare_105 3 rfl 106 rfl ?_
        refine rn_iload_n hX dX11_spare_106 4 rfl 107 rfl ?_
        refine rn_bind (fun u10 hu10 => ?_)
        refine rn_callV hX (gV mcC wd_1326 wd_1328 wd_56 wd_81 wd_1329) rfl hdV_X11_layDrawings rfl rfl ⟨Nat.le_of_ble_eq_true rfl, Nat.le_of_ble_eq_true rfl⟩ (c_X11_layDrawings (zl Z) (zG Z) a_this a_groups a_sides a_state a_readPage a_tape a_letters a_sums a_aside a_names a_firstNames a_isKept a_lanes a_lengths a_cells a_had u2.2.1 g_taped g_fault g_broken g_brokenAt g_spot g_here g_token g_value g_hasPlaces g_highest u4.2.2.1 u4.1 u4.2.1 g_torn u4.2.2.2.1 u4.2.2.2.2 m9 x1 x2 hu10) rfl [0, 1, 2, 3] rfl rfl rfl (ci := 11) rfl rfl rfl (Nat.le_of_ble_eq_true rfl) dX11_spare_107 110 rfl (wn := [(a_this, .inr (11, [.ref a_state, .ref a_readPage, .int u2.2.1, .ref a_tape, .int g_taped, .int g_fault, .int g_broken, .int g_brokenAt, .int g_spot, .int g_here, .int g_token, .int g_value, .ref a_letters, .int g_hasPlaces, .int g_highest, .ref a_sums, .ref a_aside, .ref a_groups, .ref a_sides, .int u10.2.2.1, .int u10.1, .int u10.2.1, .ref a_names, .ref a_firstNames, .ref a_isKept, .ref a_lanes, .ref a_lengths, .ref a_cells, .int g_torn, .ref a_had])), (a_groups, .inl ((zG Z).2.1 1, 7, .inl u10.2.2.2.1)), (a_sides, .inl ((zG Z).2.1 1, 7, .inl u10.2.2.2.2)), (a_state, .inl ((zG Z).2.1 1, 96, .inl m9))]) rfl (S' := []) rfl ⟨Nat.zero_le _, Nat.zero_le _⟩ ?_
        refine rn_aload_n hX dX11_spare_110 2 rfl 111 rfl ?_
        refine rn_get hX inX11 0 rfl rfl 0 (by decide) fl7 rfl rfl dX11_spare_111 114 rfl ?_
        refine rn_iload_n hX dX11_spare_114 5 rfl 115 rfl ?_
        refine rn_iload hX dX11_spare_115 6 rfl 117 rfl ?_
        refine rn_callS0 hX (gS mcC wd_1133 wd_1134 wd_81 wd_1135) rfl hdS_X11_pairOf rfl rfl ⟨Nat.le_of_ble_eq_true rfl, Nat.le_of_ble_eq_true rfl⟩ (c_X11_pairOf (zl Z) (zG Z) x3 x4 rfl) rfl [] rfl rfl rfl (Nat.le_of_ble_eq_true rfl) dX11_spare_117 120 rfl (S' := [.int (X11_pairOf x3 x4), .ref a_state]) rfl ⟨Nat.zero_le _, Nat.zero_le _⟩ ?_
        refine rn_iload hX dX11_spare_120 0 rfl 122 rfl ?_
        refine rn_iast hX 3 rfl hi7 dX11_spare_122 123 rfl (w1 := fun m11 => [(a_this, .inr (11, [.ref a_state, .ref a_readPage, .int u2.2.1, .ref a_tape, .int g_taped, .int g_fault, .int g_broken, .int g_brokenAt, .int g_spot, .int g_here, .int g_token, .int g_value, .ref a_letters, .int g_hasPlaces, .int g_highest, .ref a_sums, .ref a_aside, .ref a_groups, .ref a_sides, .int u10.2.2.1, .int u10.1, .int u10.2.1, .ref a_names, .ref a_firstNames, .ref a_isKept, .ref a_lanes, .ref a_lengths, .ref a_cells, .int g_torn, .ref a_had])), (a_groups, .inl ((zG Z).2.1 1, 7, .inl u10.2.2.2.1)), (a_sides, .inl ((zG Z).2.1 1, 7, .inl u10.2.2.2.2)), (a_state, .inl ((zG Z).2.1 1, 96, .inl m11))]) (fun _ => rfl) (fun m11 => ?_)
        refine rn_aload_n hX dX11_spare_123 2 rfl 124 rfl ?_
        refine rn_callV0 hX (gV mcC wd_1342 wd_1344 wd_60 wd_81 wd_1345) rfl hdV_X11_drawingMany rfl rfl ⟨Nat.le_of_ble_eq_true rfl, Nat.le_of_ble_eq_true rfl⟩ (c_X11_drawingMany (zl Z) (zG Z) a_this a_state a_readPage a_tape a_letters a_sums a_aside a_groups a_sides a_names a_firstNames a_isKept a_lanes a_lengths a_cells a_had u2.2.1 g_taped g_fault g_broken g_brokenAt g_spot g_here g_token g_value g_hasPlaces g_highest u10.2.2.1 u10.1 u10.2.1 g_torn rfl) rfl [0] rfl rfl (ci := 11) rfl rfl rfl (Nat.le_of_ble_eq_true rfl) dX11_spare_124 127 rfl (S' := [.int (X11_drawingMany u10.1 u10.2.1)]) rfl ⟨Nat.zero_le _, Nat.zero_le _⟩ ?_
        refine rn_iload hX dX11_spare_127 1 rfl 129 rfl ?_
        refine rn_icmp_ne hX dX11_spare_129 136 (by decide) 132 rfl ?_ ?_
        · refine rn_iconst hX dX11_spare_136 137 rfl ic_0 ?_
          exact rn_iret hX hr (by rw [henc]; rfl) dX11_spare_137
        refine rn_iconst hX dX11_spare_132 133 rfl ic_1 ?_
        refine rn_goto hX dX11_spare_133 137 (by decide) ?_
        exact rn_iret hX hr (by rw [henc]; rfl) dX11_spare_137
      refine rn_bipush hX dX11_spare_70 72 rfl bp_m4 ?_
      exact rn_iret hX hr (by rw [henc]; rfl) dX11_spare_72
    refine rn_bipush hX dX11_spare_32 34 rfl bp_m2 ?_
    exact rn_iret hX hr (by rw [henc]; rfl) dX11_spare_34
  refine rn_iconst hX dX11_spare_19 20 rfl ic_m1 ?_
  exact rn_iret hX hr (by rw [henc]; rfl) dX11_spare_20
abbrev rmX11_bitsOf : Room := { frames := 0, cells := 0, slots := 0, locals := 0 }
theorem hdS_X11_bitsOf : yX11_bitsOf.cls ≠ "java/lang/invoke/MethodHandle" ∧ yX11_bitsOf.cls ≠ "java/lang/invoke/VarHandle" ∧ (parseMethodDescriptor yX11_bitsOf.desc).map (fun d => d.parameters.length) = some 1 := by decide +kernel
set_option maxHeartbeats 4000000 in
set_option maxRecDepth 100000 in
theorem c_X11_bitsOf (l : Launch) (G : GT) (x0 : Int32) {u : Int32} (hu : X11_bitsOf x0 = some u) : Ctr l G yX11_bitsOf wsX11_bitsOf rmX11_bitsOf [.int x0] [] (some (.int u)) [] := by
  obtain ⟨enc, henc⟩ : ∃ enc : (Int32) → Option Value × va_W, enc = fun u => (((some (.int u)) : Option Value), ([] : va_W)) := ⟨_, rfl⟩
  refine ctr_of (cc := cX11_bitsOf) (own := RX11) (E := Option.map enc) (o := X11_bitsOf x0) (by decide) rfl rfl (L := [(0, .int x0)]) rfl (Nat.le_of_ble_eq_true rfl) (by rw [hu, henc]; rfl) ?_
  intro Z hX hl hG hr
  subst hl; subst hG
  have hB4 : ∀ (again : Int32 → Int32 → Int32 → Option (Int32)) (hagain : ∀ (x0 : Int32) (x1 : Int32) (x2 : Int32), Rn Z 3 (Option.map enc) 0 0 4 [(0, .int x0), (1, .int x1), (2, .int x2)] [] [] (again x0 x1 x2)) (x0 : Int32) (x1 : Int32) (x2 : Int32), Rn Z 3 (Option.map enc) 0 0 4 [(0, .int x0), (1, .int x1), (2, .int x2)] [] [] (X11_bitsOf_B4 again x0 x1 x2) := by
    intro again hagain x0 x1 x2
    unfold X11_bitsOf_B4
    refine rn_iload_n hX dX11_bitsOf_4 2 rfl 5 rfl ?_
    refine rn_bipush hX dX11_bitsOf_5 7 rfl bp_7 ?_
    refine rn_icmp_ge hX dX11_bitsOf_7 24 (by decide) 10 rfl ?_ ?_
    · refine rn_iload_n hX dX11_bitsOf_24 1 rfl 25 rfl ?_
      exact rn_iret hX hr (by rw [henc]; rfl) dX11_bitsOf_25
    refine rn_iload_n hX dX11_bitsOf_10 1 rfl 11 rfl ?_
    refine rn_iload_n hX dX11_bitsOf_11 0 rfl 12 rfl ?_
    refine rn_iload_n hX dX11_bitsOf_12 2 rfl 13 rfl ?_
    refine rn_ishr hX dX11_bitsOf_13 14 rfl ?_
    refine rn_iconst hX dX11_bitsOf_14 15 rfl ic_1 ?_
    refine rn_iand hX dX11_bitsOf_15 16 rfl ?_
    refine rn_iadd hX dX11_bitsOf_16 17 rfl ?_
    refine rn_lati (fun v1 => ?_)
    refine rn_istore_n hX dX11_bitsOf_17 1 rfl (by decide) (L' := [(1, .int v1), (0, .int x0), (2, .int x2)]) rfl 18 rfl ?_
    refine rn_iinc hX dX11_bitsOf_18 2 rfl ic_1 (by decide) (L' := fun v2 => [(2, .int v2), (1, .int v1), (0, .int x0)]) (fun _ => rfl) 21 rfl (fun v2 => ?_)
    refine rn_goto hX dX11_bitsOf_21 4 (by decide) ?_
    refine rn_sub [2, 1, 0] rfl ?_
    exact hagain x0 v1 v2
  have hL4 : ∀ (n : Nat) (x0 : Int32) (x1 : Int32) (x2 : Int32), Rn Z 3 (Option.map enc) 0 0 4 [(0, .int x0), (1, .int x1), (2, .int x2)] [] [] (X11_bitsOf_L4 n x0 x1 x2) := by
    intro n
    induction n with
    | zero => intros; exact rn_none
    | succ n ih => exact hB4 _ ih
  unfold X11_bitsOf
  refine rn_iconst hX dX11_bitsOf_0 1 rfl ic_0 ?_
  refine rn_istore_n hX dX11_bitsOf_1 1 rfl (by decide) (L' := [(1, .int (0 : Int32)), (0, .int x0)]) rfl 2 rfl ?_
  refine rn_iconst hX dX11_bitsOf_2 3 rfl ic_0 ?_
  refine rn_istore_n hX dX11_bitsOf_3 2 rfl (by decide) (L' := [(2, .int (0 : Int32)), (1, .int (0 : Int32)), (0, .int x0)]) rfl 4 rfl ?_
  refine rn_sub [2, 1, 0] rfl ?_
  exact (hL4  1000) x0 (0 : Int32) (0 : Int32)
abbrev rmX11_base : Room := { frames := 7, cells := 0, slots := 0, locals := 172 }
theorem hdV_X11_base : yX11_base.cls = RX11 ∧ yX11_base.cls ≠ "java/lang/invoke/MethodHandle" ∧ yX11_base.cls ≠ "java/lang/invoke/VarHandle" ∧ (parseMethodDescriptor yX11_base.desc).map (fun d => d.parameters.length) = some 0 := by decide +kernel
set_option maxHeartbeats 4000000 in
set_option maxRecDepth 100000 in
theorem c_X11_base (l : Launch) (G : GT) (a_this a_groups a_sides a_state a_readPage a_tape a_letters a_sums a_aside a_names a_firstNames a_isKept a_lanes a_lengths a_cells a_had : Nat) (g_isAwake : Int32) (g_taped : Int32) (g_fault : Int32) (g_broken : Int32) (g_brokenAt : Int32) (g_spot : Int32) (g_here : Int32) (g_token : Int32) (g_value : Int32) (g_hasPlaces : Int32) (g_highest : Int32) (g_laid : Int32) (g_groupMany : Int32) (g_isDrawn : Int32) (g_torn : Int32) (g_groups : (Nat → Int32)) (g_sides : (Nat → Int32)) (g_state : (Nat → Int32)) {u : Int32 × Int32 × Int32 × Int32 × Int32 × (Nat → Int32) × (Nat → Int32) × (Nat → Int32)} (hu : X11_base g_groupMany g_isAwake g_isDrawn g_laid g_groups g_sides g_state = some u) : Ctr l G yX11_base wsX11_base rmX11_base [.ref a_this] [(a_this, .inr (11, [.ref a_state, .ref a_readPage, .int g_isAwake, .ref a_tape, .int g_taped, .int g_fault, .int g_broken, .int g_brokenAt, .int g_spot, .int g_here, .int g_token, .int g_value, .ref a_letters, .int g_hasPlaces, .int g_highest, .ref a_sums, .ref a_aside, .ref a_groups, .ref a_sides, .int g_laid, .int g_groupMany, .int g_isDrawn, .ref a_names, .ref a_firstNames, .ref a_isKept, .ref a_lanes, .ref a_lengths, .ref a_cells, .int g_torn, .ref a_had])), (a_groups, .inl (G.2.1 1, 7, .inl g_groups)), (a_sides, .inl (G.2.1 1, 7, .inl g_sides)), (a_state, .inl (G.2.1 1, 96, .inl g_state))] (some (.int u.1)) [(a_this, .inr (11, [.ref a_state, .ref a_readPage, .int u.2.2.1, .ref a_tape, .int g_taped, .int g_fault, .int g_broken, .int g_brokenAt, .int g_spot, .int g_here, .int g_token, .int g_value, .ref a_letters, .int g_hasPlaces, .int g_highest, .ref a_sums, .ref a_aside, .ref a_groups, .ref a_sides, .int u.2.2.2.2.1, .int u.2.1, .int u.2.2.2.1, .ref a_names, .ref a_firstNames, .ref a_isKept, .ref a_lanes, .ref a_lengths, .ref a_cells, .int g_torn, .ref a_had])), (a_groups, .inl (G.2.1 1, 7, .inl u.2.2.2.2.2.1)), (a_sides, .inl (G.2.1 1, 7, .inl u.2.2.2.2.2.2.1)), (a_state, .inl (G.2.1 1, 96, .inl u.2.2.2.2.2.2.2))] := by
  obtain ⟨enc, henc⟩ : ∃ enc : (Int32 × Int32 × Int32 × Int32 × Int32 × (Nat → Int32) × (Nat → Int32) × (Nat → Int32)) → Option Value × va_W, enc = fun u => (((some (.int u.1)) : Option Value), ([(a_this, .inr (11, [.ref a_state, .ref a_readPage, .int u.2.2.1, .ref a_tape, .int g_taped, .int g_fault, .int g_broken, .int g_brokenAt, .int g_spot, .int g_here, .int g_token, .int g_value, .ref a_letters, .int g_hasPlaces, .int g_highest, .ref a_sums, .ref a_aside, .ref a_groups, .ref a_sides, .int u.2.2.2.2.1, .int u.2.1, .int u.2.2.2.1, .ref a_names, .ref a_firstNames, .ref a_isKept, .ref a_lanes, .ref a_lengths, .ref a_cells, .int g_torn, .ref a_had])), (a_groups, .inl (G.2.1 1, 7, .inl u.2.2.2.2.2.1)), (a_sides, .inl (G.2.1 1, 7, .inl u.2.2.2.2.2.2.1)), (a_state, .inl (G.2.1 1, 96, .inl u.2.2.2.2.2.2.2))] : va_W)) := ⟨_, rfl⟩
  refine ctr_of (cc := cX11_base) (own := RX11) (E := Option.map enc) (o := X11_base g_groupMany g_isAwake g_isDrawn g_laid g_groups g_sides g_state) (by decide) rfl rfl (L := [(0, .ref a_this)]) rfl (Nat.le_of_ble_eq_true rfl) (by rw [hu, henc]; rfl) ?_
  intro Z hX hl hG hr
  subst hl; subst hG
  have fl247 : (Cond.fieldLink RX11 247 "OnlyFarModel" "laid" "I").before (za Z) (zs Z) = true := hX.wd (mcC _ wd_1009)
  have fl7 : (Cond.fieldLink RX11 7 "OnlyFarModel" "state" "[I").before (za Z) (zs Z) = true := hX.wd (mcC _ wd_990)
  have inX11 : ∀ w ∈ u_ws RX11 TX11 30, w ∈ wsX11_base := fun w h => mcC w (inC_X11 w h)
  have hJ121 : ∀ (again : Int32 → Int32 → Int32 → Int32 → Int32 → Int32 → Int32 → Int32 → (Nat → Int32) → (Nat → Int32) → (Nat → Int32) → Option (Int32 × Int32 × Int32 × Int32 × Int32 × (Nat → Int32) × (Nat → Int32) × (Nat → Int32))) (hagain : ∀ (x1 : Int32) (x2 : Int32) (x3 : Int32) (x4 : Int32) (g_groupMany : Int32) (g_isAwake : Int32) (g_isDrawn : Int32) (g_laid : Int32) (g_groups : (Nat → Int32)) (g_sides : (Nat → Int32)) (g_state : (Nat → Int32)), Rn Z 8 (Option.map enc) 0 0 14 [(0, .ref a_this), (1, .int x1), (2, .int x2), (3, .int x3), (4, .int x4)] [] [(a_this, .inr (11, [.ref a_state, .ref a_readPage, .int g_isAwake, .ref a_tape, .int g_taped, .int g_fault, .int g_broken, .int g_brokenAt, .int g_spot, .int g_here, .int g_token, .int g_value, .ref a_letters, .int g_hasPlaces, .int g_highest, .ref a_sums, .ref a_aside, .ref a_groups, .ref a_sides, .int g_laid, .int g_groupMany, .int g_isDrawn, .ref a_names, .ref a_firstNames, .ref a_isKept, .ref a_lanes, .ref a_lengths, .ref a_cells, .int g_torn, .ref a_had])), (a_groups, .inl ((zG Z).2.1 1, 7, .inl g_groups)), (a_sides, .inl ((zG Z).2.1 1, 7, .inl g_sides)), (a_state, .inl ((zG Z).2.1 1, 96, .inl g_state))] (again x1 x2 x3 x4 g_groupMany g_isAwake g_isDrawn g_laid g_groups g_sides g_state)) (x1 : Int32) (x2 : Int32) (x3 : Int32) (x4 : Int32) (g_groupMany : Int32) (g_isAwake : Int32) (g_isDrawn : Int32) (g_laid : Int32) (g_groups : (Nat → Int32)) (g_sides : (Nat → Int32)) (g_state : (Nat → Int32)), Rn Z 8 (Option.map enc) 0 0 121 [(0, .ref a_this), (1, .int x1), (2, .int x2), (3, .int x3), (4, .int x4)] [] [(a_this, .inr (11, [.ref a_state, .ref a_readPage, .int g_isAwake, .ref a_tape, .int g_taped, .int g_fault, .int g_broken, .int g_brokenAt, .int g_spot, .int g_here, .int g_token, .int g_value, .ref a_letters, .int g_hasPlaces, .int g_highest, .ref a_sums, .ref a_aside, .ref a_groups, .ref a_sides, .int g_laid, .int g_groupMany, .int g_isDrawn, .ref a_names, .ref a_firstNames, .ref a_isKept, .ref a_lanes, .ref a_lengths, .ref a_cells, .int g_torn, .ref a_had])), (a_groups, .inl ((zG Z).2.1 1, 7, .inl g_groups)), (a_sides, .inl ((zG Z).2.1 1, 7, .inl g_sides)), (a_state, .inl ((zG Z).2.1 1, 96, .inl g_state))] (X11_base_J121 again x1 x2 x3 x4 g_groupMany g_isAwake g_isDrawn g_laid g_groups g_sides g_state) := by
    intro again hagain x1 x2 x3 x4 g_groupMany g_isAwake g_isDrawn g_laid g_groups g_sides g_state
    unfold X11_base_J121
    refine rn_iinc hX dX11_base_121 4 rfl ic_1 (by decide) (L' := fun v1 => [(4, .int v1), (0, .ref a_this), (1, .int x1), (2, .int x2), (3, .int x3)]) (fun _ => rfl) 124 rfl (fun v1 => ?_)
    refine rn_goto hX dX11_base_124 14 (by decide) ?_
    refine rn_sub [1, 2, 3, 4, 0] rfl ?_
    exact hagain x1 x2 x3 v1 g_groupMany g_isAwake g_isDrawn g_laid g_groups g_sides g_state
  have hJ115 : ∀ (again : Int32 → Int32 → Int32 → Int32 → Int32 → Int32 → Int32 → Int32 → Int32 → (Nat → Int32) → (Nat → Int32) → (Nat → Int32) → Option (Int32 × Int32 × Int32 × Int32 × Int32 × (Nat → Int32) × (Nat → Int32) × (Nat → Int32))) (k121 : Int32 → Int32 → Int32 → Int32 → Int32 → Int32 → Int32 → Int32 → (Nat → Int32) → (Nat → Int32) → (Nat → Int32) → Option (Int32 × Int32 × Int32 × Int32 × Int32 × (Nat → Int32) × (Nat → Int32) × (Nat → Int32))) (hagain : ∀ (x1 : Int32) (x2 : Int32) (x3 : Int32) (x4 : Int32) (x5 : Int32) (g_groupMany : Int32) (g_isAwake : Int32) (g_isDrawn : Int32) (g_laid : Int32) (g_groups : (Nat → Int32)) (g_sides : (Nat → Int32)) (g_state : (Nat → Int32)), Rn Z 8 (Option.map enc) 0 0 29 [(0, .ref a_this), (1, .int x1), (2, .int x2), (3, .int x3), (4, .int x4), (5, .int x5)] [] [(a_this, .inr (11, [.ref a_state, .ref a_readPage, .int g_isAwake, .ref a_tape, .int g_taped, .int g_fault, .int g_broken, .int g_brokenAt, .int g_spot, .int g_here, .int g_token, .int g_value, .ref a_letters, .int g_hasPlaces, .int g_highest, .ref a_sums, .ref a_aside, .ref a_groups, .ref a_sides, .int g_laid, .int g_groupMany, .int g_isDrawn, .ref a_names, .ref a_firstNames, .ref a_isKept, .ref a_lanes, .ref a_lengths, .ref a_cells, .int g_torn, .ref a_had])), (a_groups, .inl ((zG Z).2.1 1, 7, .inl g_groups)), (a_sides, .inl ((zG Z).2.1 1, 7, .inl g_sides)), (a_state, .inl ((zG Z).2.1 1, 96, .inl g_state))] (again x1 x2 x3 x4 x5 g_groupMany g_isAwake g_isDrawn g_laid g_groups g_sides g_state)) (hk121 : ∀ (x1 : Int32) (x2 : Int32) (x3 : Int32) (x4 : Int32) (g_groupMany : Int32) (g_isAwake : Int32) (g_isDrawn : Int32) (g_laid : Int32) (g_groups : (Nat → Int32)) (g_sides : (Nat → Int32)) (g_state : (Nat → Int32)), Rn Z 8 (Option.map enc) 0 0 121 [(0, .ref a_this), (1, .int x1), (2, .int x2), (3, .int x3), (4, .int x4)] [] [(a_this, .inr (11, [.ref a_state, .ref a_readPage, .int g_isAwake, .ref a_tape, .int g_taped, .int g_fault, .int g_broken, .int g_brokenAt, .int g_spot, .int g_here, .int g_token, .int g_value, .ref a_letters, .int g_hasPlaces, .int g_highest, .ref a_sums, .ref a_aside, .ref a_groups, .ref a_sides, .int g_laid, .int g_groupMany, .int g_isDrawn, .ref a_names, .ref a_firstNames, .ref a_isKept, .ref a_lanes, .ref a_lengths, .ref a_cells, .int g_torn, .ref a_had])), (a_groups, .inl ((zG Z).2.1 1, 7, .inl g_groups)), (a_sides, .inl ((zG Z).2.1 1, 7, .inl g_sides)), (a_state, .inl ((zG Z).2.1 1, 96, .inl g_state))] (k121 x1 x2 x3 x4 g_groupMany g_isAwake g_isDrawn g_laid g_groups g_sides g_state)) (x1 : Int32) (x2 : Int32) (x3 : Int32) (x4 : Int32) (x5 : Int32) (g_groupMany : Int32) (g_isAwake : Int32) (g_isDrawn : Int32) (g_laid : Int32) (g_groups : (Nat → Int32)) (g_sides : (Nat → Int32)) (g_state : (Nat → Int32)), Rn Z 8 (Option.map enc) 0 0 115 [(0, .ref a_this), (1, .int x1), (2, .int x2), (3, .int x3), (4, .int x4), (5, .int x5)] [] [(a_this, .inr (11, [.ref a_state, .ref a_readPage, .int g_isAwake, .ref a_tape, .int g_taped, .int g_fault, .int g_broken, .int g_brokenAt, .int g_spot, .int g_here, .int g_token, .int g_value, .ref a_letters, .int g_hasPlaces, .int g_highest, .ref a_sums, .ref a_aside, .ref a_groups, .ref a_sides, .int g_laid, .int g_groupMany, .int g_isDrawn, .ref a_names, .ref a_firstNames, .ref a_isKept, .ref a_lanes, .ref a_lengths, .ref a_cells, .int g_torn, .ref a_had])), (a_groups, .inl ((zG Z).2.1 1, 7, .inl g_groups)), (a_sides, .inl ((zG Z).2.1 1, 7, .inl g_sides)), (a_state, .inl ((zG Z).2.1 1, 96, .inl g_state))] (X11_base_J115 again k121 x1 x2 x3 x4 x5 g_groupMany g_isAwake g_isDrawn g_laid g_groups g_sides g_state) := by
    intro again k121 hagain hk121 x1 x2 x3 x4 x5 g_groupMany g_isAwake g_isDrawn g_laid g_groups g_sides g_state
    unfold X11_base_J115
    refine rn_iinc hX dX11_base_115 5 rfl ic_1 (by decide) (L' := fun v2 => [(5, .int v2), (0, .ref a_this), (1, .int x1), (2, .int x2), (3, .int x3), (4, .int x4)]) (fun _ => rfl) 118 rfl (fun v2 => ?_)
    refine rn_goto hX dX11_base_118 29 (by decide) ?_
    refine rn_sub [1, 2, 3, 4, 5, 0] rfl ?_
    exact hagain x1 x2 x3 x4 v2 g_groupMany g_isAwake g_isDrawn g_laid g_groups g_sides g_state
  have hJ101 : ∀ (again : Int32 → Int32 → Int32 → Int32 → Int32 → Int32 → Int32 → Int32 → Int32 → (Nat → Int32) → (Nat → Int32) → (Nat → Int32) → Option (Int32 × Int32 × Int32 × Int32 × Int32 × (Nat → Int32) × (Nat → Int32) × (Nat → Int32))) (k121 : Int32 → Int32 → Int32 → Int32 → Int32 → Int32 → Int32 → Int32 → (Nat → Int32) → (Nat → Int32) → (Nat → Int32) → Option (Int32 × Int32 × Int32 × Int32 × Int32 × (Nat → Int32) × (Nat → Int32) × (Nat → Int32))) (hagain : ∀ (x1 : Int32) (x2 : Int32) (x3 : Int32) (x4 : Int32) (x5 : Int32) (g_groupMany : Int32) (g_isAwake : Int32) (g_isDrawn : Int32) (g_laid : Int32) (g_groups : (Nat → Int32)) (g_sides : (Nat → Int32)) (g_state : (Nat → Int32)), Rn Z 8 (Option.map enc) 0 0 29 [(0, .ref a_this), (1, .int x1), (2, .int x2), (3, .int x3), (4, .int x4), (5, .int x5)] [] [(a_this, .inr (11, [.ref a_state, .ref a_readPage, .int g_isAwake, .ref a_tape, .int g_taped, .int g_fault, .int g_broken, .int g_brokenAt, .int g_spot, .int g_here, .int g_token, .int g_value, .ref a_letters, .int g_hasPlaces, .int g_highest, .ref a_sums, .ref a_aside, .ref a_groups, .ref a_sides, .int g_laid, .int g_groupMany, .int g_isDrawn, .ref a_names, .ref a_firstNames, .ref a_isKept, .ref a_lanes, .ref a_lengths, .ref a_cells, .int g_torn, .ref a_had])), (a_groups, .inl ((zG Z).2.1 1, 7, .inl g_groups)), (a_sides, .inl ((zG Z).2.1 1, 7, .inl g_sides)), (a_state, .inl ((zG Z).2.1 1, 96, .inl g_state))] (again x1 x2 x3 x4 x5 g_groupMany g_isAwake g_isDrawn g_laid g_groups g_sides g_state)) (hk121 : ∀ (x1 : Int32) (x2 : Int32) (x3 : Int32) (x4 : Int32) (g_groupMany : Int32) (g_isAwake : Int32) (g_isDrawn : Int32) (g_laid : Int32) (g_groups : (Nat → Int32)) (g_sides : (Nat → Int32)) (g_state : (Nat → Int32)), Rn Z 8 (Option.map enc) 0 0 121 [(0, .ref a_this), (1, .int x1), (2, .int x2), (3, .int x3), (4, .int x4)] [] [(a_this, .inr (11, [.ref a_state, .ref a_readPage, .int g_isAwake, .ref a_tape, .int g_taped, .int g_fault, .int g_broken, .int g_brokenAt, .int g_spot, .int g_here, .int g_token, .int g_value, .ref a_letters, .int g_hasPlaces, .int g_highest, .ref a_sums, .ref a_aside, .ref a_groups, .ref a_sides, .int g_laid, .int g_groupMany, .int g_isDrawn, .ref a_names, .ref a_firstNames, .ref a_isKept, .ref a_lanes, .ref a_lengths, .ref a_cells, .int g_torn, .ref a_had])), (a_groups, .inl ((zG Z).2.1 1, 7, .inl g_groups)), (a_sides, .inl ((zG Z).2.1 1, 7, .inl g_sides)), (a_state, .inl ((zG Z).2.1 1, 96, .inl g_state))] (k121 x1 x2 x3 x4 g_groupMany g_isAwake g_isDrawn g_laid g_groups g_sides g_state)) (x4 : Int32) (x5 : Int32) (x6 : Int32) (x7 : Int32) (g_groupMany : Int32) (g_isAwake : Int32) (g_isDrawn : Int32) (g_laid : Int32) (g_groups : (Nat → Int32)) (g_sides : (Nat → Int32)) (g_state : (Nat → Int32)), Rn Z 8 (Option.map enc) 0 0 101 [(0, .ref a_this), (4, .int x4), (5, .int x5), (6, .int x6), (7, .int x7)] [] [(a_this, .inr (11, [.ref a_state, .ref a_readPage, .int g_isAwake, .ref a_tape, .int g_taped, .int g_fault, .int g_broken, .int g_brokenAt, .int g_spot, .int g_here, .int g_token, .int g_value, .ref a_letters, .int g_hasPlaces, .int g_highest, .ref a_sums, .ref a_aside, .ref a_groups, .ref a_sides, .int g_laid, .int g_groupMany, .int g_isDrawn, .ref a_names, .ref a_firstNames, .ref a_isKept, .ref a_lanes, .ref a_lengths, .ref a_cells, .int g_torn, .ref a_had])), (a_groups, .inl ((zG Z).2.1 1, 7, .inl g_groups)), (a_sides, .inl ((zG Z).2.1 1, 7, .inl g_sides)), (a_state, .inl ((zG Z).2.1 1, 96, .inl g_state))] (X11_base_J101 again k121 x4 x5 x6 x7 g_groupMany g_isAwake g_isDrawn g_laid g_groups g_sides g_state) := by
    intro again k121 hagain hk121 x4 x5 x6 x7 g_groupMany g_isAwake g_isDrawn g_laid g_groups g_sides g_state
    unfold X11_base_J101
    refine rn_iload hX dX11_base_101 2 rfl 103 rfl ?_
    refine rn_iload hX dX11_base_103 1 rfl 105 rfl ?_
    refine rn_callS0 hX (gS mcC wd_1133 wd_1134 wd_81 wd_1135) rfl hdS_X11_pairOf rfl rfl ⟨Nat.le_of_ble_eq_true rfl, Nat.le_of_ble_eq_true rfl⟩ (c_X11_pairOf (zl Z) (zG Z) x5 x4 rfl) rfl [] rfl rfl rfl (Nat.le_of_ble_eq_true rfl) dX11_base_105 108 rfl (S' := [.int (X11_pairOf x5 x4)]) rfl ⟨Nat.zero_le _, Nat.zero_le _⟩ ?_
    refine rn_lati (fun v3 => ?_)
    refine rn_istore_n hX dX11_base_108 1 rfl (by decide) (L' := [(1, .int v3), (0, .ref a_this), (4, .int x4), (5, .int x5), (6, .int x6), (7, .int x7)]) rfl 109 rfl ?_
    refine rn_iload hX dX11_base_109 4 rfl 111 rfl ?_
    refine rn_istore_n hX dX11_base_111 2 rfl (by decide) (L' := [(2, .int x6), (1, .int v3), (0, .ref a_this), (4, .int x4), (5, .int x5), (6, .int x6), (7, .int x7)]) rfl 112 rfl ?_
    refine rn_iload hX dX11_base_112 6 rfl 114 rfl ?_
    refine rn_istore_n hX dX11_base_114 3 rfl (by decide) (L' := [(3, .int x7), (2, .int x6), (1, .int v3), (0, .ref a_this), (4, .int x4), (5, .int x5), (6, .int x6), (7, .int x7)]) rfl 115 rfl ?_
    refine rn_sub [3, 2, 1, 0, 4, 5] rfl ?_
    exact (hJ115 _ _ hagain hk121) v3 x6 x7 x4 x5 g_groupMany g_isAwake g_isDrawn g_laid g_groups g_sides g_state
  have hB29 : ∀ (again : Int32 → Int32 → Int32 → Int32 → Int32 → Int32 → Int32 → Int32 → Int32 → (Nat → Int32) → (Nat → Int32) → (Nat → Int32) → Option (Int32 × Int32 × Int32 × Int32 × Int32 × (Nat → Int32) × (Nat → Int32) × (Nat → Int32))) (k121 : Int32 → Int32 → Int32 → Int32 → Int32 → Int32 → Int32 → Int32 → (Nat → Int32) → (Nat → Int32) → (Nat → Int32) → Option (Int32 × Int32 × Int32 × Int32 × Int32 × (Nat → Int32) × (Nat → Int32) × (Nat → Int32))) (hagain : ∀ (x1 : Int32) (x2 : Int32) (x3 : Int32) (x4 : Int32) (x5 : Int32) (g_groupMany : Int32) (g_isAwake : Int32) (g_isDrawn : Int32) (g_laid : Int32) (g_groups : (Nat → Int32)) (g_sides : (Nat → Int32)) (g_state : (Nat → Int32)), Rn Z 8 (Option.map enc) 0 0 29 [(0, .ref a_this), (1, .int x1), (2, .int x2), (3, .int x3), (4, .int x4), (5, .int x5)] [] [(a_this, .inr (11, [.ref a_state, .ref a_readPage, .int g_isAwake, .ref a_tape, .int g_taped, .int g_fault, .int g_broken, .int g_brokenAt, .int g_spot, .int g_here, .int g_token, .int g_value, .ref a_letters, .int g_hasPlaces, .int g_highest, .ref a_sums, .ref a_aside, .ref a_groups, .ref a_sides, .int g_laid, .int g_groupMany, .int g_isDrawn, .ref a_names, .ref a_firstNames, .ref a_isKept, .ref a_lanes, .ref a_lengths, .ref a_cells, .int g_torn, .ref a_had])), (a_groups, .inl ((zG Z).2.1 1, 7, .inl g_groups)), (a_sides, .inl ((zG Z).2.1 1, 7, .inl g_sides)), (a_state, .inl ((zG Z).2.1 1, 96, .inl g_state))] (again x1 x2 x3 x4 x5 g_groupMany g_isAwake g_isDrawn g_laid g_groups g_sides g_state)) (hk121 : ∀ (x1 : Int32) (x2 : Int32) (x3 : Int32) (x4 : Int32) (g_groupMany : Int32) (g_isAwake : Int32) (g_isDrawn : Int32) (g_laid : Int32) (g_groups : (Nat → Int32)) (g_sides : (Nat → Int32)) (g_state : (Nat → Int32)), Rn Z 8 (Option.map enc) 0 0 121 [(0, .ref a_this), (1, .int x1), (2, .int x2), (3, .int x3), (4, .int x4)] [] [(a_this, .inr (11, [.ref a_state, .ref a_readPage, .int g_isAwake, .ref a_tape, .int g_taped, .int g_fault, .int g_broken, .int g_brokenAt, .int g_spot, .int g_here, .int g_token, .int g_value, .ref a_letters, .int g_hasPlaces, .int g_highest, .ref a_sums, .ref a_aside, .ref a_groups, .ref a_sides, .int g_laid, .int g_groupMany, .int g_isDrawn, .ref a_names, .ref a_firstNames, .ref a_isKept, .ref a_lanes, .ref a_lengths, .ref a_cells, .int g_torn, .ref a_had])), (a_groups, .inl ((zG Z).2.1 1, 7, .inl g_groups)), (a_sides, .inl ((zG Z).2.1 1, 7, .inl g_sides)), (a_state, .inl ((zG Z).2.1 1, 96, .inl g_state))] (k121 x1 x2 x3 x4 g_groupMany g_isAwake g_isDrawn g_laid g_groups g_sides g_state)) (x1 : Int32) (x2 : Int32) (x3 : Int32) (x4 : Int32) (x5 : Int32) (g_groupMany : Int32) (g_isAwake : Int32) (g_isDrawn : Int32) (g_laid : Int32) (g_groups : (Nat → Int32)) (g_sides : (Nat → Int32)) (g_state : (Nat → Int32)), Rn Z 8 (Option.map enc) 0 0 29 [(0, .ref a_this), (1, .int x1), (2, .int x2), (3, .int x3), (4, .int x4), (5, .int x5)] [] [(a_this, .inr (11, [.ref a_state, .ref a_readPage, .int g_isAwake, .ref a_tape, .int g_taped, .int g_fault, .int g_broken, .int g_brokenAt, .int g_spot, .int g_here, .int g_token, .int g_value, .ref a_letters, .int g_hasPlaces, .int g_highest, .ref a_sums, .ref a_aside, .ref a_groups, .ref a_sides, .int g_laid, .int g_groupMany, .int g_isDrawn, .ref a_names, .ref a_firstNames, .ref a_isKept, .ref a_lanes, .ref a_lengths, .ref a_cells, .int g_torn, .ref a_had])), (a_groups, .inl ((zG Z).2.1 1, 7, .inl g_groups)), (a_sides, .inl ((zG Z).2.1 1, 7, .inl g_sides)), (a_state, .inl ((zG Z).2.1 1, 96, .inl g_state))] (X11_base_B29 again k121 x1 x2 x3 x4 x5 g_groupMany g_isAwake g_isDrawn g_laid g_groups g_sides g_state) := by
    intro again k121 hagain hk121 x1 x2 x3 x4 x5 g_groupMany g_isAwake g_isDrawn g_laid g_groups g_sides g_state
    unfold X11_base_B29
    refine rn_iload hX dX11_base_29 5 rfl 31 rfl ?_
    refine rn_iload hX dX11_base_31 4 rfl 33 rfl ?_
    refine rn_icmp_ge hX dX11_base_33 121 (by decide) 36 rfl ?_ ?_
    · refine rn_sub [0, 1, 2, 3, 4] rfl ?_
      exact hk121 x1 x2 x3 x4 g_groupMany g_isAwake g_isDrawn g_laid g_groups g_sides g_state
    refine rn_aload_n hX dX11_base_36 0 rfl 37 rfl ?_
    refine rn_iload hX dX11_base_37 5 rfl 39 rfl ?_
    refine rn_iload hX dX11_base_39 4 rfl 41 rfl ?_
    refine rn_bind (fun u4 hu4 => ?_)
    refine rn_callV0 hX (gV mcC wd_1156 wd_1158 wd_36 wd_81 wd_1159) rfl hdV_X11_sq rfl rfl ⟨Nat.le_of_ble_eq_true rfl, Nat.le_of_ble_eq_true rfl⟩ (c_X11_sq (zl Z) (zG Z) a_this a_state a_readPage a_tape a_letters a_sums a_aside a_groups a_sides a_names a_firstNames a_isKept a_lanes a_lengths a_cells a_had g_isAwake g_taped g_fault g_broken g_brokenAt g_spot g_here g_token g_value g_hasPlaces g_highest g_laid g_groupMany g_isDrawn g_torn g_state x5 x4 hu4) rfl [0, 3] rfl rfl (ci := 11) rfl rfl rfl (Nat.le_of_ble_eq_true rfl) dX11_base_41 44 rfl (S' := [.long u4]) rfl ⟨Nat.zero_le _, Nat.zero_le _⟩ ?_
    refine rn_lconst hX dX11_base_44 45 rfl lc_0 ?_
    refine rn_lcmp_le hX dX11_base_45 46 rfl dX11_base_46 115 (by decide) 49 rfl ?_ ?_
    · exact (hJ115 _ _ hagain hk121) x1 x2 x3 x4 x5 g_groupMany g_isAwake g_isDrawn g_laid g_groups g_sides g_state
    refine rn_aload_n hX dX11_base_49 0 rfl 50 rfl ?_
    refine rn_iload hX dX11_base_50 5 rfl 52 rfl ?_
    refine rn_iload hX dX11_base_52 4 rfl 54 rfl ?_
    refine rn_bind (fun u5 hu5 => ?_)
    refine rn_callV hX (gV mcC wd_1326 wd_1328 wd_56 wd_81 wd_1329) rfl hdV_X11_layDrawings rfl rfl ⟨Nat.le_of_ble_eq_true rfl, Nat.le_of_ble_eq_true rfl⟩ (c_X11_layDrawings (zl Z) (zG Z) a_this a_groups a_sides a_state a_readPage a_tape a_letters a_sums a_aside a_names a_firstNames a_isKept a_lanes a_lengths a_cells a_had g_isAwake g_taped g_fault g_broken g_brokenAt g_spot g_here g_token g_value g_hasPlaces g_highest g_laid g_groupMany g_isDrawn g_torn g_groups g_sides g_state x5 x4 hu5) rfl [0, 1, 2, 3] rfl rfl rfl (ci := 11) rfl rfl rfl (Nat.le_of_ble_eq_true rfl) dX11_base_54 57 rfl (wn := [(a_this, .inr (11, [.ref a_state, .ref a_readPage, .int g_isAwake, .ref a_tape, .int g_taped, .int g_fault, .int g_broken, .int g_brokenAt, .int g_spot, .int g_here, .int g_token, .int g_value, .ref a_letters, .int g_hasPlaces, .int g_highest, .ref a_sums, .ref a_aside, .ref a_groups, .ref a_sides, .int u5.2.2.1, .int u5.1, .int u5.2.1, .ref a_names, .ref a_firstNames, .ref a_isKept, .ref a_lanes, .ref a_lengths, .ref a_cells, .int g_torn, .ref a_had])), (a_groups, .inl ((zG Z).2.1 1, 7, .inl u5.2.2.2.1)), (a_sides, .inl ((zG Z).2.1 1, 7, .inl u5.2.2.2.2)), (a_state, .inl ((zG Z).2.1 1, 96, .inl g_state))]) rfl (S' := []) rfl ⟨Nat.zero_le _, Nat.zero_le _⟩ ?_
    refine rn_aload_n hX dX11_base_57 0 rfl 58 rfl ?_
    refine rn_get hX inX11 0 rfl rfl 19 (by decide) fl247 rfl rfl dX11_base_58 61 rfl ?_
    refine rn_bind (fun u6 hu6 => ?_)
    refine rn_callS0 hX (gS mcC wd_1354 wd_1355 wd_81 wd_1356) rfl hdS_X11_bitsOf rfl rfl ⟨Nat.le_of_ble_eq_true rfl, Nat.le_of_ble_eq_true rfl⟩ (c_X11_bitsOf (zl Z) (zG Z) u5.2.2.1 hu6) rfl [] rfl rfl rfl (Nat.le_of_ble_eq_true rfl) dX11_base_61 64 rfl (S' := [.int u6]) rfl ⟨Nat.zero_le _, Nat.zero_le _⟩ ?_
    refine rn_istore hX dX11_base_64 (by decide) (L' := [(6, .int u6), (0, .ref a_this), (1, .int x1), (2, .int x2), (3, .int x3), (4, .int x4), (5, .int x5)]) rfl 66 rfl ?_
    refine rn_aload_n hX dX11_base_66 1 rfl 67 rfl ?_
    refine rn_callV0 hX (gV mcC wd_1342 wd_1344 wd_60 wd_81 wd_1345) rfl hdV_X11_drawingMany rfl rfl ⟨Nat.le_of_ble_eq_true rfl, Nat.le_of_ble_eq_true rfl⟩ (c_X11_drawingMany (zl Z) (zG Z) a_this a_state a_readPage a_tape a_letters a_sums a_aside a_groups a_sides a_names a_firstNames a_isKept a_lanes a_lengths a_cells a_had g_isAwake g_taped g_fault g_broken g_brokenAt g_spot g_here g_token g_value g_hasPlaces g_highest u5.2.2.1 u5.1 u5.2.1 g_torn rfl) rfl [0] rfl rfl (ci := 11) rfl rfl rfl (Nat.le_of_ble_eq_true rfl) dX11_base_67 70 rfl (S' := [.int (X11_drawingMany u5.1 u5.2.1)]) rfl ⟨Nat.zero_le _, Nat.zero_le _⟩ ?_
    refine rn_lati (fun v7 => ?_)
    refine rn_istore hX dX11_base_70 (by decide) (L' := [(7, .int v7), (6, .int u6), (0, .ref a_this), (1, .int x1), (2, .int x2), (3, .int x3), (4, .int x4), (5, .int x5)]) rfl 72 rfl ?_
    refine rn_iload hX dX11_base_72 0 rfl 74 rfl ?_
    refine rn_if_le hX dX11_base_74 115 (by decide) 77 rfl ?_ ?_
    · refine rn_sub [2, 3, 4, 5, 6, 7] rfl ?_
      exact (hJ115 _ _ hagain hk121) x1 x2 x3 x4 x5 u5.1 g_isAwake u5.2.1 u5.2.2.1 u5.2.2.2.1 u5.2.2.2.2 g_state
    refine rn_iload_n hX dX11_base_77 3 rfl 78 rfl ?_
    refine rn_bipush hX dX11_base_78 80 rfl bp_m4 ?_
    refine rn_icmp_eq hX dX11_base_80 101 (by decide) 83 rfl ?_ ?_
    · refine rn_sub [2, 6, 7, 1, 0] rfl ?_
      exact (hJ101 _ _ hagain hk121) x4 x5 u6 v7 u5.1 g_isAwake u5.2.1 u5.2.2.1 u5.2.2.2.1 u5.2.2.2.2 g_state
    refine rn_iload hX dX11_base_83 1 rfl 85 rfl ?_
    refine rn_iload_n hX dX11_base_85 4 rfl 86 rfl ?_
    refine rn_icmp_gt hX dX11_base_86 101 (by decide) 89 rfl ?_ ?_
    · refine rn_sub [2, 6, 7, 1, 0] rfl ?_
      exact (hJ101 _ _ hagain hk121) x4 x5 u6 v7 u5.1 g_isAwake u5.2.1 u5.2.2.1 u5.2.2.2.1 u5.2.2.2.2 g_state
    refine rn_iload hX dX11_base_89 1 rfl 91 rfl ?_
    refine rn_iload_n hX dX11_base_91 4 rfl 92 rfl ?_
    refine rn_icmp_ne hX dX11_base_92 115 (by decide) 95 rfl ?_ ?_
    · refine rn_sub [2, 3, 4, 5, 6, 7] rfl ?_
      exact (hJ115 _ _ hagain hk121) x1 x2 x3 x4 x5 u5.1 g_isAwake u5.2.1 u5.2.2.1 u5.2.2.2.1 u5.2.2.2.2 g_state
    refine rn_iload hX dX11_base_95 0 rfl 97 rfl ?_
    refine rn_iload_n hX dX11_base_97 5 rfl 98 rfl ?_
    refine rn_icmp_ge hX dX11_base_98 115 (by decide) 101 rfl ?_ ?_
    · refine rn_sub [2, 3, 4, 5, 6, 7] rfl ?_
      exact (hJ115 _ _ hagain hk121) x1 x2 x3 x4 x5 u5.1 g_isAwake u5.2.1 u5.2.2.1 u5.2.2.2.1 u5.2.2.2.2 g_state
    refine rn_sub [2, 6, 7, 1, 0] rfl ?_
    exact (hJ101 _ _ hagain hk121) x4 x5 u6 v7 u5.1 g_isAwake u5.2.1 u5.2.2.1 u5.2.2.2.1 u5.2.2.2.2 g_state
  have hL29 : ∀ (k121 : Int32 → Int32 → Int32 → Int32 → Int32 → Int32 → Int32 → Int32 → (Nat → Int32) → (Nat → Int32) → (Nat → Int32) → Option (Int32 × Int32 × Int32 × Int32 × Int32 × (Nat → Int32) × (Nat → Int32) × (Nat → Int32))) (hk121 : ∀ (x1 : Int32) (x2 : Int32) (x3 : Int32) (x4 : Int32) (g_groupMany : Int32) (g_isAwake : Int32) (g_isDrawn : Int32) (g_laid : Int32) (g_groups : (Nat → Int32)) (g_sides : (Nat → Int32)) (g_state : (Nat → Int32)), Rn Z 8 (Option.map enc) 0 0 121 [(0, .ref a_this), (1, .int x1), (2, .int x2), (3, .int x3), (4, .int x4)] [] [(a_this, .inr (11, [.ref a_state, .ref a_readPage, .int g_isAwake, .ref a_tape, .int g_taped, .int g_fault, .int g_broken, .int g_brokenAt, .int g_spot, .int g_here, .int g_token, .int g_value, .ref a_letters, .int g_hasPlaces, .int g_highest, .ref a_sums, .ref a_aside, .ref a_groups, .ref a_sides, .int g_laid, .int g_groupMany, .int g_isDrawn, .ref a_names, .ref a_firstNames, .ref a_isKept, .ref a_lanes, .ref a_lengths, .ref a_cells, .int g_torn, .ref a_had])), (a_groups, .inl ((zG Z).2.1 1, 7, .inl g_groups)), (a_sides, .inl ((zG Z).2.1 1, 7, .inl g_sides)), (a_state, .inl ((zG Z).2.1 1, 96, .inl g_state))] (k121 x1 x2 x3 x4 g_groupMany g_isAwake g_isDrawn g_laid g_groups g_sides g_state)) (n : Nat) (x1 : Int32) (x2 : Int32) (x3 : Int32) (x4 : Int32) (x5 : Int32) (g_groupMany : Int32) (g_isAwake : Int32) (g_isDrawn : Int32) (g_laid : Int32) (g_groups : (Nat → Int32)) (g_sides : (Nat → Int32)) (g_state : (Nat → Int32)), Rn Z 8 (Option.map enc) 0 0 29 [(0, .ref a_this), (1, .int x1), (2, .int x2), (3, .int x3), (4, .int x4), (5, .int x5)] [] [(a_this, .inr (11, [.ref a_state, .ref a_readPage, .int g_isAwake, .ref a_tape, .int g_taped, .int g_fault, .int g_broken, .int g_brokenAt, .int g_spot, .int g_here, .int g_token, .int g_value, .ref a_letters, .int g_hasPlaces, .int g_highest, .ref a_sums, .ref a_aside, .ref a_groups, .ref a_sides, .int g_laid, .int g_groupMany, .int g_isDrawn, .ref a_names, .ref a_firstNames, .ref a_isKept, .ref a_lanes, .ref a_lengths, .ref a_cells, .int g_torn, .ref a_had])), (a_groups, .inl ((zG Z).2.1 1, 7, .inl g_groups)), (a_sides, .inl ((zG Z).2.1 1, 7, .inl g_sides)), (a_state, .inl ((zG Z).2.1 1, 96, .inl g_state))] (X11_base_L29 k121 n x1 x2 x3 x4 x5 g_groupMany g_isAwake g_isDrawn g_laid g_groups g_sides g_state) := by
    intro k121 hk121 n
    induction n with
    | zero => intros; exact rn_none
    | succ n ih => exact hB29 _ _ ih hk121
  have hB14 : ∀ (again : Int32 → Int32 → Int32 → Int32 → Int32 → Int32 → Int32 → Int32 → (Nat → Int32) → (Nat → Int32) → (Nat → Int32) → Option (Int32 × Int32 × Int32 × Int32 × Int32 × (Nat → Int32) × (Nat → Int32) × (Nat → Int32))) (hagain : ∀ (x1 : Int32) (x2 : Int32) (x3 : Int32) (x4 : Int32) (g_groupMany : Int32) (g_isAwake : Int32) (g_isDrawn : Int32) (g_laid : Int32) (g_groups : (Nat → Int32)) (g_sides : (Nat → Int32)) (g_state : (Nat → Int32)), Rn Z 8 (Option.map enc) 0 0 14 [(0, .ref a_this), (1, .int x1), (2, .int x2), (3, .int x3), (4, .int x4)] [] [(a_this, .inr (11, [.ref a_state, .ref a_readPage, .int g_isAwake, .ref a_tape, .int g_taped, .int g_fault, .int g_broken, .int g_brokenAt, .int g_spot, .int g_here, .int g_token, .int g_value, .ref a_letters, .int g_hasPlaces, .int g_highest, .ref a_sums, .ref a_aside, .ref a_groups, .ref a_sides, .int g_laid, .int g_groupMany, .int g_isDrawn, .ref a_names, .ref a_firstNames, .ref a_isKept, .ref a_lanes, .ref a_lengths, .ref a_cells, .int g_torn, .ref a_had])), (a_groups, .inl ((zG Z).2.1 1, 7, .inl g_groups)), (a_sides, .inl ((zG Z).2.1 1, 7, .inl g_sides)), (a_state, .inl ((zG Z).2.1 1, 96, .inl g_state))] (again x1 x2 x3 x4 g_groupMany g_isAwake g_isDrawn g_laid g_groups g_sides g_state)) (x1 : Int32) (x2 : Int32) (x3 : Int32) (x4 : Int32) (g_groupMany : Int32) (g_isAwake : Int32) (g_isDrawn : Int32) (g_laid : Int32) (g_groups : (Nat → Int32)) (g_sides : (Nat → Int32)) (g_state : (Nat → Int32)), Rn Z 8 (Option.map enc) 0 0 14 [(0, .ref a_this), (1, .int x1), (2, .int x2), (3, .int x3), (4, .int x4)] [] [(a_this, .inr (11, [.ref a_state, .ref a_readPage, .int g_isAwake, .ref a_tape, .int g_taped, .int g_fault, .int g_broken, .int g_brokenAt, .int g_spot, .int g_here, .int g_token, .int g_value, .ref a_letters, .int g_hasPlaces, .int g_highest, .ref a_sums, .ref a_aside, .ref a_groups, .ref a_sides, .int g_laid, .int g_groupMany, .int g_isDrawn, .ref a_names, .ref a_firstNames, .ref a_isKept, .ref a_lanes, .ref a_lengths, .ref a_cells, .int g_torn, .ref a_had])), (a_groups, .inl ((zG Z).2.1 1, 7, .inl g_groups)), (a_sides, .inl ((zG Z).2.1 1, 7, .inl g_sides)), (a_state, .inl ((zG Z).2.1 1, 96, .inl g_state))] (X11_base_B14 again x1 x2 x3 x4 g_groupMany g_isAwake g_isDrawn g_laid g_groups g_sides g_state) := by
    intro again hagain x1 x2 x3 x4 g_groupMany g_isAwake g_isDrawn g_laid g_groups g_sides g_state
    unfold X11_base_B14
    refine rn_iload hX dX11_base_14 4 rfl 16 rfl ?_
    refine rn_aload_n hX dX11_base_16 0 rfl 17 rfl ?_
    refine rn_get hX inX11 0 rfl rfl 0 (by decide) fl7 rfl rfl dX11_base_17 20 rfl ?_
    refine rn_bipush hX dX11_base_20 22 rfl bp_21 ?_
    refine rn_ialdk hX 3 rfl cl_21 (vpk (by decide)) dX11_base_22 23 rfl ?_
    refine rn_icmp_ge hX dX11_base_23 127 (by decide) 26 rfl ?_ ?_
    · refine rn_iload_n hX dX11_base_127 1 rfl 128 rfl ?_
      exact rn_iret hX hr (by rw [henc]; rfl) dX11_base_128
    refine rn_iconst hX dX11_base_26 27 rfl ic_0 ?_
    refine rn_istore hX dX11_base_27 (by decide) (L' := [(5, .int (0 : Int32)), (0, .ref a_this), (1, .int x1), (2, .int x2), (3, .int x3), (4, .int x4)]) rfl 29 rfl ?_
    refine rn_sub [1, 2, 3, 4, 5, 0] rfl ?_
    exact (hL29 _ (hJ121 _ hagain) 1000) x1 x2 x3 x4 (0 : Int32) g_groupMany g_isAwake g_isDrawn g_laid g_groups g_sides g_state
  have hL14 : ∀ (n : Nat) (x1 : Int32) (x2 : Int32) (x3 : Int32) (x4 : Int32) (g_groupMany : Int32) (g_isAwake : Int32) (g_isDrawn : Int32) (g_laid : Int32) (g_groups : (Nat → Int32)) (g_sides : (Nat → Int32)) (g_state : (Nat → Int32)), Rn Z 8 (Option.map enc) 0 0 14 [(0, .ref a_this), (1, .int x1), (2, .int x2), (3, .int x3), (4, .int x4)] [] [(a_this, .inr (11, [.ref a_state, .ref a_readPage, .int g_isAwake, .ref a_tape, .int g_taped, .int g_fault, .int g_broken, .int g_brokenAt, .int g_spot, .int g_here, .int g_token, .int g_value, .ref a_letters, .int g_hasPlaces, .int g_highest, .ref a_sums, .ref a_aside, .ref a_groups, .ref a_sides, .int g_laid, .int g_groupMany, .int g_isDrawn, .ref a_names, .ref a_firstNames, .ref a_isKept, .ref a_lanes, .ref a_lengths, .ref a_cells, .int g_torn, .ref a_had])), (a_groups, .inl ((zG Z).2.1 1, 7, .inl g_groups)), (a_sides, .inl ((zG Z).2.1 1, 7, .inl g_sides)), (a_state, .inl ((zG Z).2.1 1, 96, .inl g_state))] (X11_base_L14 n x1 x2 x3 x4 g_groupMany g_isAwake g_isDrawn g_laid g_groups g_sides g_state) := by
    intro n
    induction n with
    | zero => intros; exact rn_none
    | succ n ih => exact hB14 _ ih
  unfold X11_base
  refine rn_aload_n hX dX11_base_0 0 rfl 1 rfl ?_
  refine rn_lat (fun u8 hu8 => ?_)
  refine rn_callV hX (gV mcC wd_1152 wd_1154 wd_35 wd_81 wd_1155) rfl hdV_X11_awake rfl rfl ⟨Nat.le_of_ble_eq_true rfl, Nat.le_of_ble_eq_true rfl⟩ (c_X11_awake (zl Z) (zG Z) a_this a_state a_readPage a_tape a_letters a_sums a_aside a_groups a_sides a_names a_firstNames a_isKept a_lanes a_lengths a_cells a_had g_isAwake g_taped g_fault g_broken g_brokenAt g_spot g_here g_token g_value g_hasPlaces g_highest g_laid g_groupMany g_isDrawn g_torn g_state hu8) rfl [0, 3] rfl rfl rfl (ci := 11) rfl rfl rfl (Nat.le_of_ble_eq_true rfl) dX11_base_1 4 rfl (wn := [(a_this, .inr (11, [.ref a_state, .ref a_readPage, .int u8.1, .ref a_tape, .int g_taped, .int g_fault, .int g_broken, .int g_brokenAt, .int g_spot, .int g_here, .int g_token, .int g_value, .ref a_letters, .int g_hasPlaces, .int g_highest, .ref a_sums, .ref a_aside, .ref a_groups, .ref a_sides, .int g_laid, .int g_groupMany, .int g_isDrawn, .ref a_names, .ref a_firstNames, .ref a_isKept, .ref a_lanes, .ref a_lengths, .ref a_cells, .int g_torn, .ref a_had])), (a_groups, .inl ((zG Z).2.1 1, 7, .inl g_groups)), (a_sides, .inl ((zG Z).2.1 1, 7, .inl g_sides)), (a_state, .inl ((zG Z).2.1 1, 96, .inl u8.2))]) rfl (S' := []) rfl ⟨Nat.zero_le _, Nat.zero_le _⟩ ?_
  refine rn_bipush hX dX11_base_4 6 rfl bp_m4 ?_
  refine rn_istore_n hX dX11_base_6 1 rfl (by decide) (L' := [(1, .int (-4 : Int32)), (0, .ref a_this)]) rfl 7 rfl ?_
  refine rn_iconst hX dX11_base_7 8 rfl ic_0 ?_
  refine rn_istore_n hX dX11_base_8 2 rfl (by decide) (L' := [(2, .int (0 : Int32)), (1, .int (-4 : Int32)), (0, .ref a_this)]) rfl 9 rfl ?_
  refine rn_iconst hX dX11_base_9 10 rfl ic_0 ?_
  refine rn_istore_n hX dX11_base_10 3 rfl (by decide) (L' := [(3, .int (0 : Int32)), (2, .int (0 : Int32)), (1, .int (-4 : Int32)), (0, .ref a_this)]) rfl 11 rfl ?_
  refine rn_iconst hX dX11_base_11 12 rfl ic_1 ?_
  refine rn_istore hX dX11_base_12 (by decide) (L' := [(4, .int (1 : Int32)), (3, .int (0 : Int32)), (2, .int (0 : Int32)), (1, .int (-4 : Int32)), (0, .ref a_this)]) rfl 14 rfl ?_
  refine rn_sub [4, 3, 2, 1, 0] rfl ?_
  exact (hL14  1000) (-4 : Int32) (0 : Int32) (0 : Int32) (1 : Int32) g_groupMany u8.1 g_isDrawn g_laid g_groups g_sides u8.2
abbrev rmX11_isTold : Room := { frames := 2, cells := 0, slots := 0, locals := 45 }
theorem hdV_X11_isTold : yX11_isTold.cls = RX11 ∧ yX11_isTold.cls ≠ "java/lang/invoke/MethodHandle" ∧ yX11_isTold.cls ≠ "java/lang/invoke/VarHandle" ∧ (parseMethodDescriptor yX11_isTold.desc).map (fun d => d.parameters.length) = some 2 := by decide +kernel
set_option maxHeartbeats 4000000 in
set_option maxRecDepth 100000 in
theorem c_X11_isTold (l : Launch) (G : GT) (a_this a_state a_readPage a_tape a_letters a_sums a_aside a_groups a_sides a_names a_firstNames a_isKept a_lanes a_lengths a_cells a_had : Nat) (g_isAwake : Int32) (g_taped : Int32) (g_fault : Int32) (g_broken : Int32) (g_brokenAt : Int32) (g_spot : Int32) (g_here : Int32) (g_token : Int32) (g_value : Int32) (g_hasPlaces : Int32) (g_highest : Int32) (g_laid : Int32) (g_groupMany : Int32) (g_isDrawn : Int32) (g_torn : Int32) (g_state : (Nat → Int32)) (x1 : Int32) (x2 : Int32) {u : Int32} (hu : X11_isTold x1 x2 g_state = some u) : Ctr l G yX11_isTold wsX11_isTold rmX11_isTold [.ref a_this, .int x1, .int x2] [(a_this, .inr (11, [.ref a_state, .ref a_readPage, .int g_isAwake, .ref a_tape, .int g_taped, .int g_fault, .int g_broken, .int g_brokenAt, .int g_spot, .int g_here, .int g_token, .int g_value, .ref a_letters, .int g_hasPlaces, .int g_highest, .ref a_sums, .ref a_aside, .ref a_groups, .ref a_sides, .int g_laid, .int g_groupMany, .int g_isDrawn, .ref a_names, .ref a_firstNames, .ref a_isKept, .ref a_lanes, .ref a_lengths, .ref a_cells, .int g_torn, .ref a_had])), (a_state, .inl (G.2.1 1, 96, .inl g_state))] (some (.int u)) [(a_this, .inr (11, [.ref a_state, .ref a_readPage, .int g_isAwake, .ref a_tape, .int g_taped, .int g_fault, .int g_broken, .int g_brokenAt, .int g_spot, .int g_here, .int g_token, .int g_value, .ref a_letters, .int g_hasPlaces, .int g_highest, .ref a_sums, .ref a_aside, .ref a_groups, .ref a_sides, .int g_laid, .int g_groupMany, .int g_isDrawn, .ref a_names, .ref a_firstNames, .ref a_isKept, .ref a_lanes, .ref a_lengths, .ref a_cells, .int g_torn, .ref a_had])), (a_state, .inl (G.2.1 1, 96, .inl g_state))] := by
  obtain ⟨enc, henc⟩ : ∃ enc : (Int32) → Option Value × va_W, enc = fun u => (((some (.int u)) : Option Value), ([(a_this, .inr (11, [.ref a_state, .ref a_readPage, .int g_isAwake, .ref a_tape, .int g_taped, .int g_fault, .int g_broken, .int g_brokenAt, .int g_spot, .int g_here, .int g_token, .int g_value, .ref a_letters, .int g_hasPlaces, .int g_highest, .ref a_sums, .ref a_aside, .ref a_groups, .ref a_sides, .int g_laid, .int g_groupMany, .int g_isDrawn, .ref a_names, .ref a_firstNames, .ref a_isKept, .ref a_lanes, .ref a_lengths, .ref a_cells, .int g_torn, .ref a_had])), (a_state, .inl (G.2.1 1, 96, .inl g_state))] : va_W)) := ⟨_, rfl⟩
  refine ctr_of (cc := cX11_isTold) (own := RX11) (E := Option.map enc) (o := X11_isTold x1 x2 g_state) (by decide) rfl rfl (L := [(0, .ref a_this), (1, .int x1), (2, .int x2)]) rfl (Nat.le_of_ble_eq_true rfl) (by rw [hu, henc]; rfl) ?_
  intro Z hX hl hG hr
  subst hl; subst hG
  have fl7 : (Cond.fieldLink RX11 7 "OnlyFarModel" "state" "[I").before (za Z) (zs Z) = true := hX.wd (mcC _ wd_990)
  have inX11 : ∀ w ∈ u_ws RX11 TX11 30, w ∈ wsX11_isTold := fun w h => mcC w (inC_X11 w h)
  have hJ126 : ∀ (again : Int32 → Int32 → Int32 → Option (Int32)) (hagain : ∀ (x1 : Int32) (x2 : Int32) (x3 : Int32), Rn Z 6 (Option.map enc) 0 0 43 [(0, .ref a_this), (1, .int x1), (2, .int x2), (3, .int x3)] [] [(a_this, .inr (11, [.ref a_state, .ref a_readPage, .int g_isAwake, .ref a_tape, .int g_taped, .int g_fault, .int g_broken, .int g_brokenAt, .int g_spot, .int g_here, .int g_token, .int g_value, .ref a_letters, .int g_hasPlaces, .int g_highest, .ref a_sums, .ref a_aside, .ref a_groups, .ref a_sides, .int g_laid, .int g_groupMany, .int g_isDrawn, .ref a_names, .ref a_firstNames, .ref a_isKept, .ref a_lanes, .ref a_lengths, .ref a_cells, .int g_torn, .ref a_had])), (a_state, .inl ((zG Z).2.1 1, 96, .inl g_state))] (again x1 x2 x3)) (x1 : Int32) (x2 : Int32) (x3 : Int32) (x4 : Int32), Rn Z 6 (Option.map enc) 0 0 126 [(0, .ref a_this), (1, .int x1), (2, .int x2), (3, .int x3), (4, .int x4)] [] [(a_this, .inr (11, [.ref a_state, .ref a_readPage, .int g_isAwake, .ref a_tape, .int g_taped, .int g_fault, .int g_broken, .int g_brokenAt, .int g_spot, .int g_here, .int g_token, .int g_value, .ref a_letters, .int g_hasPlaces, .int g_highest, .ref a_sums, .ref a_aside, .ref a_groups, .ref a_sides, .int g_laid, .int g_groupMany, .int g_isDrawn, .ref a_names, .ref a_firstNames, .ref a_isKept, .ref a_lanes, .ref a_lengths, .ref a_cells, .int g_torn, .ref a_had])), (a_state, .inl ((zG Z).2.1 1, 96, .inl g_state))] (X11_isTold_J126 again x1 x2 x3 x4) := by
    intro again hagain x1 x2 x3 x4
    unfold X11_isTold_J126
    refine rn_iload hX dX11_isTold_126 4 rfl 128 rfl ?_
    refine rn_if_eq hX dX11_isTold_128 133 (by decide) 131 rfl ?_ ?_
    · refine rn_iinc hX dX11_isTold_133 3 rfl ic_1 (by decide) (L' := fun v1 => [(3, .int v1), (0, .ref a_this), (1, .int x1), (2, .int x2), (4, .int x4)]) (fun _ => rfl) 136 rfl (fun v1 => ?_)
      refine rn_goto hX dX11_isTold_136 43 (by decide) ?_
      refine rn_sub [1, 2, 3, 0] rfl ?_
      exact hagain x1 x2 v1
    refine rn_iconst hX dX11_isTold_131 132 rfl ic_0 ?_
    exact rn_zret hX rfl hr (by rw [henc]; rfl) dX11_isTold_132
  have hJ118 : ∀ (again : Int32 → Int32 → Int32 → Int32 → Int32 → Option (Int32)) (k126 : Int32 → Int32 → Int32 → Int32 → Option (Int32)) (hagain : ∀ (x1 : Int32) (x2 : Int32) (x3 : Int32) (x4 : Int32) (x5 : Int32), Rn Z 6 (Option.map enc) 0 0 69 [(0, .ref a_this), (1, .int x1), (2, .int x2), (3, .int x3), (4, .int x4), (5, .int x5)] [] [(a_this, .inr (11, [.ref a_state, .ref a_readPage, .int g_isAwake, .ref a_tape, .int g_taped, .int g_fault, .int g_broken, .int g_brokenAt, .int g_spot, .int g_here, .int g_token, .int g_value, .ref a_letters, .int g_hasPlaces, .int g_highest, .ref a_sums, .ref a_aside, .ref a_groups, .ref a_sides, .int g_laid, .int g_groupMany, .int g_isDrawn, .ref a_names, .ref a_firstNames, .ref a_isKept, .ref a_lanes, .ref a_lengths, .ref a_cells, .int g_torn, .ref a_had])), (a_state, .inl ((zG Z).2.1 1, 96, .inl g_state))] (again x1 x2 x3 x4 x5)) (hk126 : ∀ (x1 : Int32) (x2 : Int32) (x3 : Int32) (x4 : Int32), Rn Z 6 (Option.map enc) 0 0 126 [(0, .ref a_this), (1, .int x1), (2, .int x2), (3, .int x3), (4, .int x4)] [] [(a_this, .inr (11, [.ref a_state, .ref a_readPage, .int g_isAwake, .ref a_tape, .int g_taped, .int g_fault, .int g_broken, .int g_brokenAt, .int g_spot, .int g_here, .int g_token, .int g_value, .ref a_letters, .int g_hasPlaces, .int g_highest, .ref a_sums, .ref a_aside, .ref a_groups, .ref a_sides, .int g_laid, .int g_groupMany, .int g_isDrawn, .ref a_names, .ref a_firstNames, .ref a_isKept, .ref a_lanes, .ref a_lengths, .ref a_cells, .int g_torn, .ref a_had])), (a_state, .inl ((zG Z).2.1 1, 96, .inl g_state))] (k126 x1 x2 x3 x4)) (x1 : Int32) (x2 : Int32) (x3 : Int32) (x5 : Int32) (s0 : Int32), Rn Z 6 (Option.map enc) 0 0 118 [(0, .ref a_this), (1, .int x1), (2, .int x2), (3, .int x3), (5, .int x5)] [.int s0] [(a_this, .inr (11, [.ref a_state, .ref a_readPage, .int g_isAwake, .ref a_tape, .int g_taped, .int g_fault, .int g_broken, .int g_brokenAt, .int g_spot, .int g_here, .int g_token, .int g_value, .ref a_letters, .int g_hasPlaces, .int g_highest, .ref a_sums, .ref a_aside, .ref a_groups, .ref a_sides, .int g_laid, .int g_groupMany, .int g_isDrawn, .ref a_names, .ref a_firstNames, .ref a_isKept, .ref a_lanes, .ref a_lengths, .ref a_cells, .int g_torn, .ref a_had])), (a_state, .inl ((zG Z).2.1 1, 96, .inl g_state))] (X11_isTold_J118 again k126 x1 x2 x3 x5 s0) := by
    intro again k126 hagain hk126 x1 x2 x3 x5 s0
    unfold X11_isTold_J118
    refine rn_istore hX dX11_isTold_118 (by decide) (L' := [(4, .int s0), (0, .ref a_this), (1, .int x1), (2, .int x2), (3, .int x3), (5, .int x5)]) rfl 120 rfl ?_
    refine rn_iinc hX dX11_isTold_120 5 rfl ic_1 (by decide) (L' := fun v2 => [(5, .int v2), (4, .int s0), (0, .ref a_this), (1, .int x1), (2, .int x2), (3, .int x3)]) (fun _ => rfl) 123 rfl (fun v2 => ?_)
    refine rn_goto hX dX11_isTold_123 69 (by decide) ?_
    refine rn_sub [2, 3, 4, 5, 1, 0] rfl ?_
    exact hagain x1 x2 x3 s0 v2
  have hJ113 : ∀ (again : Int32 → Int32 → Int32 → Int32 → Int32 → Option (Int32)) (k126 : Int32 → Int32 → Int32 → Int32 → Option (Int32)) (hagain : ∀ (x1 : Int32) (x2 : Int32) (x3 : Int32) (x4 : Int32) (x5 : Int32), Rn Z 6 (Option.map enc) 0 0 69 [(0, .ref a_this), (1, .int x1), (2, .int x2), (3, .int x3), (4, .int x4), (5, .int x5)] [] [(a_this, .inr (11, [.ref a_state, .ref a_readPage, .int g_isAwake, .ref a_tape, .int g_taped, .int g_fault, .int g_broken, .int g_brokenAt, .int g_spot, .int g_here, .int g_token, .int g_value, .ref a_letters, .int g_hasPlaces, .int g_highest, .ref a_sums, .ref a_aside, .ref a_groups, .ref a_sides, .int g_laid, .int g_groupMany, .int g_isDrawn, .ref a_names, .ref a_firstNames, .ref a_isKept, .ref a_lanes, .ref a_lengths, .ref a_cells, .int g_torn, .ref a_had])), (a_state, .inl ((zG Z).2.1 1, 96, .inl g_state))] (again x1 x2 x3 x4 x5)) (hk126 : ∀ (x1 : Int32) (x2 : Int32) (x3 : Int32) (x4 : Int32), Rn Z 6 (Option.map enc) 0 0 126 [(0, .ref a_this), (1, .int x1), (2, .int x2), (3, .int x3), (4, .int x4)] [] [(a_this, .inr (11, [.ref a_state, .ref a_readPage, .int g_isAwake, .ref a_tape, .int g_taped, .int g_fault, .int g_broken, .int g_brokenAt, .int g_spot, .int g_here, .int g_token, .int g_value, .ref a_letters, .int g_hasPlaces, .int g_highest, .ref a_sums, .ref a_aside, .ref a_groups, .ref a_sides, .int g_laid, .int g_groupMany, .int g_isDrawn, .ref a_names, .ref a_firstNames, .ref a_isKept, .ref a_lanes, .ref a_lengths, .ref a_cells, .int g_torn, .ref a_had])), (a_state, .inl ((zG Z).2.1 1, 96, .inl g_state))] (k126 x1 x2 x3 x4)) (x1 : Int32) (x2 : Int32) (x3 : Int32) (x5 : Int32), Rn Z 6 (Option.map enc) 0 0 113 [(0, .ref a_this), (1, .int x1), (2, .int x2), (3, .int x3), (5, .int x5)] [] [(a_this, .inr (11, [.ref a_state, .ref a_readPage, .int g_isAwake, .ref a_tape, .int g_taped, .int g_fault, .int g_broken, .int g_brokenAt, .int g_spot, .int g_here, .int g_token, .int g_value, .ref a_letters, .int g_hasPlaces, .int g_highest, .ref a_sums, .ref a_aside, .ref a_groups, .ref a_sides, .int g_laid, .int g_groupMany, .int g_isDrawn, .ref a_names, .ref a_firstNames, .ref a_isKept, .ref a_lanes, .ref a_lengths, .ref a_cells, .int g_torn, .ref a_had])), (a_state, .inl ((zG Z).2.1 1, 96, .inl g_state))] (X11_isTold_J113 again k126 x1 x2 x3 x5) := by
    intro again k126 hagain hk126 x1 x2 x3 x5
    unfold X11_isTold_J113
    refine rn_iconst hX dX11_isTold_113 114 rfl ic_1 ?_
    refine rn_goto hX dX11_isTold_114 118 (by decide) ?_
    exact (hJ118 _ _ hagain hk126) x1 x2 x3 x5 (1 : Int32)
  have hB69 : ∀ (again : Int32 → Int32 → Int32 → Int32 → Int32 → Option (Int32)) (k126 : Int32 → Int32 → Int32 → Int32 → Option (Int32)) (hagain : ∀ (x1 : Int32) (x2 : Int32) (x3 : Int32) (x4 : Int32) (x5 : Int32), Rn Z 6 (Option.map enc) 0 0 69 [(0, .ref a_this), (1, .int x1), (2, .int x2), (3, .int x3), (4, .int x4), (5, .int x5)] [] [(a_this, .inr (11, [.ref a_state, .ref a_readPage, .int g_isAwake, .ref a_tape, .int g_taped, .int g_fault, .int g_broken, .int g_brokenAt, .int g_spot, .int g_here, .int g_token, .int g_value, .ref a_letters, .int g_hasPlaces, .int g_highest, .ref a_sums, .ref a_aside, .ref a_groups, .ref a_sides, .int g_laid, .int g_groupMany, .int g_isDrawn, .ref a_names, .ref a_firstNames, .ref a_isKept, .ref a_lanes, .ref a_lengths, .ref a_cells, .int g_torn, .ref a_had])), (a_state, .inl ((zG Z).2.1 1, 96, .inl g_state))] (again x1 x2 x3 x4 x5)) (hk126 : ∀ (x1 : Int32) (x2 : Int32) (x3 : Int32) (x4 : Int32), Rn Z 6 (Option.map enc) 0 0 126 [(0, .ref a_this), (1, .int x1), (2, .int x2), (3, .int x3), (4, .int x4)] [] [(a_this, .inr (11, [.ref a_state, .ref a_readPage, .int g_isAwake, .ref a_tape, .int g_taped, .int g_fault, .int g_broken, .int g_brokenAt, .int g_spot, .int g_here, .int g_token, .int g_value, .ref a_letters, .int g_hasPlaces, .int g_highest, .ref a_sums, .ref a_aside, .ref a_groups, .ref a_sides, .int g_laid, .int g_groupMany, .int g_isDrawn, .ref a_names, .ref a_firstNames, .ref a_isKept, .ref a_lanes, .ref a_lengths, .ref a_cells, .int g_torn, .ref a_had])), (a_state, .inl ((zG Z).2.1 1, 96, .inl g_state))] (k126 x1 x2 x3 x4)) (x1 : Int32) (x2 : Int32) (x3 : Int32) (x4 : Int32) (x5 : Int32), Rn Z 6 (Option.map enc) 0 0 69 [(0, .ref a_this), (1, .int x1), (2, .int x2), (3, .int x3), (4, .int x4), (5, .int x5)] [] [(a_this, .inr (11, [.ref a_state, .ref a_readPage, .int g_isAwake, .ref a_tape, .int g_taped, .int g_fault, .int g_broken, .int g_brokenAt, .int g_spot, .int g_here, .int g_token, .int g_value, .ref a_letters, .int g_hasPlaces, .int g_highest, .ref a_sums, .ref a_aside, .ref a_groups, .ref a_sides, .int g_laid, .int g_groupMany, .int g_isDrawn, .ref a_names, .ref a_firstNames, .ref a_isKept, .ref a_lanes, .ref a_lengths, .ref a_cells, .int g_torn, .ref a_had])), (a_state, .inl ((zG Z).2.1 1, 96, .inl g_state))] (X11_isTold_B69 g_state again k126 x1 x2 x3 x4 x5) := by
    intro again k126 hagain hk126 x1 x2 x3 x4 x5
    unfold X11_isTold_B69
    refine rn_iload hX dX11_isTold_69 5 rfl 71 rfl ?_
    refine rn_aload_n hX dX11_isTold_71 0 rfl 72 rfl ?_
    refine rn_get hX inX11 0 rfl rfl 0 (by decide) fl7 rfl rfl dX11_isTold_72 75 rfl ?_
    refine rn_bipush hX dX11_isTold_75 77 rfl bp_21 ?_
    refine rn_ialdk hX 1 rfl cl_21 (vpk (by decide)) dX11_isTold_77 78 rfl ?_
    refine rn_icmp_ge hX dX11_isTold_78 126 (by decide) 81 rfl ?_ ?_
    · refine rn_sub [0, 1, 2, 3, 4] rfl ?_
      exact hk126 x1 x2 x3 x4
    refine rn_iload hX dX11_isTold_81 4 rfl 83 rfl ?_
    refine rn_if_eq hX dX11_isTold_83 126 (by decide) 86 rfl ?_ ?_
    · refine rn_sub [0, 1, 2, 3, 4] rfl ?_
      exact hk126 x1 x2 x3 x4
    refine rn_iload_n hX dX11_isTold_86 2 rfl 87 rfl ?_
    refine rn_iload hX dX11_isTold_87 5 rfl 89 rfl ?_
    refine rn_ishr hX dX11_isTold_89 90 rfl ?_
    refine rn_iconst hX dX11_isTold_90 91 rfl ic_1 ?_
    refine rn_iand hX dX11_isTold_91 92 rfl ?_
    refine rn_if_eq hX dX11_isTold_92 113 (by decide) 95 rfl ?_ ?_
    · refine rn_sub [0, 1, 2, 3, 5] rfl ?_
      exact (hJ113 _ _ hagain hk126) x1 x2 x3 x5
    refine rn_aload_n hX dX11_isTold_95 0 rfl 96 rfl ?_
    refine rn_iload_n hX dX11_isTold_96 3 rfl 97 rfl ?_
    refine rn_iload hX dX11_isTold_97 5 rfl 99 rfl ?_
    refine rn_bind (fun u3 hu3 => ?_)
    refine rn_callV0 hX (gV mcC wd_1156 wd_1158 wd_36 wd_81 wd_1159) rfl hdV_X11_sq rfl rfl ⟨Nat.le_of_ble_eq_true rfl, Nat.le_of_ble_eq_true rfl⟩ (c_X11_sq (zl Z) (zG Z) a_this a_state a_readPage a_tape a_letters a_sums a_aside a_groups a_sides a_names a_firstNames a_isKept a_lanes a_lengths a_cells a_had g_isAwake g_taped g_fault g_broken g_brokenAt g_spot g_here g_token g_value g_hasPlaces g_highest g_laid g_groupMany g_isDrawn g_torn g_state x3 x5 hu3) rfl [0, 1] rfl rfl (ci := 11) rfl rfl rfl (Nat.le_of_ble_eq_true rfl) dX11_isTold_99 102 rfl (S' := [.long u3]) rfl ⟨Nat.zero_le _, Nat.zero_le _⟩ ?_
    refine rn_aload_n hX dX11_isTold_102 0 rfl 103 rfl ?_
    refine rn_iload_n hX dX11_isTold_103 1 rfl 104 rfl ?_
    refine rn_iload hX dX11_isTold_104 5 rfl 106 rfl ?_
    refine rn_bind (fun u4 hu4 => ?_)
    refine rn_callV0 hX (gV mcC wd_1156 wd_1158 wd_36 wd_81 wd_1159) rfl hdV_X11_sq rfl rfl ⟨Nat.le_of_ble_eq_true rfl, Nat.le_of_ble_eq_true rfl⟩ (c_X11_sq (zl Z) (zG Z) a_this a_state a_readPage a_tape a_letters a_sums a_aside a_groups a_sides a_names a_firstNames a_isKept a_lanes a_lengths a_cells a_had g_isAwake g_taped g_fault g_broken g_brokenAt g_spot g_here g_token g_value g_hasPlaces g_highest g_laid g_groupMany g_isDrawn g_torn g_state x1 x5 hu4) rfl [0, 1] rfl rfl (ci := 11) rfl rfl rfl (Nat.le_of_ble_eq_true rfl) dX11_isTold_106 109 rfl (S' := [.long u4, .long u3]) rfl ⟨Nat.zero_le _, Nat.zero_le _⟩ ?_
    refine rn_lcmp_ne hX dX11_isTold_109 110 rfl dX11_isTold_110 117 (by decide) 113 rfl ?_ ?_
    · refine rn_iconst hX dX11_isTold_117 118 rfl ic_0 ?_
      refine rn_sub [0, 1, 2, 3, 5] rfl ?_
      exact (hJ118 _ _ hagain hk126) x1 x2 x3 x5 (0 : Int32)
    refine rn_sub [0, 1, 2, 3, 5] rfl ?_
    exact (hJ113 _ _ hagain hk126) x1 x2 x3 x5
  have hL69 : ∀ (k126 : Int32 → Int32 → Int32 → Int32 → Option (Int32)) (hk126 : ∀ (x1 : Int32) (x2 : Int32) (x3 : Int32) (x4 : Int32), Rn Z 6 (Option.map enc) 0 0 126 [(0, .ref a_this), (1, .int x1), (2, .int x2), (3, .int x3), (4, .int x4)] [] [(a_this, .inr (11, [.ref a_state, .ref a_readPage, .int g_isAwake, .ref a_tape, .int g_taped, .int g_fault, .int g_broken, .int g_brokenAt, .int g_spot, .int g_here, .int g_token, .int g_value, .ref a_letters, .int g_hasPlaces, .int g_highest, .ref a_sums, .ref a_aside, .ref a_groups, .ref a_sides, .int g_laid, .int g_groupMany, .int g_isDrawn, .ref a_names, .ref a_firstNames, .ref a_isKept, .ref a_lanes, .ref a_lengths, .ref a_cells, .int g_torn, .ref a_had])), (a_state, .inl ((zG Z).2.1 1, 96, .inl g_state))] (k126 x1 x2 x3 x4)) (n : Nat) (x1 : Int32) (x2 : Int32) (x3 : Int32) (x4 : Int32) (x5 : Int32), Rn Z 6 (Option.map enc) 0 0 69 [(0, .ref a_this), (1, .int x1), (2, .int x2), (3, .int x3), (4, .int x4), (5, .int x5)] [] [(a_this, .inr (11, [.ref a_state, .ref a_readPage, .int g_isAwake, .ref a_tape, .int g_taped, .int g_fault, .int g_broken, .int g_brokenAt, .int g_spot, .int g_here, .int g_token, .int g_value, .ref a_letters, .int g_hasPlaces, .int g_highest, .ref a_sums, .ref a_aside, .ref a_groups, .ref a_sides, .int g_laid, .int g_groupMany, .int g_isDrawn, .ref a_names, .ref a_firstNames, .ref a_isKept, .ref a_lanes, .ref a_lengths, .ref a_cells, .int g_torn, .ref a_had])), (a_state, .inl ((zG Z).2.1 1, 96, .inl g_state))] (X11_isTold_L69 g_state k126 n x1 x2 x3 x4 x5) := by
    intro k126 hk126 n
    induction n with
    | zero => intros; exact rn_none
    | succ n ih => exact hB69 _ _ ih hk126
  have hJ64 : ∀ (again : Int32 → Int32 → Int32 → Option (Int32)) (hagain : ∀ (x1 : Int32) (x2 : Int32) (x3 : Int32), Rn Z 6 (Option.map enc) 0 0 43 [(0, .ref a_this), (1, .int x1), (2, .int x2), (3, .int x3)] [] [(a_this, .inr (11, [.ref a_state, .ref a_readPage, .int g_isAwake, .ref a_tape, .int g_taped, .int g_fault, .int g_broken, .int g_brokenAt, .int g_spot, .int g_here, .int g_token, .int g_value, .ref a_letters, .int g_hasPlaces, .int g_highest, .ref a_sums, .ref a_aside, .ref a_groups, .ref a_sides, .int g_laid, .int g_groupMany, .int g_isDrawn, .ref a_names, .ref a_firstNames, .ref a_isKept, .ref a_lanes, .ref a_lengths, .ref a_cells, .int g_torn, .ref a_had])), (a_state, .inl ((zG Z).2.1 1, 96, .inl g_state))] (again x1 x2 x3)) (x1 : Int32) (x2 : Int32) (x3 : Int32) (s0 : Int32), Rn Z 6 (Option.map enc) 0 0 64 [(0, .ref a_this), (1, .int x1), (2, .int x2), (3, .int x3)] [.int s0] [(a_this, .inr (11, [.ref a_state, .ref a_readPage, .int g_isAwake, .ref a_tape, .int g_taped, .int g_fault, .int g_broken, .int g_brokenAt, .int g_spot, .int g_here, .int g_token, .int g_value, .ref a_letters, .int g_hasPlaces, .int g_highest, .ref a_sums, .ref a_aside, .ref a_groups, .ref a_sides, .int g_laid, .int g_groupMany, .int g_isDrawn, .ref a_names, .ref a_firstNames, .ref a_isKept, .ref a_lanes, .ref a_lengths, .ref a_cells, .int g_torn, .ref a_had])), (a_state, .inl ((zG Z).2.1 1, 96, .inl g_state))] (X11_isTold_J64 g_state again x1 x2 x3 s0) := by
    intro again hagain x1 x2 x3 s0
    unfold X11_isTold_J64
    refine rn_istore hX dX11_isTold_64 (by decide) (L' := [(4, .int s0), (0, .ref a_this), (1, .int x1), (2, .int x2), (3, .int x3)]) rfl 66 rfl ?_
    refine rn_iconst hX dX11_isTold_66 67 rfl ic_0 ?_
    refine rn_istore hX dX11_isTold_67 (by decide) (L' := [(5, .int (0 : Int32)), (4, .int s0), (0, .ref a_this), (1, .int x1), (2, .int x2), (3, .int x3)]) rfl 69 rfl ?_
    refine rn_sub [2, 3, 4, 5, 1, 0] rfl ?_
    exact (hL69 _ (hJ126 _ hagain) 1000) x1 x2 x3 s0 (0 : Int32)
  have hB43 : ∀ (again : Int32 → Int32 → Int32 → Option (Int32)) (hagain : ∀ (x1 : Int32) (x2 : Int32) (x3 : Int32), Rn Z 6 (Option.map enc) 0 0 43 [(0, .ref a_this), (1, .int x1), (2, .int x2), (3, .int x3)] [] [(a_this, .inr (11, [.ref a_state, .ref a_readPage, .int g_isAwake, .ref a_tape, .int g_taped, .int g_fault, .int g_broken, .int g_brokenAt, .int g_spot, .int g_here, .int g_token, .int g_value, .ref a_letters, .int g_hasPlaces, .int g_highest, .ref a_sums, .ref a_aside, .ref a_groups, .ref a_sides, .int g_laid, .int g_groupMany, .int g_isDrawn, .ref a_names, .ref a_firstNames, .ref a_isKept, .ref a_lanes, .ref a_lengths, .ref a_cells, .int g_torn, .ref a_had])), (a_state, .inl ((zG Z).2.1 1, 96, .inl g_state))] (again x1 x2 x3)) (x1 : Int32) (x2 : Int32) (x3 : Int32), Rn Z 6 (Option.map enc) 0 0 43 [(0, .ref a_this), (1, .int x1), (2, .int x2), (3, .int x3)] [] [(a_this, .inr (11, [.ref a_state, .ref a_readPage, .int g_isAwake, .ref a_tape, .int g_taped, .int g_fault, .int g_broken, .int g_brokenAt, .int g_spot, .int g_here, .int g_token, .int g_value, .ref a_letters, .int g_hasPlaces, .int g_highest, .ref a_sums, .ref a_aside, .ref a_groups, .ref a_sides, .int g_laid, .int g_groupMany, .int g_isDrawn, .ref a_names, .ref a_firstNames, .ref a_isKept, .ref a_lanes, .ref a_lengths, .ref a_cells, .int g_torn, .ref a_had])), (a_state, .inl ((zG Z).2.1 1, 96, .inl g_state))] (X11_isTold_B43 g_state again x1 x2 x3) := by
    intro again hagain x1 x2 x3
    unfold X11_isTold_B43
    refine rn_iload_n hX dX11_isTold_43 3 rfl 44 rfl ?_
    refine rn_aload_n hX dX11_isTold_44 0 rfl 45 rfl ?_
    refine rn_get hX inX11 0 rfl rfl 0 (by decide) fl7 rfl rfl dX11_isTold_45 48 rfl ?_
    refine rn_bipush hX dX11_isTold_48 50 rfl bp_21 ?_
    refine rn_ialdk hX 1 rfl cl_21 (vpk (by decide)) dX11_isTold_50 51 rfl ?_
    refine rn_icmp_ge hX dX11_isTold_51 139 (by decide) 54 rfl ?_ ?_
    · refine rn_iconst hX dX11_isTold_139 140 rfl ic_1 ?_
      exact rn_zret hX rfl hr (by rw [henc]; rfl) dX11_isTold_140
    refine rn_iload_n hX dX11_isTold_54 3 rfl 55 rfl ?_
    refine rn_iload_n hX dX11_isTold_55 1 rfl 56 rfl ?_
    refine rn_icmp_eq hX dX11_isTold_56 63 (by decide) 59 rfl ?_ ?_
    · refine rn_iconst hX dX11_isTold_63 64 rfl ic_0 ?_
      exact (hJ64 _ hagain) x1 x2 x3 (0 : Int32)
    refine rn_iconst hX dX11_isTold_59 60 rfl ic_1 ?_
    refine rn_goto hX dX11_isTold_60 64 (by decide) ?_
    exact (hJ64 _ hagain) x1 x2 x3 (1 : Int32)
  have hL43 : ∀ (n : Nat) (x1 : Int32) (x2 : Int32) (x3 : Int32), Rn Z 6 (Option.map enc) 0 0 43 [(0, .ref a_this), (1, .int x1), (2, .int x2), (3, .int x3)] [] [(a_this, .inr (11, [.ref a_state, .ref a_readPage, .int g_isAwake, .ref a_tape, .int g_taped, .int g_fault, .int g_broken, .int g_brokenAt, .int g_spot, .int g_here, .int g_token, .int g_value, .ref a_letters, .int g_hasPlaces, .int g_highest, .ref a_sums, .ref a_aside, .ref a_groups, .ref a_sides, .int g_laid, .int g_groupMany, .int g_isDrawn, .ref a_names, .ref a_firstNames, .ref a_isKept, .ref a_lanes, .ref a_lengths, .ref a_cells, .int g_torn, .ref a_had])), (a_state, .inl ((zG Z).2.1 1, 96, .inl g_state))] (X11_isTold_L43 g_state n x1 x2 x3) := by
    intro n
    induction n with
    | zero => intros; exact rn_none
    | succ n ih => exact hB43 _ ih
  have hJ41 : ∀ (x1 : Int32) (x2 : Int32), Rn Z 6 (Option.map enc) 0 0 41 [(0, .ref a_this), (1, .int x1), (2, .int x2)] [] [(a_this, .inr (11, [.ref a_state, .ref a_readPage, .int g_isAwake, .ref a_tape, .int g_taped, .int g_fault, .int g_broken, .int g_brokenAt, .int g_spot, .int g_here, .int g_token, .int g_value, .ref a_letters, .int g_hasPlaces, .int g_highest, .ref a_sums, .ref a_aside, .ref a_groups, .ref a_sides, .int g_laid, .int g_groupMany, .int g_isDrawn, .ref a_names, .ref a_firstNames, .ref a_isKept, .ref a_lanes, .ref a_lengths, .ref a_cells, .int g_torn, .ref a_had])), (a_state, .inl ((zG Z).2.1 1, 96, .inl g_state))] (X11_isTold_J41 g_state x1 x2) := by
    intro x1 x2
    unfold X11_isTold_J41
    refine rn_iconst hX dX11_isTold_41 42 rfl ic_0 ?_
    refine rn_istore_n hX dX11_isTold_42 3 rfl (by decide) (L' := [(3, .int (0 : Int32)), (0, .ref a_this), (1, .int x1), (2, .int x2)]) rfl 43 rfl ?_
    refine rn_sub [1, 2, 3, 0] rfl ?_
    exact (hL43  1000) x1 x2 (0 : Int32)
  have hJ35 : ∀ (again : Int32 → Int32 → Int32 → Option (Int32)) (k41 : Int32 → Int32 → Option (Int32)) (hagain : ∀ (x1 : Int32) (x2 : Int32) (x3 : Int32), Rn Z 6 (Option.map enc) 0 0 2 [(0, .ref a_this), (1, .int x1), (2, .int x2), (3, .int x3)] [] [(a_this, .inr (11, [.ref a_state, .ref a_readPage, .int g_isAwake, .ref a_tape, .int g_taped, .int g_fault, .int g_broken, .int g_brokenAt, .int g_spot, .int g_here, .int g_token, .int g_value, .ref a_letters, .int g_hasPlaces, .int g_highest, .ref a_sums, .ref a_aside, .ref a_groups, .ref a_sides, .int g_laid, .int g_groupMany, .int g_isDrawn, .ref a_names, .ref a_firstNames, .ref a_isKept, .ref a_lanes, .ref a_lengths, .ref a_cells, .int g_torn, .ref a_had])), (a_state, .inl ((zG Z).2.1 1, 96, .inl g_state))] (again x1 x2 x3)) (hk41 : ∀ (x1 : Int32) (x2 : Int32), Rn Z 6 (Option.map enc) 0 0 41 [(0, .ref a_this), (1, .int x1), (2, .int x2)] [] [(a_this, .inr (11, [.ref a_state, .ref a_readPage, .int g_isAwake, .ref a_tape, .int g_taped, .int g_fault, .int g_broken, .int g_brokenAt, .int g_spot, .int g_here, .int g_token, .int g_value, .ref a_letters, .int g_hasPlaces, .int g_highest, .ref a_sums, .ref a_aside, .ref a_groups, .ref a_sides, .int g_laid, .int g_groupMany, .int g_isDrawn, .ref a_names, .ref a_firstNames, .ref a_isKept, .ref a_lanes, .ref a_lengths, .ref a_cells, .int g_torn, .ref a_had])), (a_state, .inl ((zG Z).2.1 1, 96, .inl g_state))] (k41 x1 x2)) (x1 : Int32) (x2 : Int32) (x3 : Int32), Rn Z 6 (Option.map enc) 0 0 35 [(0, .ref a_this), (1, .int x1), (2, .int x2), (3, .int x3)] [] [(a_this, .inr (11, [.ref a_state, .ref a_readPage, .int g_isAwake, .ref a_tape, .int g_taped, .int g_fault, .int g_broken, .int g_brokenAt, .int g_spot, .int g_here, .int g_token, .int g_value, .ref a_letters, .int g_hasPlaces, .int g_highest, .ref a_sums, .ref a_aside, .ref a_groups, .ref a_sides, .int g_laid, .int g_groupMany, .int g_isDrawn, .ref a_names, .ref a_firstNames, .ref a_isKept, .ref a_lanes, .ref a_lengths, .ref a_cells, .int g_torn, .ref a_had])), (a_state, .inl ((zG Z).2.1 1, 96, .inl g_state))] (X11_isTold_J35 again k41 x1 x2 x3) := by
    intro again k41 hagain hk41 x1 x2 x3
    unfold X11_isTold_J35
    refine rn_iinc hX dX11_isTold_35 3 rfl ic_1 (by decide) (L' := fun v5 => [(3, .int v5), (0, .ref a_this), (1, .int x1), (2, .int x2)]) (fun _ => rfl) 38 rfl (fun v5 => ?_)
    refine rn_goto hX dX11_isTold_38 2 (by decide) ?_
    refine rn_sub [1, 2, 3, 0] rfl ?_
    exact hagain x1 x2 v5
  have hB2 : ∀ (again : Int32 → Int32 → Int32 → Option (Int32)) (k41 : Int32 → Int32 → Option (Int32)) (hagain : ∀ (x1 : Int32) (x2 : Int32) (x3 : Int32), Rn Z 6 (Option.map enc) 0 0 2 [(0, .ref a_this), (1, .int x1), (2, .int x2), (3, .int x3)] [] [(a_this, .inr (11, [.ref a_state, .ref a_readPage, .int g_isAwake, .ref a_tape, .int g_taped, .int g_fault, .int g_broken, .int g_brokenAt, .int g_spot, .int g_here, .int g_token, .int g_value, .ref a_letters, .int g_hasPlaces, .int g_highest, .ref a_sums, .ref a_aside, .ref a_groups, .ref a_sides, .int g_laid, .int g_groupMany, .int g_isDrawn, .ref a_names, .ref a_firstNames, .ref a_isKept, .ref a_lanes, .ref a_lengths, .ref a_cells, .int g_torn, .ref a_had])), (a_state, .inl ((zG Z).2.1 1, 96, .inl g_state))] (again x1 x2 x3)) (hk41 : ∀ (x1 : Int32) (x2 : Int32), Rn Z 6 (Option.map enc) 0 0 41 [(0, .ref a_this), (1, .int x1), (2, .int x2)] [] [(a_this, .inr (11, [.ref a_state, .ref a_readPage, .int g_isAwake, .ref a_tape, .int g_taped, .int g_fault, .int g_broken, .int g_brokenAt, .int g_spot, .int g_here, .int g_token, .int g_value, .ref a_letters, .int g_hasPlaces, .int g_highest, .ref a_sums, .ref a_aside, .ref a_groups, .ref a_sides, .int g_laid, .int g_groupMany, .int g_isDrawn, .ref a_names, .ref a_firstNames, .ref a_isKept, .ref a_lanes, .ref a_lengths, .ref a_cells, .int g_torn, .ref a_had])), (a_state, .inl ((zG Z).2.1 1, 96, .inl g_state))] (k41 x1 x2)) (x1 : Int32) (x2 : Int32) (x3 : Int32), Rn Z 6 (Option.map enc) 0 0 2 [(0, .ref a_this), (1, .int x1), (2, .int x2), (3, .int x3)] [] [(a_this, .inr (11, [.ref a_state, .ref a_readPage, .int g_isAwake, .ref a_tape, .int g_taped, .int g_fault, .int g_broken, .int g_brokenAt, .int g_spot, .int g_here, .int g_token, .int g_value, .ref a_letters, .int g_hasPlaces, .int g_highest, .ref a_sums, .ref a_aside, .ref a_groups, .ref a_sides, .int g_laid, .int g_groupMany, .int g_isDrawn, .ref a_names, .ref a_firstNames, .ref a_isKept, .ref a_lanes, .ref a_lengths, .ref a_cells, .int g_torn, .ref a_had])), (a_state, .inl ((zG Z).2.1 1, 96, .inl g_state))] (X11_isTold_B2 g_state again k41 x1 x2 x3) := by
    intro again k41 hagain hk41 x1 x2 x3
    unfold X11_isTold_B2
    refine rn_iload_n hX dX11_isTold_2 3 rfl 3 rfl ?_
    refine rn_aload_n hX dX11_isTold_3 0 rfl 4 rfl ?_
    refine rn_get hX inX11 0 rfl rfl 0 (by decide) fl7 rfl rfl dX11_isTold_4 7 rfl ?_
    refine rn_bipush hX dX11_isTold_7 9 rfl bp_21 ?_
    refine rn_ialdk hX 1 rfl cl_21 (vpk (by decide)) dX11_isTold_9 10 rfl ?_
    refine rn_icmp_ge hX dX11_isTold_10 41 (by decide) 13 rfl ?_ ?_
    · refine rn_sub [0, 1, 2] rfl ?_
      exact hk41 x1 x2
    refine rn_iload_n hX dX11_isTold_13 2 rfl 14 rfl ?_
    refine rn_iload_n hX dX11_isTold_14 3 rfl 15 rfl ?_
    refine rn_ishr hX dX11_isTold_15 16 rfl ?_
    refine rn_iconst hX dX11_isTold_16 17 rfl ic_1 ?_
    refine rn_iand hX dX11_isTold_17 18 rfl ?_
    refine rn_iconst hX dX11_isTold_18 19 rfl ic_1 ?_
    refine rn_icmp_ne hX dX11_isTold_19 35 (by decide) 22 rfl ?_ ?_
    · exact (hJ35 _ _ hagain hk41) x1 x2 x3
    refine rn_aload_n hX dX11_isTold_22 0 rfl 23 rfl ?_
    refine rn_iload_n hX dX11_isTold_23 1 rfl 24 rfl ?_
    refine rn_iload_n hX dX11_isTold_24 3 rfl 25 rfl ?_
    refine rn_bind (fun u6 hu6 => ?_)
    refine rn_callV0 hX (gV mcC wd_1156 wd_1158 wd_36 wd_81 wd_1159) rfl hdV_X11_sq rfl rfl ⟨Nat.le_of_ble_eq_true rfl, Nat.le_of_ble_eq_true rfl⟩ (c_X11_sq (zl Z) (zG Z) a_this a_state a_readPage a_tape a_letters a_sums a_aside a_groups a_sides a_names a_firstNames a_isKept a_lanes a_lengths a_cells a_had g_isAwake g_taped g_fault g_broken g_brokenAt g_spot g_here g_token g_value g_hasPlaces g_highest g_laid g_groupMany g_isDrawn g_torn g_state x1 x3 hu6) rfl [0, 1] rfl rfl (ci := 11) rfl rfl rfl (Nat.le_of_ble_eq_true rfl) dX11_isTold_25 28 rfl (S' := [.long u6]) rfl ⟨Nat.zero_le _, Nat.zero_le _⟩ ?_
    refine rn_lconst hX dX11_isTold_28 29 rfl lc_0 ?_
    refine rn_lcmp_ne hX dX11_isTold_29 30 rfl dX11_isTold_30 35 (by decide) 33 rfl ?_ ?_
    · exact (hJ35 _ _ hagain hk41) x1 x2 x3
    refine rn_iconst hX dX11_isTold_33 34 rfl ic_0 ?_
    exact rn_zret hX rfl hr (by rw [henc]; rfl) dX11_isTold_34
  have hL2 : ∀ (k41 : Int32 → Int32 → Option (Int32)) (hk41 : ∀ (x1 : Int32) (x2 : Int32), Rn Z 6 (Option.map enc) 0 0 41 [(0, .ref a_this), (1, .int x1), (2, .int x2)] [] [(a_this, .inr (11, [.ref a_state, .ref a_readPage, .int g_isAwake, .ref a_tape, .int g_taped, .int g_fault, .int g_broken, .int g_brokenAt, .int g_spot, .int g_here, .int g_token, .int g_value, .ref a_letters, .int g_hasPlaces, .int g_highest, .ref a_sums, .ref a_aside, .ref a_groups, .ref a_sides, .int g_laid, .int g_groupMany, .int g_isDrawn, .ref a_names, .ref a_firstNames, .ref a_isKept, .ref a_lanes, .ref a_lengths, .ref a_cells, .int g_torn, .ref a_had])), (a_state, .inl ((zG Z).2.1 1, 96, .inl g_state))] (k41 x1 x2)) (n : Nat) (x1 : Int32) (x2 : Int32) (x3 : Int32), Rn Z 6 (Option.map enc) 0 0 2 [(0, .ref a_this), (1, .int x1), (2, .int x2), (3, .int x3)] [] [(a_this, .inr (11, [.ref a_state, .ref a_readPage, .int g_isAwake, .ref a_tape, .int g_taped, .int g_fault, .int g_broken, .int g_brokenAt, .int g_spot, .int g_here, .int g_token, .int g_value, .ref a_letters, .int g_hasPlaces, .int g_highest, .ref a_sums, .ref a_aside, .ref a_groups, .ref a_sides, .int g_laid, .int g_groupMany, .int g_isDrawn, .ref a_names, .ref a_firstNames, .ref a_isKept, .ref a_lanes, .ref a_lengths, .ref a_cells, .int g_torn, .ref a_had])), (a_state, .inl ((zG Z).2.1 1, 96, .inl g_state))] (X11_isTold_L2 g_state k41 n x1 x2 x3) := by
    intro k41 hk41 n
    induction n with
    | zero => intros; exact rn_none
    | succ n ih => exact hB2 _ _ ih hk41
  unfold X11_isTold
  refine rn_iconst hX dX11_isTold_0 1 rfl ic_0 ?_
  refine rn_istore_n hX dX11_isTold_1 3 rfl (by decide) (L' := [(3, .int (0 : Int32)), (0, .ref a_this), (1, .int x1), (2, .int x2)]) rfl 2 rfl ?_
  refine rn_sub [1, 2, 3, 0] rfl ?_
  exact (hL2 _ hJ41 1000) x1 x2 (0 : Int32)
abbrev rmX11_areSome : Room := { frames := 1, cells := 0, slots := 0, locals := 25 }
theorem hdV_X11_areSome : yX11_areSome.cls = RX11 ∧ yX11_areSome.cls ≠ "java/lang/invoke/MethodHandle" ∧ yX11_areSome.cls ≠ "java/lang/invoke/VarHandle" ∧ (parseMethodDescriptor yX11_areSome.desc).map (fun d => d.parameters.length) = some 2 := by decide +kernel
set_option maxHeartbeats 4000000 in
set_option maxRecDepth 100000 in
theorem c_X11_areSome (l : Launch) (G : GT) (a_this a_state a_readPage a_tape a_letters a_sums a_aside a_groups a_sides a_names a_firstNames a_isKept a_lanes a_lengths a_cells a_had : Nat) (g_isAwake : Int32) (g_taped : Int32) (g_fault : Int32) (g_broken : Int32) (g_brokenAt : Int32) (g_spot : Int32) (g_here : Int32) (g_token : Int32) (g_value : Int32) (g_hasPlaces : Int32) (g_highest : Int32) (g_laid : Int32) (g_groupMany : Int32) (g_isDrawn : Int32) (g_torn : Int32) (g_state : (Nat → Int32)) (x1 : Int32) (x2 : Int32) {u : Int32} (hu : X11_areSome x1 x2 g_state = u) : Ctr l G yX11_areSome wsX11_areSome rmX11_areSome [.ref a_this, .int x1, .int x2] [(a_this, .inr (11, [.ref a_state, .ref a_readPage, .int g_isAwake, .ref a_tape, .int g_taped, .int g_fault, .int g_broken, .int g_brokenAt, .int g_spot, .int g_here, .int g_token, .int g_value, .ref a_letters, .int g_hasPlaces, .int g_highest, .ref a_sums, .ref a_aside, .ref a_groups, .ref a_sides, .int g_laid, .int g_groupMany, .int g_isDrawn, .ref a_names, .ref a_firstNames, .ref a_isKept, .ref a_lanes, .ref a_lengths, .ref a_cells, .int g_torn, .ref a_had])), (a_state, .inl (G.2.1 1, 96, .inl g_state))] (some (.int u)) [(a_this, .inr (11, [.ref a_state, .ref a_readPage, .int g_isAwake, .ref a_tape, .int g_taped, .int g_fault, .int g_broken, .int g_brokenAt, .int g_spot, .int g_here, .int g_token, .int g_value, .ref a_letters, .int g_hasPlaces, .int g_highest, .ref a_sums, .ref a_aside, .ref a_groups, .ref a_sides, .int g_laid, .int g_groupMany, .int g_isDrawn, .ref a_names, .ref a_firstNames, .ref a_isKept, .ref a_lanes, .ref a_lengths, .ref a_cells, .int g_torn, .ref a_had])), (a_state, .inl (G.2.1 1, 96, .inl g_state))] := by
  obtain ⟨enc, henc⟩ : ∃ enc : (Int32) → Option Value × va_W, enc = fun u => (((some (.int u)) : Option Value), ([(a_this, .inr (11, [.ref a_state, .ref a_readPage, .int g_isAwake, .ref a_tape, .int g_taped, .int g_fault, .int g_broken, .int g_brokenAt, .int g_spot, .int g_here, .int g_token, .int g_value, .ref a_letters, .int g_hasPlaces, .int g_highest, .ref a_sums, .ref a_aside, .ref a_groups, .ref a_sides, .int g_laid, .int g_groupMany, .int g_isDrawn, .ref a_names, .ref a_firstNames, .ref a_isKept, .ref a_lanes, .ref a_lengths, .ref a_cells, .int g_torn, .ref a_had])), (a_state, .inl (G.2.1 1, 96, .inl g_state))] : va_W)) := ⟨_, rfl⟩
  refine ctr_of (cc := cX11_areSome) (own := RX11) (E := fun o => some (enc o)) (o := X11_areSome x1 x2 g_state) (by decide) rfl rfl (L := [(0, .ref a_this), (1, .int x1), (2, .int x2)]) rfl (Nat.le_of_ble_eq_true rfl) (by rw [hu, henc]) ?_
  intro Z hX hl hG hr
  subst hl; subst hG
  have fl7 : (Cond.fieldLink RX11 7 "OnlyFarModel" "state" "[I").before (za Z) (zs Z) = true := hX.wd (mcC _ wd_990)
  have inX11 : ∀ w ∈ u_ws RX11 TX11 30, w ∈ wsX11_areSome := fun w h => mcC w (inC_X11 w h)
  unfold X11_areSome
  refine rn_iload_n hX dX11_areSome_0 2 rfl 1 rfl ?_
  refine rn_i2l hX dX11_areSome_1 2 rfl ?_
  refine rn_lconst hX dX11_areSome_2 3 rfl lc_1 ?_
  refine rn_iconst hX dX11_areSome_3 4 rfl ic_1 ?_
  refine rn_aload_n hX dX11_areSome_4 0 rfl 5 rfl ?_
  refine rn_get hX inX11 0 rfl rfl 0 (by decide) fl7 rfl rfl dX11_areSome_5 8 rfl ?_
  refine rn_bipush hX dX11_areSome_8 10 rfl bp_21 ?_
  refine rn_ialdk hX 1 rfl cl_21 (vpk (by decide)) dX11_areSome_10 11 rfl ?_
  refine rn_ishl hX dX11_areSome_11 12 rfl ?_
  refine rn_iconst hX dX11_areSome_12 13 rfl ic_1 ?_
  refine rn_isub hX dX11_areSome_13 14 rfl ?_
  refine rn_i2l hX dX11_areSome_14 15 rfl ?_
  refine rn_callS0 hX (gS mcC wd_1090 wd_1091 wd_81 wd_1092) rfl hdS_X11_in rfl rfl ⟨Nat.le_of_ble_eq_true rfl, Nat.le_of_ble_eq_true rfl⟩ (c_X11_in (zl Z) (zG Z) x2.toInt64 (1 : Int64) ((((1 : Int32) <<< ((g_state 21) &&& 31)) - (1 : Int32)).toInt64) rfl) rfl [] rfl rfl rfl (Nat.le_of_ble_eq_true rfl) dX11_areSome_15 18 rfl (S' := [.int (X11_in x2.toInt64 (1 : Int64) ((((1 : Int32) <<< ((g_state 21) &&& 31)) - (1 : Int32)).toInt64))]) rfl ⟨Nat.zero_le _, Nat.zero_le _⟩ ?_
  refine rn_if_eq hX dX11_areSome_18 33 (by decide) 21 rfl ?_ ?_
  · refine rn_iconst hX dX11_areSome_33 34 rfl ic_0 ?_
    exact rn_zret hX rfl hr (by rw [henc]) dX11_areSome_34
  refine rn_iload_n hX dX11_areSome_21 2 rfl 22 rfl ?_
  refine rn_iload_n hX dX11_areSome_22 1 rfl 23 rfl ?_
  refine rn_ishr hX dX11_areSome_23 24 rfl ?_
  refine rn_iconst hX dX11_areSome_24 25 rfl ic_1 ?_
  refine rn_iand hX dX11_areSome_25 26 rfl ?_
  refine rn_if_ne hX dX11_areSome_26 33 (by decide) 29 rfl ?_ ?_
  · refine rn_iconst hX dX11_areSome_33 34 rfl ic_0 ?_
    exact rn_zret hX rfl hr (by rw [henc]) dX11_areSome_34
  refine rn_iconst hX dX11_areSome_29 30 rfl ic_1 ?_
  refine rn_goto hX dX11_areSome_30 34 (by decide) ?_
  exact rn_zret hX rfl hr (by rw [henc]) dX11_areSome_34
abbrev rmX11_tells : Room := { frames := 3, cells := 0, slots := 0, locals := 70 }
theorem hdV_X11_tells : yX11_tells.cls = RX11 ∧ yX11_tells.cls ≠ "java/lang/invoke/MethodHandle" ∧ yX11_tells.cls ≠ "java/lang/invoke/VarHandle" ∧ (parseMethodDescriptor yX11_tells.desc).map (fun d => d.parameters.length) = some 2 := by decide +kernel
set_option maxHeartbeats 4000000 in
set_option maxRecDepth 100000 in
theorem c_X11_tells (l : Launch) (G : GT) (a_this a_state a_readPage a_tape a_letters a_sums a_aside a_groups a_sides a_names a_firstNames a_isKept a_lanes a_lengths a_cells a_had : Nat) (g_isAwake : Int32) (g_taped : Int32) (g_fault : Int32) (g_broken : Int32) (g_brokenAt : Int32) (g_spot : Int32) (g_here : Int32) (g_token : Int32) (g_value : Int32) (g_hasPlaces : Int32) (g_highest : Int32) (g_laid : Int32) (g_groupMany : Int32) (g_isDrawn : Int32) (g_torn : Int32) (g_state : (Nat → Int32)) (x1 : Int32) (x2 : Int32) {u : Int32 × Int32 × (Nat → Int32)} (hu : X11_tells x1 x2 g_isAwake g_state = some u) : Ctr l G yX11_tells wsX11_tells rmX11_tells [.ref a_this, .int x1, .int x2] [(a_this, .inr (11, [.ref a_state, .ref a_readPage, .int g_isAwake, .ref a_tape, .int g_taped, .int g_fault, .int g_broken, .int g_brokenAt, .int g_spot, .int g_here, .int g_token, .int g_value, .ref a_letters, .int g_hasPlaces, .int g_highest, .ref a_sums, .ref a_aside, .ref a_groups, .ref a_sides, .int g_laid, .int g_groupMany, .int g_isDrawn, .ref a_names, .ref a_firstNames, .ref a_isKept, .ref a_lanes, .ref a_lengths, .ref a_cells, .int g_torn, .ref a_had])), (a_state, .inl (G.2.1 1, 96, .inl g_state))] (some (.int u.1)) [(a_this, .inr (11, [.ref a_state, .ref a_readPage, .int u.2.1, .ref a_tape, .int g_taped, .int g_fault, .int g_broken, .int g_brokenAt, .int g_spot, .int g_here, .int g_token, .int g_value, .ref a_letters, .int g_hasPlaces, .int g_highest, .ref a_sums, .ref a_aside, .ref a_groups, .ref a_sides, .int g_laid, .int g_groupMany, .int g_isDrawn, .ref a_names, .ref a_firstNames, .ref a_isKept, .ref a_lanes, .ref a_lengths, .ref a_cells, .int g_torn, .ref a_had])), (a_state, .inl (G.2.1 1, 96, .inl u.2.2))] := by
  obtain ⟨enc, henc⟩ : ∃ enc : (Int32 × Int32 × (Nat → Int32)) → Option Value × va_W, enc = fun u => (((some (.int u.1)) : Option Value), ([(a_this, .inr (11, [.ref a_state, .ref a_readPage, .int u.2.1, .ref a_tape, .int g_taped, .int g_fault, .int g_broken, .int g_brokenAt, .int g_spot, .int g_here, .int g_token, .int g_value, .ref a_letters, .int g_hasPlaces, .int g_highest, .ref a_sums, .ref a_aside, .ref a_groups, .ref a_sides, .int g_laid, .int g_groupMany, .int g_isDrawn, .ref a_names, .ref a_firstNames, .ref a_isKept, .ref a_lanes, .ref a_lengths, .ref a_cells, .int g_torn, .ref a_had])), (a_state, .inl (G.2.1 1, 96, .inl u.2.2))] : va_W)) := ⟨_, rfl⟩
  refine ctr_of (cc := cX11_tells) (own := RX11) (E := Option.map enc) (o := X11_tells x1 x2 g_isAwake g_state) (by decide) rfl rfl (L := [(0, .ref a_this), (1, .int x1), (2, .int x2)]) rfl (Nat.le_of_ble_eq_true rfl) (by rw [hu, henc]; rfl) ?_
  intro Z hX hl hG hr
  subst hl; subst hG
  unfold X11_tells
  refine rn_aload_n hX dX11_tells_0 0 rfl 1 rfl ?_
  refine rn_iload_n hX dX11_tells_1 1 rfl 2 rfl ?_
  refine rn_bind (fun u1 hu1 => ?_)
  refine rn_callV hX (gV mcC wd_1148 wd_1150 wd_34 wd_81 wd_1151) rfl hdV_X11_isPlace rfl rfl ⟨Nat.le_of_ble_eq_true rfl, Nat.le_of_ble_eq_true rfl⟩ (c_X11_isPlace (zl Z) (zG Z) a_this a_state a_readPage a_tape a_letters a_sums a_aside a_groups a_sides a_names a_firstNames a_isKept a_lanes a_lengths a_cells a_had g_isAwake g_taped g_fault g_broken g_brokenAt g_spot g_here g_token g_value g_hasPlaces g_highest g_laid g_groupMany g_isDrawn g_torn g_state x1 hu1) rfl [0, 1] rfl rfl rfl (ci := 11) rfl rfl rfl (Nat.le_of_ble_eq_true rfl) dX11_tells_2 5 rfl (wn := [(a_this, .inr (11, [.ref a_state, .ref a_readPage, .int u1.2.1, .ref a_tape, .int g_taped, .int g_fault, .int g_broken, .int g_brokenAt, .int g_spot, .int g_here, .int g_token, .int g_value, .ref a_letters, .int g_hasPlaces, .int g_highest, .ref a_sums, .ref a_aside, .ref a_groups, .ref a_sides, .int g_laid, .int g_groupMany, .int g_isDrawn, .ref a_names, .ref a_firstNames, .ref a_isKept, .ref a_lanes, .ref a_lengths, .ref a_cells, .int g_torn, .ref a_had])), (a_state, .inl ((zG Z).2.1 1, 96, .inl u1.2.2))]) rfl (S' := [.int u1.1]) rfl ⟨Nat.zero_le _, Nat.zero_le _⟩ ?_
  refine rn_if_eq hX dX11_tells_5 34 (by decide) 8 rfl ?_ ?_
  · refine rn_iconst hX dX11_tells_34 35 rfl ic_m1 ?_
    exact rn_iret hX hr (by rw [henc]; rfl) dX11_tells_35
  refine rn_aload_n hX dX11_tells_8 0 rfl 9 rfl ?_
  refine rn_iload_n hX dX11_tells_9 1 rfl 10 rfl ?_
  refine rn_iload_n hX dX11_tells_10 2 rfl 11 rfl ?_
  refine rn_callV0 hX (gV mcC wd_1361 wd_1363 wd_61 wd_81 wd_1364) rfl hdV_X11_areSome rfl rfl ⟨Nat.le_of_ble_eq_true rfl, Nat.le_of_ble_eq_true rfl⟩ (c_X11_areSome (zl Z) (zG Z) a_this a_state a_readPage a_tape a_letters a_sums a_aside a_groups a_sides a_names a_firstNames a_isKept a_lanes a_lengths a_cells a_had u1.2.1 g_taped g_fault g_broken g_brokenAt g_spot g_here g_token g_value g_hasPlaces g_highest g_laid g_groupMany g_isDrawn g_torn u1.2.2 x1 x2 rfl) rfl [0, 1] rfl rfl (ci := 11) rfl rfl rfl (Nat.le_of_ble_eq_true rfl) dX11_tells_11 14 rfl (S' := [.int (X11_areSome x1 x2 u1.2.2)]) rfl ⟨Nat.zero_le _, Nat.zero_le _⟩ ?_
  refine rn_if_eq hX dX11_tells_14 34 (by decide) 17 rfl ?_ ?_
  · refine rn_iconst hX dX11_tells_34 35 rfl ic_m1 ?_
    exact rn_iret hX hr (by rw [henc]; rfl) dX11_tells_35
  refine rn_aload_n hX dX11_tells_17 0 rfl 18 rfl ?_
  refine rn_iload_n hX dX11_tells_18 1 rfl 19 rfl ?_
  refine rn_iload_n hX dX11_tells_19 2 rfl 20 rfl ?_
  refine rn_bind (fun u2 hu2 => ?_)
  refine rn_callV0 hX (gV mcC wd_1365 wd_1367 wd_62 wd_81 wd_1368) rfl hdV_X11_isTold rfl rfl ⟨Nat.le_of_ble_eq_true rfl, Nat.le_of_ble_eq_true rfl⟩ (c_X11_isTold (zl Z) (zG Z) a_this a_state a_readPage a_tape a_letters a_sums a_aside a_groups a_sides a_names a_firstNames a_isKept a_lanes a_lengths a_cells a_had u1.2.1 g_taped g_fault g_broken g_brokenAt g_spot g_here g_token g_value g_hasPlaces g_highest g_laid g_groupMany g_isDrawn g_torn u1.2.2 x1 x2 hu2) rfl [0, 1] rfl rfl (ci := 11) rfl rfl rfl (Nat.le_of_ble_eq_true rfl) dX11_tells_20 23 rfl (S' := [.int u2]) rfl ⟨Nat.zero_le _, Nat.zero_le _⟩ ?_
  refine rn_if_eq hX dX11_tells_23 30 (by decide) 26 rfl ?_ ?_
  · refine rn_iconst hX dX11_tells_30 31 rfl ic_0 ?_
    refine rn_goto hX dX11_tells_31 35 (by decide) ?_
    exact rn_iret hX hr (by rw [henc]; rfl) dX11_tells_35
  refine rn_iconst hX dX11_tells_26 27 rfl ic_1 ?_
  refine rn_goto hX dX11_tells_27 35 (by decide) ?_
  exact rn_iret hX hr (by rw [henc]; rfl) dX11_tells_35
