abbrev rmX10_sheet : Room := { frames := 2, cells := 0, slots := 0, locals := 45 }
theorem hdV_X10_sheet : yX10_sheet.cls = RX10 ∧ yX10_sheet.cls ≠ "java/lang/invoke/MethodHandle" ∧ yX10_sheet.cls ≠ "java/lang/invoke/VarHandle" ∧ (parseMethodDescriptor yX10_sheet.desc).map (fun d => d.parameters.length) = some 3 := by decide +kernel
set_option maxHeartbeats 4000000 in
set_option maxRecDepth 100000 in
theorem c_X10_sheet (l : Launch) (G : GT) (a_this a_sheets a_sheets_0 a_sheets_0_cells a_sheets_1 a_sheets_1_cells a_sheets_2 a_sheets_2_cells a_sheets_3 a_sheets_3_cells a_tape a_reader a_table a_way a_images a_flaws a_sixthOf a_drawing a_naming : Nat) (g_lastFault : Int32) (g_lastTear : Int32) (g_sheets_0_lane : Int32) (g_sheets_0_size : Int32) (g_sheets_0_cells : (Nat → Int32)) (g_sheets_1_lane : Int32) (g_sheets_1_size : Int32) (g_sheets_1_cells : (Nat → Int32)) (g_sheets_2_lane : Int32) (g_sheets_2_size : Int32) (g_sheets_2_cells : (Nat → Int32)) (g_sheets_3_lane : Int32) (g_sheets_3_size : Int32) (g_sheets_3_cells : (Nat → Int32)) (x1 : Int32) (x2 : Int32) (x3 : Int32) {u : Int32 × Int32 × Int32 × (Nat → Int32) × Int32 × Int32 × (Nat → Int32) × Int32 × Int32 × (Nat → Int32) × Int32 × Int32 × (Nat → Int32)} (hu : X10_sheet x1 x2 x3 g_sheets_0_lane g_sheets_0_size g_sheets_0_cells g_sheets_1_lane g_sheets_1_size g_sheets_1_cells g_sheets_2_lane g_sheets_2_size g_sheets_2_cells g_sheets_3_lane g_sheets_3_size g_sheets_3_cells = some u) : Ctr l G yX10_sheet wsX10_sheet rmX10_sheet [.ref a_this, .int x1, .int x2, .int x3] [(a_this, .inr (10, [.ref a_tape, .ref a_reader, .ref a_table, .ref a_way, .ref a_images, .ref a_sheets, .ref a_flaws, .ref a_sixthOf, .ref a_drawing, .ref a_naming, .int g_lastFault, .int g_lastTear])), (a_sheets, .inl (G.2.1 4, 4, .inr (.inr (.inr (.inr (rf4 a_sheets_0 a_sheets_1 a_sheets_2 a_sheets_3)))))), (a_sheets_0, .inr (6, [.int g_sheets_0_lane, .int g_sheets_0_size, .ref a_sheets_0_cells])), (a_sheets_0_cells, .inl (G.2.1 1, 40, .inl g_sheets_0_cells)), (a_sheets_1, .inr (6, [.int g_sheets_1_lane, .int g_sheets_1_size, .ref a_sheets_1_cells])), (a_sheets_1_cells, .inl (G.2.1 1, 40, .inl g_sheets_1_cells)), (a_sheets_2, .inr (6, [.int g_sheets_2_lane, .int g_sheets_2_size, .ref a_sheets_2_cells])), (a_sheets_2_cells, .inl (G.2.1 1, 40, .inl g_sheets_2_cells)), (a_sheets_3, .inr (6, [.int g_sheets_3_lane, .int g_sheets_3_size, .ref a_sheets_3_cells])), (a_sheets_3_cells, .inl (G.2.1 1, 40, .inl g_sheets_3_cells))] (some (.int u.1)) [(a_this, .inr (10, [.ref a_tape, .ref a_reader, .ref a_table, .ref a_way, .ref a_images, .ref a_sheets, .ref a_flaws, .ref a_sixthOf, .ref a_drawing, .ref a_naming, .int g_lastFault, .int g_lastTear])), (a_sheets, .inl (G.2.1 4, 4, .inr (.inr (.inr (.inr (rf4 a_sheets_0 a_sheets_1 a_sheets_2 a_sheets_3)))))), (a_sheets_0, .inr (6, [.int u.2.1, .int u.2.2.1, .ref a_sheets_0_cells])), (a_sheets_0_cells, .inl (G.2.1 1, 40, .inl u.2.2.2.1)), (a_sheets_1, .inr (6, [.int u.2.2.2.2.1, .int u.2.2.2.2.2.1, .ref a_sheets_1_cells])), (a_sheets_1_cells, .inl (G.2.1 1, 40, .inl u.2.2.2.2.2.2.1)), (a_sheets_2, .inr (6, [.int u.2.2.2.2.2.2.2.1, .int u.2.2.2.2.2.2.2.2.1, .ref a_sheets_2_cells])), (a_sheets_2_cells, .inl (G.2.1 1, 40, .inl u.2.2.2.2.2.2.2.2.2.1)), (a_sheets_3, .inr (6, [.int u.2.2.2.2.2.2.2.2.2.2.1, .int u.2.2.2.2.2.2.2.2.2.2.2.1, .ref a_sheets_3_cells])), (a_sheets_3_cells, .inl (G.2.1 1, 40, .inl u.2.2.2.2.2.2.2.2.2.2.2.2))] := by
  obtain ⟨enc, henc⟩ : ∃ enc : (Int32 × Int32 × Int32 × (Nat → Int32) × Int32 × Int32 × (Nat → Int32) × Int32 × Int32 × (Nat → Int32) × Int32 × Int32 × (Nat → Int32)) → Option Value × va_W, enc = fun u => (((some (.int u.1)) : Option Value), ([(a_this, .inr (10, [.ref a_tape, .ref a_reader, .ref a_table, .ref a_way, .ref a_images, .ref a_sheets, .ref a_flaws, .ref a_sixthOf, .ref a_drawing, .ref a_naming, .int g_lastFault, .int g_lastTear])), (a_sheets, .inl (G.2.1 4, 4, .inr (.inr (.inr (.inr (rf4 a_sheets_0 a_sheets_1 a_sheets_2 a_sheets_3)))))), (a_sheets_0, .inr (6, [.int u.2.1, .int u.2.2.1, .ref a_sheets_0_cells])), (a_sheets_0_cells, .inl (G.2.1 1, 40, .inl u.2.2.2.1)), (a_sheets_1, .inr (6, [.int u.2.2.2.2.1, .int u.2.2.2.2.2.1, .ref a_sheets_1_cells])), (a_sheets_1_cells, .inl (G.2.1 1, 40, .inl u.2.2.2.2.2.2.1)), (a_sheets_2, .inr (6, [.int u.2.2.2.2.2.2.2.1, .int u.2.2.2.2.2.2.2.2.1, .ref a_sheets_2_cells])), (a_sheets_2_cells, .inl (G.2.1 1, 40, .inl u.2.2.2.2.2.2.2.2.2.1)), (a_sheets_3, .inr (6, [.int u.2.2.2.2.2.2.2.2.2.2.1, .int u.2.2.2.2.2.2.2.2.2.2.2.1, .ref a_sheets_3_cells])), (a_sheets_3_cells, .inl (G.2.1 1, 40, .inl u.2.2.2.2.2.2.2.2.2.2.2.2))] : va_W)) := ⟨_, rfl⟩
  refine ctr_of (cc := cX10_sheet) (own := RX10) (E := Option.map enc) (o := X10_sheet x1 x2 x3 g_sheets_0_lane g_sheets_0_size g_sheets_0_cells g_sheets_1_lane g_sheets_1_size g_sheets_1_cells g_sheets_2_lane g_sheets_2_size g_sheets_2_cells g_sheets_3_lane g_sheets_3_size g_sheets_3_cells) (by decide) rfl rfl (L := [(0, .ref a_this), (1, .int x1), (2, .int x2), (3, .int x3)]) rfl (Nat.le_of_ble_eq_true rfl) (by rw [hu, henc]; rfl) ?_
  intro Z hX hl hG hr
  subst hl; subst hG
  have fl48 : (Cond.fieldLink RX10 48 "OnlyFar" "sheets" "[LOnlyFar$Sheet;").before (za Z) (zs Z) = true := hX.wd (mcC _ wd_362)
  have inX10 : ∀ w ∈ u_ws RX10 TX10 12, w ∈ wsX10_sheet := fun w h => mcC w (inC_X10 w h)
  unfold X10_sheet
  refine rn_iload_n hX dX10_sheet_0 1 rfl 1 rfl ?_
  refine rn_callS0 hX (gS mcC wd_936 wd_937 wd_70 wd_938) rfl hdS_X10_isSheet rfl rfl ⟨Nat.le_of_ble_eq_true rfl, Nat.le_of_ble_eq_true rfl⟩ (c_X10_isSheet (zl Z) (zG Z) x1 rfl) rfl [] rfl rfl rfl (Nat.le_of_ble_eq_true rfl) dX10_sheet_1 4 rfl (S' := [.int (X10_isSheet x1)]) rfl ⟨Nat.zero_le _, Nat.zero_le _⟩ ?_
  refine rn_if_eq hX dX10_sheet_4 20 (by decide) 7 rfl ?_ ?_
  · refine rn_iconst hX dX10_sheet_20 21 rfl ic_m1 ?_
    exact rn_iret hX hr (by rw [henc]; rfl) dX10_sheet_21
  refine rn_iload_n hX dX10_sheet_7 2 rfl 8 rfl ?_
  refine rn_callS0 hX (gS mcC wd_939 wd_940 wd_70 wd_941) rfl hdS_X10_isLane rfl rfl ⟨Nat.le_of_ble_eq_true rfl, Nat.le_of_ble_eq_true rfl⟩ (c_X10_isLane (zl Z) (zG Z) x2 rfl) rfl [] rfl rfl rfl (Nat.le_of_ble_eq_true rfl) dX10_sheet_8 11 rfl (S' := [.int (X10_isLane x2)]) rfl ⟨Nat.zero_le _, Nat.zero_le _⟩ ?_
  refine rn_if_eq hX dX10_sheet_11 20 (by decide) 14 rfl ?_ ?_
  · refine rn_iconst hX dX10_sheet_20 21 rfl ic_m1 ?_
    exact rn_iret hX hr (by rw [henc]; rfl) dX10_sheet_21
  refine rn_iload_n hX dX10_sheet_14 3 rfl 15 rfl ?_
  refine rn_bipush hX dX10_sheet_15 17 rfl bp_40 ?_
  refine rn_icmp_le hX dX10_sheet_17 22 (by decide) 20 rfl ?_ ?_
  · refine rn_iload_n hX dX10_sheet_22 3 rfl 23 rfl ?_
    refine rn_if_ge hX dX10_sheet_23 29 (by decide) 26 rfl ?_ ?_
    · refine rn_aload_n hX dX10_sheet_29 0 rfl 30 rfl ?_
      refine rn_get hX inX10 0 rfl rfl 5 (by decide) fl48 rfl rfl dX10_sheet_30 33 rfl ?_
      refine rn_iload_n hX dX10_sheet_33 1 rfl 34 rfl ?_
      by_cases he34_0 : x1 = (0 : Int32)
      · rw [if_pos he34_0]
        refine rn_aald hX (t0 := 4) (n := 4) (f := rf4 a_sheets_0 a_sheets_1 a_sheets_2 a_sheets_3) 1 rfl rfl he34_0 (vpk (by decide)) rfl dX10_sheet_34 35 rfl ?_
        refine rn_iload_n hX dX10_sheet_35 2 rfl 36 rfl ?_
        refine rn_iload_n hX dX10_sheet_36 3 rfl 37 rfl ?_
        refine rn_bind (fun u1 hu1 => ?_)
        refine rn_callV hX (gV mcC wd_942 wd_943 wd_944 wd_76 wd_945) rfl hdV_X6_renew rfl rfl ⟨Nat.le_of_ble_eq_true rfl, Nat.le_of_ble_eq_true rfl⟩ (c_X6_renew (zl Z) (zG Z) a_sheets_0 a_sheets_0_cells g_sheets_0_lane g_sheets_0_size g_sheets_0_cells x2 x3 hu1) rfl [2, 3] rfl rfl rfl (ci := 6) rfl rfl rfl (Nat.le_of_ble_eq_true rfl) dX10_sheet_37 40 rfl (wn := [(a_this, .inr (10, [.ref a_tape, .ref a_reader, .ref a_table, .ref a_way, .ref a_images, .ref a_sheets, .ref a_flaws, .ref a_sixthOf, .ref a_drawing, .ref a_naming, .int g_lastFault, .int g_lastTear])), (a_sheets, .inl ((zG Z).2.1 4, 4, .inr (.inr (.inr (.inr (rf4 a_sheets_0 a_sheets_1 a_sheets_2 a_sheets_3)))))), (a_sheets_0, .inr (6, [.int u1.1, .int u1.2.1, .ref a_sheets_0_cells])), (a_sheets_0_cells, .inl ((zG Z).2.1 1, 40, .inl u1.2.2)), (a_sheets_1, .inr (6, [.int g_sheets_1_lane, .int g_sheets_1_size, .ref a_sheets_1_cells])), (a_sheets_1_cells, .inl ((zG Z).2.1 1, 40, .inl g_sheets_1_cells)), (a_sheets_2, .inr (6, [.int g_sheets_2_lane, .int g_sheets_2_size, .ref a_sheets_2_cells])), (a_sheets_2_cells, .inl ((zG Z).2.1 1, 40, .inl g_sheets_2_cells)), (a_sheets_3, .inr (6, [.int g_sheets_3_lane, .int g_sheets_3_size, .ref a_sheets_3_cells])), (a_sheets_3_cells, .inl ((zG Z).2.1 1, 40, .inl g_sheets_3_cells))]) rfl (S' := []) rfl ⟨Nat.zero_le _, Nat.zero_le _⟩ ?_
        refine rn_iconst hX dX10_sheet_40 41 rfl ic_1 ?_
        exact rn_iret hX hr (by rw [henc]; rfl) dX10_sheet_41
      rw [if_neg he34_0]
      by_cases he34_1 : x1 = (1 : Int32)
      · rw [if_pos he34_1]
        refine rn_aald hX (t0 := 4) (n := 4) (f := rf4 a_sheets_0 a_sheets_1 a_sheets_2 a_sheets_3) 1 rfl rfl he34_1 (vpk (by decide)) rfl dX10_sheet_34 35 rfl ?_
        refine rn_iload_n hX dX10_sheet_35 2 rfl 36 rfl ?_
        refine rn_iload_n hX dX10_sheet_36 3 rfl 37 rfl ?_
        refine rn_bind (fun u2 hu2 => ?_)
        refine rn_callV hX (gV mcC wd_942 wd_943 wd_944 wd_76 wd_945) rfl hdV_X6_renew rfl rfl ⟨Nat.le_of_ble_eq_true rfl, Nat.le_of_ble_eq_true rfl⟩ (c_X6_renew (zl Z) (zG Z) a_sheets_1 a_sheets_1_cells g_sheets_1_lane g_sheets_1_size g_sheets_1_cells x2 x3 hu2) rfl [4, 5] rfl rfl rfl (ci := 6) rfl rfl rfl (Nat.le_of_ble_eq_true rfl) dX10_sheet_37 40 rfl (wn := [(a_this, .inr (10, [.ref a_tape, .ref a_reader, .ref a_table, .ref a_way, .ref a_images, .ref a_sheets, .ref a_flaws, .ref a_sixthOf, .ref a_drawing, .ref a_naming, .int g_lastFault, .int g_lastTear])), (a_sheets, .inl ((zG Z).2.1 4, 4, .inr (.inr (.inr (.inr (rf4 a_sheets_0 a_sheets_1 a_sheets_2 a_sheets_3)))))), (a_sheets_0, .inr (6, [.int g_sheets_0_lane, .int g_sheets_0_size, .ref a_sheets_0_cells])), (a_sheets_0_cells, .inl ((zG Z).2.1 1, 40, .inl g_sheets_0_cells)), (a_sheets_1, .inr (6, [.int u2.1, .int u2.2.1, .ref a_sheets_1_cells])), (a_sheets_1_cells, .inl ((zG Z).2.1 1, 40, .inl u2.2.2)), (a_sheets_2, .inr (6, [.int g_sheets_2_lane, .int g_sheets_2_size, .ref a_sheets_2_cells])), (a_sheets_2_cells, .inl ((zG Z).2.1 1, 40, .inl g_sheets_2_cells)), (a_sheets_3, .inr (6, [.int g_sheets_3_lane, .int g_sheets_3_size, .ref a_sheets_3_cells])), (a_sheets_3_cells, .inl ((zG Z).2.1 1, 40, .inl g_sheets_3_cells))]) rfl (S' := []) rfl ⟨Nat.zero_le _, Nat.zero_le _⟩ ?_
        refine rn_iconst hX dX10_sheet_40 41 rfl ic_1 ?_
        exact rn_iret hX hr (by rw [henc]; rfl) dX10_sheet_41
      rw [if_neg he34_1]
      by_cases he34_2 : x1 = (2 : Int32)
      · rw [if_pos he34_2]
        refine rn_aald hX (t0 := 4) (n := 4) (f := rf4 a_sheets_0 a_sheets_1 a_sheets_2 a_sheets_3) 1 rfl rfl he34_2 (vpk (by decide)) rfl dX10_sheet_34 35 rfl ?_
        refine rn_iload_n hX dX10_sheet_35 2 rfl 36 rfl ?_
        refine rn_iload_n hX dX10_sheet_36 3 rfl 37 rfl ?_
        refine rn_bind (fun u3 hu3 => ?_)
        refine rn_callV hX (gV mcC wd_942 wd_943 wd_944 wd_76 wd_945) rfl hdV_X6_renew rfl rfl ⟨Nat.le_of_ble_eq_true rfl, Nat.le_of_ble_eq_true rfl⟩ (c_X6_renew (zl Z) (zG Z) a_sheets_2 a_sheets_2_cells g_sheets_2_lane g_sheets_2_size g_sheets_2_cells x2 x3 hu3) rfl [6, 7] rfl rfl rfl (ci := 6) rfl rfl rfl (Nat.le_of_ble_eq_true rfl) dX10_sheet_37 40 rfl (wn := [(a_this, .inr (10, [.ref a_tape, .ref a_reader, .ref a_table, .ref a_way, .ref a_images, .ref a_sheets, .ref a_flaws, .ref a_sixthOf, .ref a_drawing, .ref a_naming, .int g_lastFault, .int g_lastTear])), (a_sheets, .inl ((zG Z).2.1 4, 4, .inr (.inr (.inr (.inr (rf4 a_sheets_0 a_sheets_1 a_sheets_2 a_sheets_3)))))), (a_sheets_0, .inr (6, [.int g_sheets_0_lane, .int g_sheets_0_size, .ref a_sheets_0_cells])), (a_sheets_0_cells, .inl ((zG Z).2.1 1, 40, .inl g_sheets_0_cells)), (a_sheets_1, .inr (6, [.int g_sheets_1_lane, .int g_sheets_1_size, .ref a_sheets_1_cells])), (a_sheets_1_cells, .inl ((zG Z).2.1 1, 40, .inl g_sheets_1_cells)), (a_sheets_2, .inr (6, [.int u3.1, .int u3.2.1, .ref a_sheets_2_cells])), (a_sheets_2_cells, .inl ((zG Z).2.1 1, 40, .inl u3.2.2)), (a_sheets_3, .inr (6, [.int g_sheets_3_lane, .int g_sheets_3_size, .ref a_sheets_3_cells])), (a_sheets_3_cells, .inl ((zG Z).2.1 1, 40, .inl g_sheets_3_cells))]) rfl (S' := []) rfl ⟨Nat.zero_le _, Nat.zero_le _⟩ ?_
        refine rn_iconst hX dX10_sheet_40 41 rfl ic_1 ?_
        exact rn_iret hX hr (by rw [henc]; rfl) dX10_sheet_41
      rw [if_neg he34_2]
      by_cases he34_3 : x1 = (3 : Int32)
      · rw [if_pos he34_3]
        refine rn_aald hX (t0 := 4) (n := 4) (f := rf4 a_sheets_0 a_sheets_1 a_sheets_2 a_sheets_3) 1 rfl rfl he34_3 (vpk (by decide)) rfl dX10_sheet_34 35 rfl ?_
        refine rn_iload_n hX dX10_sheet_35 2 rfl 36 rfl ?_
        refine rn_iload_n hX dX10_sheet_36 3 rfl 37 rfl ?_
        refine rn_bind (fun u4 hu4 => ?_)
        refine rn_callV hX (gV mcC wd_942 wd_943 wd_944 wd_76 wd_945) rfl hdV_X6_renew rfl rfl ⟨Nat.le_of_ble_eq_true rfl, Nat.le_of_ble_eq_true rfl⟩ (c_X6_renew (zl Z) (zG Z) a_sheets_3 a_sheets_3_cells g_sheets_3_lane g_sheets_3_size g_sheets_3_cells x2 x3 hu4) rfl [8, 9] rfl rfl rfl (ci := 6) rfl rfl rfl (Nat.le_of_ble_eq_true rfl) dX10_sheet_37 40 rfl (wn := [(a_this, .inr (10, [.ref a_tape, .ref a_reader, .ref a_table, .ref a_way, .ref a_images, .ref a_sheets, .ref a_flaws, .ref a_sixthOf, .ref a_drawing, .ref a_naming, .int g_lastFault, .int g_lastTear])), (a_sheets, .inl ((zG Z).2.1 4, 4, .inr (.inr (.inr (.inr (rf4 a_sheets_0 a_sheets_1 a_sheets_2 a_sheets_3)))))), (a_sheets_0, .inr (6, [.int g_sheets_0_lane, .int g_sheets_0_size, .ref a_sheets_0_cells])), (a_sheets_0_cells, .inl ((zG Z).2.1 1, 40, .inl g_sheets_0_cells)), (a_sheets_1, .inr (6, [.int g_sheets_1_lane, .int g_sheets_1_size, .ref a_sheets_1_cells])), (a_sheets_1_cells, .inl ((zG Z).2.1 1, 40, .inl g_sheets_1_cells)), (a_sheets_2, .inr (6, [.int g_sheets_2_lane, .int g_sheets_2_size, .ref a_sheets_2_cells])), (a_sheets_2_cells, .inl ((zG Z).2.1 1, 40, .inl g_sheets_2_cells)), (a_sheets_3, .inr (6, [.int u4.1, .int u4.2.1, .ref a_sheets_3_cells])), (a_sheets_3_cells, .inl ((zG Z).2.1 1, 40, .inl u4.2.2))]) rfl (S' := []) rfl ⟨Nat.zero_le _, Nat.zero_le _⟩ ?_
        refine rn_iconst hX dX10_sheet_40 41 rfl ic_1 ?_
        exact rn_iret hX hr (by rw [henc]; rfl) dX10_sheet_41
      rw [if_neg he34_3]
      exact rn_none
    refine rn_bipush hX dX10_sheet_26 28 rfl bp_m14 ?_
    exact rn_iret hX hr (by rw [henc]; rfl) dX10_sheet_28
  refine rn_iconst hX dX10_sheet_20 21 rfl ic_m1 ?_
  exact rn_iret hX hr (by rw [henc]; rfl) dX10_sheet_21
abbrev rmX10_lay : Room := { frames := 1, cells := 0, slots := 0, locals := 22 }
theorem hdV_X10_lay : yX10_lay.cls = RX10 ∧ yX10_lay.cls ≠ "java/lang/invoke/MethodHandle" ∧ yX10_lay.cls ≠ "java/lang/invoke/VarHandle" ∧ (parseMethodDescriptor yX10_lay.desc).map (fun d => d.parameters.length) = some 3 := by decide +kernel
set_option maxHeartbeats 4000000 in
set_option maxRecDepth 100000 in
theorem c_X10_lay (l : Launch) (G : GT) (a_this a_sheets a_sheets_0 a_sheets_0_cells a_sheets_1 a_sheets_1_cells a_sheets_2 a_sheets_2_cells a_sheets_3 a_sheets_3_cells a_tape a_reader a_table a_way a_images a_flaws a_sixthOf a_drawing a_naming : Nat) (g_lastFault : Int32) (g_lastTear : Int32) (g_sheets_0_lane : Int32) (g_sheets_0_size : Int32) (g_sheets_0_cells : (Nat → Int32)) (g_sheets_1_lane : Int32) (g_sheets_1_size : Int32) (g_sheets_1_cells : (Nat → Int32)) (g_sheets_2_lane : Int32) (g_sheets_2_size : Int32) (g_sheets_2_cells : (Nat → Int32)) (g_sheets_3_lane : Int32) (g_sheets_3_size : Int32) (g_sheets_3_cells : (Nat → Int32)) (x1 : Int32) (x2 : Int32) (x3 : Int32) {u : Int32 × (Nat → Int32) × (Nat → Int32) × (Nat → Int32) × (Nat → Int32)} (hu : X10_lay x1 x2 x3 g_sheets_0_lane g_sheets_0_size g_sheets_0_cells g_sheets_1_lane g_sheets_1_size g_sheets_1_cells g_sheets_2_lane g_sheets_2_size g_sheets_2_cells g_sheets_3_lane g_sheets_3_size g_sheets_3_cells = some u) : Ctr l G yX10_lay wsX10_lay rmX10_lay [.ref a_this, .int x1, .int x2, .int x3] [(a_this, .inr (10, [.ref a_tape, .ref a_reader, .ref a_table, .ref a_way, .ref a_images, .ref a_sheets, .ref a_flaws, .ref a_sixthOf, .ref a_drawing, .ref a_naming, .int g_lastFault, .int g_lastTear])), (a_sheets, .inl (G.2.1 4, 4, .inr (.inr (.inr (.inr (rf4 a_sheets_0 a_sheets_1 a_sheets_2 a_sheets_3)))))), (a_sheets_0, .inr (6, [.int g_sheets_0_lane, .int g_sheets_0_size, .ref a_sheets_0_cells])), (a_sheets_0_cells, .inl (G.2.1 1, 40, .inl g_sheets_0_cells)), (a_sheets_1, .inr (6, [.int g_sheets_1_lane, .int g_sheets_1_size, .ref a_sheets_1_cells])), (a_sheets_1_cells, .inl (G.2.1 1, 40, .inl g_sheets_1_cells)), (a_sheets_2, .inr (6, [.int g_sheets_2_lane, .int g_sheets_2_size, .ref a_sheets_2_cells])), (a_sheets_2_cells, .inl (G.2.1 1, 40, .inl g_sheets_2_cells)), (a_sheets_3, .inr (6, [.int g_sheets_3_lane, .int g_sheets_3_size, .ref a_sheets_3_cells])), (a_sheets_3_cells, .inl (G.2.1 1, 40, .inl g_sheets_3_cells))] (some (.int u.1)) [(a_this, .inr (10, [.ref a_tape, .ref a_reader, .ref a_table, .ref a_way, .ref a_images, .ref a_sheets, .ref a_flaws, .ref a_sixthOf, .ref a_drawing, .ref a_naming, .int g_lastFault, .int g_lastTear])), (a_sheets, .inl (G.2.1 4, 4, .inr (.inr (.inr (.inr (rf4 a_sheets_0 a_sheets_1 a_sheets_2 a_sheets_3)))))), (a_sheets_0, .inr (6, [.int g_sheets_0_lane, .int g_sheets_0_size, .ref a_sheets_0_cells])), (a_sheets_0_cells, .inl (G.2.1 1, 40, .inl u.2.1)), (a_sheets_1, .inr (6, [.int g_sheets_1_lane, .int g_sheets_1_size, .ref a_sheets_1_cells])), (a_sheets_1_cells, .inl (G.2.1 1, 40, .inl u.2.2.1)), (a_sheets_2, .inr (6, [.int g_sheets_2_lane, .int g_sheets_2_size, .ref a_sheets_2_cells])), (a_sheets_2_cells, .inl (G.2.1 1, 40, .inl u.2.2.2.1)), (a_sheets_3, .inr (6, [.int g_sheets_3_lane, .int g_sheets_3_size, .ref a_sheets_3_cells])), (a_sheets_3_cells, .inl (G.2.1 1, 40, .inl u.2.2.2.2))] := by
  obtain ⟨enc, henc⟩ : ∃ enc : (Int32 × (Nat → Int32) × (Nat → Int32) × (Nat → Int32) × (Nat → Int32)) → Option Value × va_W, enc = fun u => (((some (.int u.1)) : Option Value), ([(a_this, .inr (10, [.ref a_tape, .ref a_reader, .ref a_table, .ref a_way, .ref a_images, .ref a_sheets, .ref a_flaws, .ref a_sixthOf, .ref a_drawing, .ref a_naming, .int g_lastFault, .int g_lastTear])), (a_sheets, .inl (G.2.1 4, 4, .inr (.inr (.inr (.inr (rf4 a_sheets_0 a_sheets_1 a_sheets_2 a_sheets_3)))))), (a_sheets_0, .inr (6, [.int g_sheets_0_lane, .int g_sheets_0_size, .ref a_sheets_0_cells])), (a_sheets_0_cells, .inl (G.2.1 1, 40, .inl u.2.1)), (a_sheets_1, .inr (6, [.int g_sheets_1_lane, .int g_sheets_1_size, .ref a_sheets_1_cells])), (a_sheets_1_cells, .inl (G.2.1 1, 40, .inl u.2.2.1)), (a_sheets_2, .inr (6, [.int g_sheets_2_lane, .int g_sheets_2_size, .ref a_sheets_2_cells])), (a_sheets_2_cells, .inl (G.2.1 1, 40, .inl u.2.2.2.1)), (a_sheets_3, .inr (6, [.int g_sheets_3_lane, .int g_sheets_3_size, .ref a_sheets_3_cells])), (a_sheets_3_cells, .inl (G.2.1 1, 40, .inl u.2.2.2.2))] : va_W)) := ⟨_, rfl⟩
  refine ctr_of (cc := cX10_lay) (own := RX10) (E := Option.map enc) (o := X10_lay x1 x2 x3 g_sheets_0_lane g_sheets_0_size g_sheets_0_cells g_sheets_1_lane g_sheets_1_size g_sheets_1_cells g_sheets_2_lane g_sheets_2_size g_sheets_2_cells g_sheets_3_lane g_sheets_3_size g_sheets_3_cells) (by decide) rfl rfl (L := [(0, .ref a_this), (1, .int x1), (2, .int x2), (3, .int x3)]) rfl (Nat.le_of_ble_eq_true rfl) (by rw [hu, henc]; rfl) ?_
  intro Z hX hl hG hr
  subst hl; subst hG
  have fl48 : (Cond.fieldLink RX10 48 "OnlyFar" "sheets" "[LOnlyFar$Sheet;").before (za Z) (zs Z) = true := hX.wd (mcC _ wd_362)
  have inX10 : ∀ w ∈ u_ws RX10 TX10 12, w ∈ wsX10_lay := fun w h => mcC w (inC_X10 w h)
  unfold X10_lay
  refine rn_iload_n hX dX10_lay_0 1 rfl 1 rfl ?_
  refine rn_callS0 hX (gS mcC wd_936 wd_937 wd_70 wd_938) rfl hdS_X10_isSheet rfl rfl ⟨Nat.le_of_ble_eq_true rfl, Nat.le_of_ble_eq_true rfl⟩ (c_X10_isSheet (zl Z) (zG Z) x1 rfl) rfl [] rfl rfl rfl (Nat.le_of_ble_eq_true rfl) dX10_lay_1 4 rfl (S' := [.int (X10_isSheet x1)]) rfl ⟨Nat.zero_le _, Nat.zero_le _⟩ ?_
  refine rn_if_ne hX dX10_lay_4 9 (by decide) 7 rfl ?_ ?_
  · refine rn_aload_n hX dX10_lay_9 0 rfl 10 rfl ?_
    refine rn_get hX inX10 0 rfl rfl 5 (by decide) fl48 rfl rfl dX10_lay_10 13 rfl ?_
    refine rn_iload_n hX dX10_lay_13 1 rfl 14 rfl ?_
    by_cases he14_0 : x1 = (0 : Int32)
    · rw [if_pos he14_0]
      refine rn_aald hX (t0 := 4) (n := 4) (f := rf4 a_sheets_0 a_sheets_1 a_sheets_2 a_sheets_3) 1 rfl rfl he14_0 (vpk (by decide)) rfl dX10_lay_14 15 rfl ?_
      refine rn_iload_n hX dX10_lay_15 2 rfl 16 rfl ?_
      refine rn_iload_n hX dX10_lay_16 3 rfl 17 rfl ?_
      refine rn_bind (fun u1 hu1 => ?_)
      refine rn_callV hX (gV mcC wd_951 wd_952 wd_953 wd_76 wd_954) rfl hdV_X6_write rfl rfl ⟨Nat.le_of_ble_eq_true rfl, Nat.le_of_ble_eq_true rfl⟩ (c_X6_write (zl Z) (zG Z) a_sheets_0 a_sheets_0_cells g_sheets_0_lane g_sheets_0_size g_sheets_0_cells x2 x3 hu1) rfl [2, 3] rfl rfl rfl (ci := 6) rfl rfl rfl (Nat.le_of_ble_eq_true rfl) dX10_lay_17 20 rfl (wn := [(a_this, .inr (10, [.ref a_tape, .ref a_reader, .ref a_table, .ref a_way, .ref a_images, .ref a_sheets, .ref a_flaws, .ref a_sixthOf, .ref a_drawing, .ref a_naming, .int g_lastFault, .int g_lastTear])), (a_sheets, .inl ((zG Z).2.1 4, 4, .inr (.inr (.inr (.inr (rf4 a_sheets_0 a_sheets_1 a_sheets_2 a_sheets_3)))))), (a_sheets_0, .inr (6, [.int g_sheets_0_lane, .int g_sheets_0_size, .ref a_sheets_0_cells])), (a_sheets_0_cells, .inl ((zG Z).2.1 1, 40, .inl u1.2)), (a_sheets_1, .inr (6, [.int g_sheets_1_lane, .int g_sheets_1_size, .ref a_sheets_1_cells])), (a_sheets_1_cells, .inl ((zG Z).2.1 1, 40, .inl g_sheets_1_cells)), (a_sheets_2, .inr (6, [.int g_sheets_2_lane, .int g_sheets_2_size, .ref a_sheets_2_cells])), (a_sheets_2_cells, .inl ((zG Z).2.1 1, 40, .inl g_sheets_2_cells)), (a_sheets_3, .inr (6, [.int g_sheets_3_lane, .int g_sheets_3_size, .ref a_sheets_3_cells])), (a_sheets_3_cells, .inl ((zG Z).2.1 1, 40, .inl g_sheets_3_cells))]) rfl (S' := [.int u1.1]) rfl ⟨Nat.zero_le _, Nat.zero_le _⟩ ?_
      refine rn_istore hX dX10_lay_20 (by decide) (L' := [(4, .int u1.1), (0, .ref a_this), (1, .int x1), (2, .int x2), (3, .int x3)]) rfl 22 rfl ?_
      refine rn_iload hX dX10_lay_22 0 rfl 24 rfl ?_
      refine rn_if_ne hX dX10_lay_24 31 (by decide) 27 rfl ?_ ?_
      · refine rn_bipush hX dX10_lay_31 33 rfl bp_m10 ?_
        refine rn_iload hX dX10_lay_33 0 rfl 35 rfl ?_
        refine rn_isub hX dX10_lay_35 36 rfl ?_
        exact rn_iret hX hr (by rw [henc]; rfl) dX10_lay_36
      refine rn_iconst hX dX10_lay_27 28 rfl ic_1 ?_
      refine rn_goto hX dX10_lay_28 36 (by decide) ?_
      exact rn_iret hX hr (by rw [henc]; rfl) dX10_lay_36
    rw [if_neg he14_0]
    by_cases he14_1 : x1 = (1 : Int32)
    · rw [if_pos he14_1]
      refine rn_aald hX (t0 := 4) (n := 4) (f := rf4 a_sheets_0 a_sheets_1 a_sheets_2 a_sheets_3) 1 rfl rfl he14_1 (vpk (by decide)) rfl dX10_lay_14 15 rfl ?_
      refine rn_iload_n hX dX10_lay_15 2 rfl 16 rfl ?_
      refine rn_iload_n hX dX10_lay_16 3 rfl 17 rfl ?_
      refine rn_bind (fun u2 hu2 => ?_)
      refine rn_callV hX (gV mcC wd_951 wd_952 wd_953 wd_76 wd_954) rfl hdV_X6_write rfl rfl ⟨Nat.le_of_ble_eq_true rfl, Nat.le_of_ble_eq_true rfl⟩ (c_X6_write (zl Z) (zG Z) a_sheets_1 a_sheets_1_cells g_sheets_1_lane g_sheets_1_size g_sheets_1_cells x2 x3 hu2) rfl [4, 5] rfl rfl rfl (ci := 6) rfl rfl rfl (Nat.le_of_ble_eq_true rfl) dX10_lay_17 20 rfl (wn := [(a_this, .inr (10, [.ref a_tape, .ref a_reader, .ref a_table, .ref a_way, .ref a_images, .ref a_sheets, .ref a_flaws, .ref a_sixthOf, .ref a_drawing, .ref a_naming, .int g_lastFault, .int g_lastTear])), (a_sheets, .inl ((zG Z).2.1 4, 4, .inr (.inr (.inr (.inr (rf4 a_sheets_0 a_sheets_1 a_sheets_2 a_sheets_3)))))), (a_sheets_0, .inr (6, [.int g_sheets_0_lane, .int g_sheets_0_size, .ref a_sheets_0_cells])), (a_sheets_0_cells, .inl ((zG Z).2.1 1, 40, .inl g_sheets_0_cells)), (a_sheets_1, .inr (6, [.int g_sheets_1_lane, .int g_sheets_1_size, .ref a_sheets_1_cells])), (a_sheets_1_cells, .inl ((zG Z).2.1 1, 40, .inl u2.2)), (a_sheets_2, .inr (6, [.int g_sheets_2_lane, .int g_sheets_2_size, .ref a_sheets_2_cells])), (a_sheets_2_cells, .inl ((zG Z).2.1 1, 40, .inl g_sheets_2_cells)), (a_sheets_3, .inr (6, [.int g_sheets_3_lane, .int g_sheets_3_size, .ref a_sheets_3_cells])), (a_sheets_3_cells, .inl ((zG Z).2.1 1, 40, .inl g_sheets_3_cells))]) rfl (S' := [.int u2.1]) rfl ⟨Nat.zero_le _, Nat.zero_le _⟩ ?_
      refine rn_istore hX dX10_lay_20 (by decide) (L' := [(4, .int u2.1), (0, .ref a_this), (1, .int x1), (2, .int x2), (3, .int x3)]) rfl 22 rfl ?_
      refine rn_iload hX dX10_lay_22 0 rfl 24 rfl ?_
      refine rn_if_ne hX dX10_lay_24 31 (by decide) 27 rfl ?_ ?_
      · refine rn_bipush hX dX10_lay_31 33 rfl bp_m10 ?_
        refine rn_iload hX dX10_lay_33 0 rfl 35 rfl ?_
        refine rn_isub hX dX10_lay_35 36 rfl ?_
        exact rn_iret hX hr (by rw [henc]; rfl) dX10_lay_36
      refine rn_iconst hX dX10_lay_27 28 rfl ic_1 ?_
      refine rn_goto hX dX10_lay_28 36 (by decide) ?_
      exact rn_iret hX hr (by rw [henc]; rfl) dX10_lay_36
    rw [if_neg he14_1]
    by_cases he14_2 : x1 = (2 : Int32)
    · rw [if_pos he14_2]
      refine rn_aald hX (t0 := 4) (n := 4) (f := rf4 a_sheets_0 a_sheets_1 a_sheets_2 a_sheets_3) 1 rfl rfl he14_2 (vpk (by decide)) rfl dX10_lay_14 15 rfl ?_
      refine rn_iload_n hX dX10_lay_15 2 rfl 16 rfl ?_
      refine rn_iload_n hX dX10_lay_16 3 rfl 17 rfl ?_
      refine rn_bind (fun u3 hu3 => ?_)
      refine rn_callV hX (gV mcC wd_951 wd_952 wd_953 wd_76 wd_954) rfl hdV_X6_write rfl rfl ⟨Nat.le_of_ble_eq_true rfl, Nat.le_of_ble_eq_true rfl⟩ (c_X6_write (zl Z) (zG Z) a_sheets_2 a_sheets_2_cells g_sheets_2_lane g_sheets_2_size g_sheets_2_cells x2 x3 hu3) rfl [6, 7] rfl rfl rfl (ci := 6) rfl rfl rfl (Nat.le_of_ble_eq_true rfl) dX10_lay_17 20 rfl (wn := [(a_this, .inr (10, [.ref a_tape, .ref a_reader, .ref a_table, .ref a_way, .ref a_images, .ref a_sheets, .ref a_flaws, .ref a_sixthOf, .ref a_drawing, .ref a_naming, .int g_lastFault, .int g_lastTear])), (a_sheets, .inl ((zG Z).2.1 4, 4, .inr (.inr (.inr (.inr (rf4 a_sheets_0 a_sheets_1 a_sheets_2 a_sheets_3)))))), (a_sheets_0, .inr (6, [.int g_sheets_0_lane, .int g_sheets_0_size, .ref a_sheets_0_cells])), (a_sheets_0_cells, .inl ((zG Z).2.1 1, 40, .inl g_sheets_0_cells)), (a_sheets_1, .inr (6, [.int g_sheets_1_lane, .int g_sheets_1_size, .ref a_sheets_1_cells])), (a_sheets_1_cells, .inl ((zG Z).2.1 1, 40, .inl g_sheets_1_cells)), (a_sheets_2, .inr (6, [.int g_sheets_2_lane, .int g_sheets_2_size, .ref a_sheets_2_cells])), (a_sheets_2_cells, .inl ((zG Z).2.1 1, 40, .inl u3.2)), (a_sheets_3, .inr (6, [.int g_sheets_3_lane, .int g_sheets_3_size, .ref a_sheets_3_cells])), (a_sheets_3_cells, .inl ((zG Z).2.1 1, 40, .inl g_sheets_3_cells))]) rfl (S' := [.int u3.1]) rfl ⟨Nat.zero_le _, Nat.zero_le _⟩ ?_
      refine rn_istore hX dX10_lay_20 (by decide) (L' := [(4, .int u3.1), (0, .ref a_this), (1, .int x1), (2, .int x2), (3, .int x3)]) rfl 22 rfl ?_
      refine rn_iload hX dX10_lay_22 0 rfl 24 rfl ?_
      refine rn_if_ne hX dX10_lay_24 31 (by decide) 27 rfl ?_ ?_
      · refine rn_bipush hX dX10_lay_31 33 rfl bp_m10 ?_
        refine rn_iload hX dX10_lay_33 0 rfl 35 rfl ?_
        refine rn_isub hX dX10_lay_35 36 rfl ?_
        exact rn_iret hX hr (by rw [henc]; rfl) dX10_lay_36
      refine rn_iconst hX dX10_lay_27 28 rfl ic_1 ?_
      refine rn_goto hX dX10_lay_28 36 (by decide) ?_
      exact rn_iret hX hr (by rw [henc]; rfl) dX10_lay_36
    rw [if_neg he14_2]
    by_cases he14_3 : x1 = (3 : Int32)
    · rw [if_pos he14_3]
      refine rn_aald hX (t0 := 4) (n := 4) (f := rf4 a_sheets_0 a_sheets_1 a_sheets_2 a_sheets_3) 1 rfl rfl he14_3 (vpk (by decide)) rfl dX10_lay_14 15 rfl ?_
      refine rn_iload_n hX dX10_lay_15 2 rfl 16 rfl ?_
      refine rn_iload_n hX dX10_lay_16 3 rfl 17 rfl ?_
      refine rn_bind (fun u4 hu4 => ?_)
      refine rn_callV hX (gV mcC wd_951 wd_952 wd_953 wd_76 wd_954) rfl hdV_X6_write rfl rfl ⟨Nat.le_of_ble_eq_true rfl, Nat.le_of_ble_eq_true rfl⟩ (c_X6_write (zl Z) (zG Z) a_sheets_3 a_sheets_3_cells g_sheets_3_lane g_sheets_3_size g_sheets_3_cells x2 x3 hu4) rfl [8, 9] rfl rfl rfl (ci := 6) rfl rfl rfl (Nat.le_of_ble_eq_true rfl) dX10_lay_17 20 rfl (wn := [(a_this, .inr (10, [.ref a_tape, .ref a_reader, .ref a_table, .ref a_way, .ref a_images, .ref a_sheets, .ref a_flaws, .ref a_sixthOf, .ref a_drawing, .ref a_naming, .int g_lastFault, .int g_lastTear])), (a_sheets, .inl ((zG Z).2.1 4, 4, .inr (.inr (.inr (.inr (rf4 a_sheets_0 a_sheets_1 a_sheets_2 a_sheets_3)))))), (a_sheets_0, .inr (6, [.int g_sheets_0_lane, .int g_sheets_0_size, .ref a_sheets_0_cells])), (a_sheets_0_cells, .inl ((zG Z).2.1 1, 40, .inl g_sheets_0_cells)), (a_sheets_1, .inr (6, [.int g_sheets_1_lane, .int g_sheets_1_size, .ref a_sheets_1_cells])), (a_sheets_1_cells, .inl ((zG Z).2.1 1, 40, .inl g_sheets_1_cells)), (a_sheets_2, .inr (6, [.int g_sheets_2_lane, .int g_sheets_2_size, .ref a_sheets_2_cells])), (a_sheets_2_cells, .inl ((zG Z).2.1 1, 40, .inl g_sheets_2_cells)), (a_sheets_3, .inr (6, [.int g_sheets_3_lane, .int g_sheets_3_size, .ref a_sheets_3_cells])), (a_sheets_3_cells, .inl ((zG Z).2.1 1, 40, .inl u4.2))]) rfl (S' := [.int u4.1]) rfl ⟨Nat.zero_le _, Nat.zero_le _⟩ ?_
      refine rn_istore hX dX10_lay_20 (by decide) (L' := [(4, .int u4.1), (0, .ref a_this), (1, .int x1), (2, .int x2), (3, .int x3)]) rfl 22 rfl ?_
      refine rn_iload hX dX10_lay_22 0 rfl 24 rfl ?_
      refine rn_if_ne hX dX10_lay_24 31 (by decide) 27 rfl ?_ ?_
      · refine rn_bipush hX dX10_lay_31 33 rfl bp_m10 ?_
        refine rn_iload hX dX10_lay_33 0 rfl 35 rfl ?_
        refine rn_isub hX dX10_lay_35 36 rfl ?_
        exact rn_iret hX hr (by rw [henc]; rfl) dX10_lay_36
      refine rn_iconst hX dX10_lay_27 28 rfl ic_1 ?_
      refine rn_goto hX dX10_lay_28 36 (by decide) ?_
      exact rn_iret hX hr (by rw [henc]; rfl) dX10_lay_36
    rw [if_neg he14_3]
    exact rn_none
  refine rn_iconst hX dX10_lay_7 8 rfl ic_m1 ?_
  exact rn_iret hX hr (by rw [henc]; rfl) dX10_lay_8
abbrev rmX10_isGoodLength : Room := { frames := 2, cells := 0, slots := 0, locals := 43 }
theorem hdV_X10_isGoodLength : yX10_isGoodLength.cls = RX10 ∧ yX10_isGoodLength.cls ≠ "java/lang/invoke/MethodHandle" ∧ yX10_isGoodLength.cls ≠ "java/lang/invoke/VarHandle" ∧ (parseMethodDescriptor yX10_isGoodLength.desc).map (fun d => d.parameters.length) = some 2 := by decide +kernel
set_option maxHeartbeats 4000000 in
set_option maxRecDepth 100000 in
theorem c_X10_isGoodLength (l : Launch) (G : GT) (a_this a_table a_p0 a_p0_cells a_tape a_reader a_way a_images a_sheets a_flaws a_sixthOf a_drawing a_naming a_table_squares : Nat) (g_lastFault : Int32) (g_lastTear : Int32) (g_table_places : Int32) (g_p0_lane : Int32) (g_p0_size : Int32) (g_p0_cells : (Nat → Int32)) (x2 : Int32) {u : Int32} (hu : X10_isGoodLength x2 g_table_places g_p0_cells = some u) : Ctr l G yX10_isGoodLength wsX10_isGoodLength rmX10_isGoodLength [.ref a_this, .ref a_p0, .int x2] [(a_this, .inr (10, [.ref a_tape, .ref a_reader, .ref a_table, .ref a_way, .ref a_images, .ref a_sheets, .ref a_flaws, .ref a_sixthOf, .ref a_drawing, .ref a_naming, .int g_lastFault, .int g_lastTear])), (a_table, .inr (8, [.int g_table_places, .ref a_table_squares])), (a_p0, .inr (6, [.int g_p0_lane, .int g_p0_size, .ref a_p0_cells])), (a_p0_cells, .inl (G.2.1 1, 40, .inl g_p0_cells))] (some (.int u)) [(a_this, .inr (10, [.ref a_tape, .ref a_reader, .ref a_table, .ref a_way, .ref a_images, .ref a_sheets, .ref a_flaws, .ref a_sixthOf, .ref a_drawing, .ref a_naming, .int g_lastFault, .int g_lastTear])), (a_table, .inr (8, [.int g_table_places, .ref a_table_squares])), (a_p0, .inr (6, [.int g_p0_lane, .int g_p0_size, .ref a_p0_cells])), (a_p0_cells, .inl (G.2.1 1, 40, .inl g_p0_cells))] := by
  obtain ⟨enc, henc⟩ : ∃ enc : (Int32) → Option Value × va_W, enc = fun u => (((some (.int u)) : Option Value), ([(a_this, .inr (10, [.ref a_tape, .ref a_reader, .ref a_table, .ref a_way, .ref a_images, .ref a_sheets, .ref a_flaws, .ref a_sixthOf, .ref a_drawing, .ref a_naming, .int g_lastFault, .int g_lastTear])), (a_table, .inr (8, [.int g_table_places, .ref a_table_squares])), (a_p0, .inr (6, [.int g_p0_lane, .int g_p0_size, .ref a_p0_cells])), (a_p0_cells, .inl (G.2.1 1, 40, .inl g_p0_cells))] : va_W)) := ⟨_, rfl⟩
  refine ctr_of (cc := cX10_isGoodLength) (own := RX10) (E := Option.map enc) (o := X10_isGoodLength x2 g_table_places g_p0_cells) (by decide) rfl rfl (L := [(0, .ref a_this), (1, .ref a_p0), (2, .int x2)]) rfl (Nat.le_of_ble_eq_true rfl) (by rw [hu, henc]; rfl) ?_
  intro Z hX hl hG hr
  subst hl; subst hG
  have fl28 : (Cond.fieldLink RX10 28 "OnlyFar" "table" "LOnlyFar$Table;").before (za Z) (zs Z) = true := hX.wd (mcC _ wd_359)
  have inX10 : ∀ w ∈ u_ws RX10 TX10 12, w ∈ wsX10_isGoodLength := fun w h => mcC w (inC_X10 w h)
  unfold X10_isGoodLength
  refine rn_aload_n hX dX10_isGoodLength_0 0 rfl 1 rfl ?_
  refine rn_get hX inX10 0 rfl rfl 2 (by decide) fl28 rfl rfl dX10_isGoodLength_1 4 rfl ?_
  refine rn_aload_n hX dX10_isGoodLength_4 1 rfl 5 rfl ?_
  refine rn_iload_n hX dX10_isGoodLength_5 2 rfl 6 rfl ?_
  refine rn_bind (fun u1 hu1 => ?_)
  refine rn_callV0 hX (gV mcC wd_972 wd_973 wd_974 wd_76 wd_975) rfl hdV_X6_cell rfl rfl ⟨Nat.le_of_ble_eq_true rfl, Nat.le_of_ble_eq_true rfl⟩ (c_X6_cell (zl Z) (zG Z) a_p0 a_p0_cells g_p0_lane g_p0_size g_p0_cells x2 hu1) rfl [2, 3] rfl rfl (ci := 6) rfl rfl rfl (Nat.le_of_ble_eq_true rfl) dX10_isGoodLength_6 9 rfl (S' := [.int u1, .ref a_table]) rfl ⟨Nat.zero_le _, Nat.zero_le _⟩ ?_
  refine rn_aload_n hX dX10_isGoodLength_9 1 rfl 10 rfl ?_
  refine rn_iload_n hX dX10_isGoodLength_10 2 rfl 11 rfl ?_
  refine rn_iconst hX dX10_isGoodLength_11 12 rfl ic_1 ?_
  refine rn_iadd hX dX10_isGoodLength_12 13 rfl ?_
  refine rn_bind (fun u2 hu2 => ?_)
  refine rn_callV0 hX (gV mcC wd_972 wd_973 wd_974 wd_76 wd_975) rfl hdV_X6_cell rfl rfl ⟨Nat.le_of_ble_eq_true rfl, Nat.le_of_ble_eq_true rfl⟩ (c_X6_cell (zl Z) (zG Z) a_p0 a_p0_cells g_p0_lane g_p0_size g_p0_cells (x2 + (1 : Int32)) hu2) rfl [2, 3] rfl rfl (ci := 6) rfl rfl rfl (Nat.le_of_ble_eq_true rfl) dX10_isGoodLength_13 16 rfl (S' := [.int u2, .int u1, .ref a_table]) rfl ⟨Nat.zero_le _, Nat.zero_le _⟩ ?_
  refine rn_callV0 hX (gV mcC wd_537 wd_538 wd_539 wd_73 wd_540) rfl hdV_X8_areTwo rfl rfl ⟨Nat.le_of_ble_eq_true rfl, Nat.le_of_ble_eq_true rfl⟩ (c_X8_areTwo (zl Z) (zG Z) a_table a_table_squares g_table_places u1 u2 rfl) rfl [1] rfl rfl (ci := 8) rfl rfl rfl (Nat.le_of_ble_eq_true rfl) dX10_isGoodLength_16 19 rfl (S' := [.int (X8_areTwo u1 u2 g_table_places)]) rfl ⟨Nat.zero_le _, Nat.zero_le _⟩ ?_
  refine rn_if_eq hX dX10_isGoodLength_19 39 (by decide) 22 rfl ?_ ?_
  · refine rn_iconst hX dX10_isGoodLength_39 40 rfl ic_0 ?_
    exact rn_zret hX rfl hr (by rw [henc]; rfl) dX10_isGoodLength_40
  refine rn_aload_n hX dX10_isGoodLength_22 1 rfl 23 rfl ?_
  refine rn_iload_n hX dX10_isGoodLength_23 2 rfl 24 rfl ?_
  refine rn_iconst hX dX10_isGoodLength_24 25 rfl ic_2 ?_
  refine rn_iadd hX dX10_isGoodLength_25 26 rfl ?_
  refine rn_bind (fun u3 hu3 => ?_)
  refine rn_callV0 hX (gV mcC wd_972 wd_973 wd_974 wd_76 wd_975) rfl hdV_X6_cell rfl rfl ⟨Nat.le_of_ble_eq_true rfl, Nat.le_of_ble_eq_true rfl⟩ (c_X6_cell (zl Z) (zG Z) a_p0 a_p0_cells g_p0_lane g_p0_size g_p0_cells (x2 + (2 : Int32)) hu3) rfl [2, 3] rfl rfl (ci := 6) rfl rfl rfl (Nat.le_of_ble_eq_true rfl) dX10_isGoodLength_26 29 rfl (S' := [.int u3]) rfl ⟨Nat.zero_le _, Nat.zero_le _⟩ ?_
  refine rn_callS0 hX (gS mcC wd_554 wd_555 wd_70 wd_556) rfl hdS_X10_isSquare rfl rfl ⟨Nat.le_of_ble_eq_true rfl, Nat.le_of_ble_eq_true rfl⟩ (c_X10_isSquare (zl Z) (zG Z) u3 rfl) rfl [] rfl rfl rfl (Nat.le_of_ble_eq_true rfl) dX10_isGoodLength_29 32 rfl (S' := [.int (X10_isSquare u3)]) rfl ⟨Nat.zero_le _, Nat.zero_le _⟩ ?_
  refine rn_if_eq hX dX10_isGoodLength_32 39 (by decide) 35 rfl ?_ ?_
  · refine rn_iconst hX dX10_isGoodLength_39 40 rfl ic_0 ?_
    exact rn_zret hX rfl hr (by rw [henc]; rfl) dX10_isGoodLength_40
  refine rn_iconst hX dX10_isGoodLength_35 36 rfl ic_1 ?_
  refine rn_goto hX dX10_isGoodLength_36 40 (by decide) ?_
  exact rn_zret hX rfl hr (by rw [henc]; rfl) dX10_isGoodLength_40
