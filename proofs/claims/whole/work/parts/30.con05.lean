abbrev rmX8_countTold : Room := { frames := 1, cells := 0, slots := 0, locals := 22 }
theorem hdV_X8_countTold : yX8_countTold.cls = RX8 ∧ yX8_countTold.cls ≠ "java/lang/invoke/MethodHandle" ∧ yX8_countTold.cls ≠ "java/lang/invoke/VarHandle" ∧ (parseMethodDescriptor yX8_countTold.desc).map (fun d => d.parameters.length) = some 0 := by decide +kernel
set_option maxHeartbeats 4000000 in
set_option maxRecDepth 100000 in
theorem c_X8_countTold (l : Launch) (G : GT) (a_this a_squares : Nat) (g_places : Int32) (g_squares : (Nat → Int32)) {u : Int32} (hu : X8_countTold g_places g_squares = some u) : Ctr l G yX8_countTold wsX8_countTold rmX8_countTold [.ref a_this] [(a_this, .inr (8, [.int g_places, .ref a_squares])), (a_squares, .inl (G.2.1 1, 49, .inl g_squares))] (some (.int u)) [(a_this, .inr (8, [.int g_places, .ref a_squares])), (a_squares, .inl (G.2.1 1, 49, .inl g_squares))] := by
  obtain ⟨enc, henc⟩ : ∃ enc : (Int32) → Option Value × va_W, enc = fun u => (((some (.int u)) : Option Value), ([(a_this, .inr (8, [.int g_places, .ref a_squares])), (a_squares, .inl (G.2.1 1, 49, .inl g_squares))] : va_W)) := ⟨_, rfl⟩
  refine ctr_of (cc := cX8_countTold) (own := RX8) (E := Option.map enc) (o := X8_countTold g_places g_squares) (by decide) rfl rfl (L := [(0, .ref a_this)]) rfl (Nat.le_of_ble_eq_true rfl) (by rw [hu, henc]; rfl) ?_
  intro Z hX hl hG hr
  subst hl; subst hG
  have fl9 : (Cond.fieldLink RX8 9 "OnlyFar$Table" "places" "I").before (za Z) (zs Z) = true := hX.wd (mcC _ wd_128)
  have inX8 : ∀ w ∈ u_ws RX8 TX8 2, w ∈ wsX8_countTold := fun w h => mcC w (inC_X8 w h)
  have hJ45 : ∀ (again : Int32 → Int32 → Option (Int32)) (hagain : ∀ (x1 : Int32) (x2 : Int32), Rn Z 4 (Option.map enc) 0 0 4 [(0, .ref a_this), (1, .int x1), (2, .int x2)] [] [(a_this, .inr (8, [.int g_places, .ref a_squares])), (a_squares, .inl ((zG Z).2.1 1, 49, .inl g_squares))] (again x1 x2)) (x1 : Int32) (x2 : Int32), Rn Z 4 (Option.map enc) 0 0 45 [(0, .ref a_this), (1, .int x1), (2, .int x2)] [] [(a_this, .inr (8, [.int g_places, .ref a_squares])), (a_squares, .inl ((zG Z).2.1 1, 49, .inl g_squares))] (X8_countTold_J45 again x1 x2) := by
    intro again hagain x1 x2
    unfold X8_countTold_J45
    refine rn_iinc hX dX8_countTold_45 2 rfl ic_1 (by decide) (L' := fun v1 => [(2, .int v1), (0, .ref a_this), (1, .int x1)]) (fun _ => rfl) 48 rfl (fun v1 => ?_)
    refine rn_goto hX dX8_countTold_48 4 (by decide) ?_
    refine rn_sub [1, 2, 0] rfl ?_
    exact hagain x1 v1
  have hJ34 : ∀ (again : Int32 → Int32 → Int32 → Option (Int32)) (k45 : Int32 → Int32 → Option (Int32)) (hagain : ∀ (x1 : Int32) (x2 : Int32) (x3 : Int32), Rn Z 4 (Option.map enc) 0 0 14 [(0, .ref a_this), (1, .int x1), (2, .int x2), (3, .int x3)] [] [(a_this, .inr (8, [.int g_places, .ref a_squares])), (a_squares, .inl ((zG Z).2.1 1, 49, .inl g_squares))] (again x1 x2 x3)) (hk45 : ∀ (x1 : Int32) (x2 : Int32), Rn Z 4 (Option.map enc) 0 0 45 [(0, .ref a_this), (1, .int x1), (2, .int x2)] [] [(a_this, .inr (8, [.int g_places, .ref a_squares])), (a_squares, .inl ((zG Z).2.1 1, 49, .inl g_squares))] (k45 x1 x2)) (x2 : Int32) (x3 : Int32) (s0 : Int32) (s1 : Int32), Rn Z 4 (Option.map enc) 0 0 34 [(0, .ref a_this), (2, .int x2), (3, .int x3)] [.int s1, .int s0] [(a_this, .inr (8, [.int g_places, .ref a_squares])), (a_squares, .inl ((zG Z).2.1 1, 49, .inl g_squares))] (X8_countTold_J34 again k45 x2 x3 s0 s1) := by
    intro again k45 hagain hk45 x2 x3 s0 s1
    unfold X8_countTold_J34
    refine rn_callSN0 hX (goodK mcC wd_603) rfl (host := "OnlyFar") hn_X8_47 (hX.wd (mcC _ wd_70)) (hX.wd (mcC _ wd_602)) hdS_X10_bit rfl rfl ⟨Nat.le_of_ble_eq_true rfl, Nat.le_of_ble_eq_true rfl⟩ (c_X10_bit (zl Z) (zG Z) s1 rfl) rfl [] rfl rfl rfl (Nat.le_of_ble_eq_true rfl) dX8_countTold_34 37 rfl (S' := [.int (X10_bit s1), .int s0]) rfl ⟨Nat.zero_le _, Nat.zero_le _⟩ ?_
    refine rn_iadd hX dX8_countTold_37 38 rfl ?_
    refine rn_lati (fun v2 => ?_)
    refine rn_istore_n hX dX8_countTold_38 1 rfl (by decide) (L' := [(1, .int v2), (0, .ref a_this), (2, .int x2), (3, .int x3)]) rfl 39 rfl ?_
    refine rn_iinc hX dX8_countTold_39 3 rfl ic_1 (by decide) (L' := fun v3 => [(3, .int v3), (1, .int v2), (0, .ref a_this), (2, .int x2)]) (fun _ => rfl) 42 rfl (fun v3 => ?_)
    refine rn_goto hX dX8_countTold_42 14 (by decide) ?_
    refine rn_sub [2, 1, 3, 0] rfl ?_
    exact hagain v2 x2 v3
  have hB14 : ∀ (again : Int32 → Int32 → Int32 → Option (Int32)) (k45 : Int32 → Int32 → Option (Int32)) (hagain : ∀ (x1 : Int32) (x2 : Int32) (x3 : Int32), Rn Z 4 (Option.map enc) 0 0 14 [(0, .ref a_this), (1, .int x1), (2, .int x2), (3, .int x3)] [] [(a_this, .inr (8, [.int g_places, .ref a_squares])), (a_squares, .inl ((zG Z).2.1 1, 49, .inl g_squares))] (again x1 x2 x3)) (hk45 : ∀ (x1 : Int32) (x2 : Int32), Rn Z 4 (Option.map enc) 0 0 45 [(0, .ref a_this), (1, .int x1), (2, .int x2)] [] [(a_this, .inr (8, [.int g_places, .ref a_squares])), (a_squares, .inl ((zG Z).2.1 1, 49, .inl g_squares))] (k45 x1 x2)) (x1 : Int32) (x2 : Int32) (x3 : Int32), Rn Z 4 (Option.map enc) 0 0 14 [(0, .ref a_this), (1, .int x1), (2, .int x2), (3, .int x3)] [] [(a_this, .inr (8, [.int g_places, .ref a_squares])), (a_squares, .inl ((zG Z).2.1 1, 49, .inl g_squares))] (X8_countTold_B14 g_squares again k45 x1 x2 x3) := by
    intro again k45 hagain hk45 x1 x2 x3
    unfold X8_countTold_B14
    refine rn_iload_n hX dX8_countTold_14 3 rfl 15 rfl ?_
    refine rn_iload_n hX dX8_countTold_15 2 rfl 16 rfl ?_
    refine rn_icmp_ge hX dX8_countTold_16 45 (by decide) 19 rfl ?_ ?_
    · refine rn_sub [0, 1, 2] rfl ?_
      exact hk45 x1 x2
    refine rn_iload_n hX dX8_countTold_19 1 rfl 20 rfl ?_
    refine rn_aload_n hX dX8_countTold_20 0 rfl 21 rfl ?_
    refine rn_iload_n hX dX8_countTold_21 3 rfl 22 rfl ?_
    refine rn_iload_n hX dX8_countTold_22 2 rfl 23 rfl ?_
    refine rn_bind (fun u4 hu4 => ?_)
    refine rn_callV0 hX (gV mcC wd_549 wd_512 wd_513 wd_73 wd_514) rfl hdV_X8_square rfl rfl ⟨Nat.le_of_ble_eq_true rfl, Nat.le_of_ble_eq_true rfl⟩ (c_X8_square (zl Z) (zG Z) a_this a_squares g_places g_squares x3 x2 hu4) rfl [0, 1] rfl rfl (ci := 8) rfl rfl rfl (Nat.le_of_ble_eq_true rfl) dX8_countTold_23 26 rfl (S' := [.int u4, .int x1]) rfl ⟨Nat.zero_le _, Nat.zero_le _⟩ ?_
    refine rn_if_le hX dX8_countTold_26 33 (by decide) 29 rfl ?_ ?_
    · refine rn_iconst hX dX8_countTold_33 34 rfl ic_0 ?_
      refine rn_sub [0, 2, 3] rfl ?_
      exact (hJ34 _ _ hagain hk45) x2 x3 x1 (0 : Int32)
    refine rn_iconst hX dX8_countTold_29 30 rfl ic_1 ?_
    refine rn_goto hX dX8_countTold_30 34 (by decide) ?_
    refine rn_sub [0, 2, 3] rfl ?_
    exact (hJ34 _ _ hagain hk45) x2 x3 x1 (1 : Int32)
  have hL14 : ∀ (k45 : Int32 → Int32 → Option (Int32)) (hk45 : ∀ (x1 : Int32) (x2 : Int32), Rn Z 4 (Option.map enc) 0 0 45 [(0, .ref a_this), (1, .int x1), (2, .int x2)] [] [(a_this, .inr (8, [.int g_places, .ref a_squares])), (a_squares, .inl ((zG Z).2.1 1, 49, .inl g_squares))] (k45 x1 x2)) (n : Nat) (x1 : Int32) (x2 : Int32) (x3 : Int32), Rn Z 4 (Option.map enc) 0 0 14 [(0, .ref a_this), (1, .int x1), (2, .int x2), (3, .int x3)] [] [(a_this, .inr (8, [.int g_places, .ref a_squares])), (a_squares, .inl ((zG Z).2.1 1, 49, .inl g_squares))] (X8_countTold_L14 g_squares k45 n x1 x2 x3) := by
    intro k45 hk45 n
    induction n with
    | zero => intros; exact rn_none
    | succ n ih => exact hB14 _ _ ih hk45
  have hB4 : ∀ (again : Int32 → Int32 → Option (Int32)) (hagain : ∀ (x1 : Int32) (x2 : Int32), Rn Z 4 (Option.map enc) 0 0 4 [(0, .ref a_this), (1, .int x1), (2, .int x2)] [] [(a_this, .inr (8, [.int g_places, .ref a_squares])), (a_squares, .inl ((zG Z).2.1 1, 49, .inl g_squares))] (again x1 x2)) (x1 : Int32) (x2 : Int32), Rn Z 4 (Option.map enc) 0 0 4 [(0, .ref a_this), (1, .int x1), (2, .int x2)] [] [(a_this, .inr (8, [.int g_places, .ref a_squares])), (a_squares, .inl ((zG Z).2.1 1, 49, .inl g_squares))] (X8_countTold_B4 g_places g_squares again x1 x2) := by
    intro again hagain x1 x2
    unfold X8_countTold_B4
    refine rn_iload_n hX dX8_countTold_4 2 rfl 5 rfl ?_
    refine rn_aload_n hX dX8_countTold_5 0 rfl 6 rfl ?_
    refine rn_get hX inX8 0 rfl rfl 0 (by decide) fl9 rfl rfl dX8_countTold_6 9 rfl ?_
    refine rn_icmp_ge hX dX8_countTold_9 51 (by decide) 12 rfl ?_ ?_
    · refine rn_iload_n hX dX8_countTold_51 1 rfl 52 rfl ?_
      exact rn_iret hX hr (by rw [henc]; rfl) dX8_countTold_52
    refine rn_iconst hX dX8_countTold_12 13 rfl ic_0 ?_
    refine rn_istore_n hX dX8_countTold_13 3 rfl (by decide) (L' := [(3, .int (0 : Int32)), (0, .ref a_this), (1, .int x1), (2, .int x2)]) rfl 14 rfl ?_
    refine rn_sub [1, 2, 3, 0] rfl ?_
    exact (hL14 _ (hJ45 _ hagain) 1000) x1 x2 (0 : Int32)
  have hL4 : ∀ (n : Nat) (x1 : Int32) (x2 : Int32), Rn Z 4 (Option.map enc) 0 0 4 [(0, .ref a_this), (1, .int x1), (2, .int x2)] [] [(a_this, .inr (8, [.int g_places, .ref a_squares])), (a_squares, .inl ((zG Z).2.1 1, 49, .inl g_squares))] (X8_countTold_L4 g_places g_squares n x1 x2) := by
    intro n
    induction n with
    | zero => intros; exact rn_none
    | succ n ih => exact hB4 _ ih
  unfold X8_countTold
  refine rn_iconst hX dX8_countTold_0 1 rfl ic_0 ?_
  refine rn_istore_n hX dX8_countTold_1 1 rfl (by decide) (L' := [(1, .int (0 : Int32)), (0, .ref a_this)]) rfl 2 rfl ?_
  refine rn_iconst hX dX8_countTold_2 3 rfl ic_1 ?_
  refine rn_istore_n hX dX8_countTold_3 2 rfl (by decide) (L' := [(2, .int (1 : Int32)), (1, .int (0 : Int32)), (0, .ref a_this)]) rfl 4 rfl ?_
  refine rn_sub [2, 1, 0] rfl ?_
  exact (hL4  1000) (0 : Int32) (1 : Int32)
abbrev rmJ13_signum_95d88 : Room := { frames := 0, cells := 0, slots := 0, locals := 0 }
theorem hdS_J13_signum_95d88 : yJ13_signum_95d88.cls ≠ "java/lang/invoke/MethodHandle" ∧ yJ13_signum_95d88.cls ≠ "java/lang/invoke/VarHandle" ∧ (parseMethodDescriptor yJ13_signum_95d88.desc).map (fun d => d.parameters.length) = some 1 := by decide +kernel
set_option maxHeartbeats 4000000 in
set_option maxRecDepth 100000 in
theorem c_J13_signum_95d88 (l : Launch) (G : GT) (x0 : Int64) {u : Int32} (hu : J13_signum_95d88 x0 = u) : Ctr l G yJ13_signum_95d88 wsJ13_signum_95d88 rmJ13_signum_95d88 [.long x0] [] (some (.int u)) [] := by
  obtain ⟨enc, henc⟩ : ∃ enc : (Int32) → Option Value × va_W, enc = fun u => (((some (.int u)) : Option Value), ([] : va_W)) := ⟨_, rfl⟩
  refine ctr_of (cc := cJ13_signum_95d88) (own := RJ13) (E := fun o => some (enc o)) (o := J13_signum_95d88 x0) (by decide) rfl rfl (L := [(0, .long x0)]) rfl (Nat.le_of_ble_eq_true rfl) (by rw [hu, henc]) ?_
  intro Z hX hl hG hr
  subst hl; subst hG
  unfold J13_signum_95d88
  refine rn_lload_n hX dJ13_signum_95d88_0 0 rfl 1 rfl ?_
  refine rn_bipush hX dJ13_signum_95d88_1 3 rfl bp_63 ?_
  refine rn_lshr hX dJ13_signum_95d88_3 4 rfl ?_
  refine rn_lload_n hX dJ13_signum_95d88_4 0 rfl 5 rfl ?_
  refine rn_lneg hX dJ13_signum_95d88_5 6 rfl ?_
  refine rn_bipush hX dJ13_signum_95d88_6 8 rfl bp_63 ?_
  refine rn_lushr hX dJ13_signum_95d88_8 9 rfl ?_
  refine rn_lor hX dJ13_signum_95d88_9 10 rfl ?_
  refine rn_l2i hX dJ13_signum_95d88_10 11 rfl ?_
  exact rn_iret hX hr (by rw [henc]) dJ13_signum_95d88_11
abbrev rmX8_sideSign : Room := { frames := 2, cells := 0, slots := 0, locals := 45 }
theorem hdV_X8_sideSign : yX8_sideSign.cls = RX8 ∧ yX8_sideSign.cls ≠ "java/lang/invoke/MethodHandle" ∧ yX8_sideSign.cls ≠ "java/lang/invoke/VarHandle" ∧ (parseMethodDescriptor yX8_sideSign.desc).map (fun d => d.parameters.length) = some 4 := by decide +kernel
set_option maxHeartbeats 4000000 in
set_option maxRecDepth 100000 in
theorem c_X8_sideSign (l : Launch) (G : GT) (a_this a_squares : Nat) (g_places : Int32) (g_squares : (Nat → Int32)) (x1 : Int32) (x2 : Int32) (x3 : Int32) (x4 : Int32) {u : Int32} (hu : X8_sideSign x1 x2 x3 x4 g_squares = some u) : Ctr l G yX8_sideSign wsX8_sideSign rmX8_sideSign [.ref a_this, .int x1, .int x2, .int x3, .int x4] [(a_this, .inr (8, [.int g_places, .ref a_squares])), (a_squares, .inl (G.2.1 1, 49, .inl g_squares))] (some (.int u)) [(a_this, .inr (8, [.int g_places, .ref a_squares])), (a_squares, .inl (G.2.1 1, 49, .inl g_squares))] := by
  obtain ⟨enc, henc⟩ : ∃ enc : (Int32) → Option Value × va_W, enc = fun u => (((some (.int u)) : Option Value), ([(a_this, .inr (8, [.int g_places, .ref a_squares])), (a_squares, .inl (G.2.1 1, 49, .inl g_squares))] : va_W)) := ⟨_, rfl⟩
  refine ctr_of (cc := cX8_sideSign) (own := RX8) (E := Option.map enc) (o := X8_sideSign x1 x2 x3 x4 g_squares) (by decide) rfl rfl (L := [(0, .ref a_this), (1, .int x1), (2, .int x2), (3, .int x3), (4, .int x4)]) rfl (Nat.le_of_ble_eq_true rfl) (by rw [hu, henc]; rfl) ?_
  intro Z hX hl hG hr
  subst hl; subst hG
  have kl69 : (Cond.constantLong RX8 69 (2)).before (za Z) (zs Z) = true := hX.wd (mcC _ wd_627)
  unfold X8_sideSign
  refine rn_ldc2 hX kl69 dX8_sideSign_0 3 rfl ?_
  refine rn_aload_n hX dX8_sideSign_3 0 rfl 4 rfl ?_
  refine rn_iload_n hX dX8_sideSign_4 1 rfl 5 rfl ?_
  refine rn_iload_n hX dX8_sideSign_5 2 rfl 6 rfl ?_
  refine rn_bind (fun u1 hu1 => ?_)
  refine rn_callV0 hX (gV mcC wd_549 wd_512 wd_513 wd_73 wd_514) rfl hdV_X8_square rfl rfl ⟨Nat.le_of_ble_eq_true rfl, Nat.le_of_ble_eq_true rfl⟩ (c_X8_square (zl Z) (zG Z) a_this a_squares g_places g_squares x1 x2 hu1) rfl [0, 1] rfl rfl (ci := 8) rfl rfl rfl (Nat.le_of_ble_eq_true rfl) dX8_sideSign_6 9 rfl (S' := [.int u1, .long (2 : Int64)]) rfl ⟨Nat.zero_le _, Nat.zero_le _⟩ ?_
  refine rn_i2l hX dX8_sideSign_9 10 rfl ?_
  refine rn_lmul hX dX8_sideSign_10 11 rfl ?_
  refine rn_aload_n hX dX8_sideSign_11 0 rfl 12 rfl ?_
  refine rn_iload_n hX dX8_sideSign_12 1 rfl 13 rfl ?_
  refine rn_iload_n hX dX8_sideSign_13 3 rfl 14 rfl ?_
  refine rn_iload hX dX8_sideSign_14 4 rfl 16 rfl ?_
  refine rn_bind (fun u2 hu2 => ?_)
  refine rn_callV0 hX (gV mcC wd_628 wd_629 wd_630 wd_73 wd_631) rfl hdV_X8_leaning rfl rfl ⟨Nat.le_of_ble_eq_true rfl, Nat.le_of_ble_eq_true rfl⟩ (c_X8_leaning (zl Z) (zG Z) a_this a_squares g_places g_squares x1 x3 x4 hu2) rfl [0, 1] rfl rfl (ci := 8) rfl rfl rfl (Nat.le_of_ble_eq_true rfl) dX8_sideSign_16 19 rfl (S' := [.long u2, .long ((2 : Int64) * u1.toInt64)]) rfl ⟨Nat.zero_le _, Nat.zero_le _⟩ ?_
  refine rn_lmul hX dX8_sideSign_19 20 rfl ?_
  refine rn_aload_n hX dX8_sideSign_20 0 rfl 21 rfl ?_
  refine rn_iload_n hX dX8_sideSign_21 1 rfl 22 rfl ?_
  refine rn_iload_n hX dX8_sideSign_22 2 rfl 23 rfl ?_
  refine rn_iload_n hX dX8_sideSign_23 3 rfl 24 rfl ?_
  refine rn_bind (fun u3 hu3 => ?_)
  refine rn_callV0 hX (gV mcC wd_628 wd_629 wd_630 wd_73 wd_631) rfl hdV_X8_leaning rfl rfl ⟨Nat.le_of_ble_eq_true rfl, Nat.le_of_ble_eq_true rfl⟩ (c_X8_leaning (zl Z) (zG Z) a_this a_squares g_places g_squares x1 x2 x3 hu3) rfl [0, 1] rfl rfl (ci := 8) rfl rfl rfl (Nat.le_of_ble_eq_true rfl) dX8_sideSign_24 27 rfl (S' := [.long u3, .long (((2 : Int64) * u1.toInt64) * u2)]) rfl ⟨Nat.zero_le _, Nat.zero_le _⟩ ?_
  refine rn_aload_n hX dX8_sideSign_27 0 rfl 28 rfl ?_
  refine rn_iload_n hX dX8_sideSign_28 1 rfl 29 rfl ?_
  refine rn_iload_n hX dX8_sideSign_29 2 rfl 30 rfl ?_
  refine rn_iload hX dX8_sideSign_30 4 rfl 32 rfl ?_
  refine rn_bind (fun u4 hu4 => ?_)
  refine rn_callV0 hX (gV mcC wd_628 wd_629 wd_630 wd_73 wd_631) rfl hdV_X8_leaning rfl rfl ⟨Nat.le_of_ble_eq_true rfl, Nat.le_of_ble_eq_true rfl⟩ (c_X8_leaning (zl Z) (zG Z) a_this a_squares g_places g_squares x1 x2 x4 hu4) rfl [0, 1] rfl rfl (ci := 8) rfl rfl rfl (Nat.le_of_ble_eq_true rfl) dX8_sideSign_32 35 rfl (S' := [.long u4, .long u3, .long (((2 : Int64) * u1.toInt64) * u2)]) rfl ⟨Nat.zero_le _, Nat.zero_le _⟩ ?_
  refine rn_lmul hX dX8_sideSign_35 36 rfl ?_
  refine rn_lsub hX dX8_sideSign_36 37 rfl ?_
  refine rn_callS0 hX (gS mcC wd_740 wd_741 wd_90 wd_742) rfl hdS_J13_signum_95d88 rfl rfl ⟨Nat.le_of_ble_eq_true rfl, Nat.le_of_ble_eq_true rfl⟩ (c_J13_signum_95d88 (zl Z) (zG Z) ((((2 : Int64) * u1.toInt64) * u2) - (u3 * u4)) rfl) rfl [] rfl rfl rfl (Nat.le_of_ble_eq_true rfl) dX8_sideSign_37 40 rfl (S' := [.int (J13_signum_95d88 ((((2 : Int64) * u1.toInt64) * u2) - (u3 * u4)))]) rfl ⟨Nat.zero_le _, Nat.zero_le _⟩ ?_
  exact rn_iret hX hr (by rw [henc]; rfl) dX8_sideSign_40
abbrev rmX8_isAlikeSeenFrom : Room := { frames := 1, cells := 0, slots := 0, locals := 22 }
theorem hdV_X8_isAlikeSeenFrom : yX8_isAlikeSeenFrom.cls = RX8 ∧ yX8_isAlikeSeenFrom.cls ≠ "java/lang/invoke/MethodHandle" ∧ yX8_isAlikeSeenFrom.cls ≠ "java/lang/invoke/VarHandle" ∧ (parseMethodDescriptor yX8_isAlikeSeenFrom.desc).map (fun d => d.parameters.length) = some 3 := by decide +kernel
set_option maxHeartbeats 4000000 in
set_option maxRecDepth 100000 in
theorem c_X8_isAlikeSeenFrom (l : Launch) (G : GT) (a_this a_squares : Nat) (g_places : Int32) (g_squares : (Nat → Int32)) (x1 : Int32) (x2 : Int32) (x3 : Int32) {u : Int32} (hu : X8_isAlikeSeenFrom x1 x2 x3 g_places g_squares = some u) : Ctr l G yX8_isAlikeSeenFrom wsX8_isAlikeSeenFrom rmX8_isAlikeSeenFrom [.ref a_this, .int x1, .int x2, .int x3] [(a_this, .inr (8, [.int g_places, .ref a_squares])), (a_squares, .inl (G.2.1 1, 49, .inl g_squares))] (some (.int u)) [(a_this, .inr (8, [.int g_places, .ref a_squares])), (a_squares, .inl (G.2.1 1, 49, .inl g_squares))] := by
  obtain ⟨enc, henc⟩ : ∃ enc : (Int32) → Option Value × va_W, enc = fun u => (((some (.int u)) : Option Value), ([(a_this, .inr (8, [.int g_places, .ref a_squares])), (a_squares, .inl (G.2.1 1, 49, .inl g_squares))] : va_W)) := ⟨_, rfl⟩
  refine ctr_of (cc := cX8_isAlikeSeenFrom) (own := RX8) (E := Option.map enc) (o := X8_isAlikeSeenFrom x1 x2 x3 g_places g_squares) (by decide) rfl rfl (L := [(0, .ref a_this), (1, .int x1), (2, .int x2), (3, .int x3)]) rfl (Nat.le_of_ble_eq_true rfl) (by rw [hu, henc]; rfl) ?_
  intro Z hX hl hG hr
  subst hl; subst hG
  have fl9 : (Cond.fieldLink RX8 9 "OnlyFar$Table" "places" "I").before (za Z) (zs Z) = true := hX.wd (mcC _ wd_128)
  have inX8 : ∀ w ∈ u_ws RX8 TX8 2, w ∈ wsX8_isAlikeSeenFrom := fun w h => mcC w (inC_X8 w h)
  have hJ40 : ∀ (again : Int32 → Int32 → Int32 → Int32 → Option (Int32)) (hagain : ∀ (x1 : Int32) (x2 : Int32) (x3 : Int32) (x4 : Int32), Rn Z 5 (Option.map enc) 0 0 3 [(0, .ref a_this), (1, .int x1), (2, .int x2), (3, .int x3), (4, .int x4)] [] [(a_this, .inr (8, [.int g_places, .ref a_squares])), (a_squares, .inl ((zG Z).2.1 1, 49, .inl g_squares))] (again x1 x2 x3 x4)) (x1 : Int32) (x2 : Int32) (x3 : Int32) (x4 : Int32), Rn Z 5 (Option.map enc) 0 0 40 [(0, .ref a_this), (1, .int x1), (2, .int x2), (3, .int x3), (4, .int x4)] [] [(a_this, .inr (8, [.int g_places, .ref a_squares])), (a_squares, .inl ((zG Z).2.1 1, 49, .inl g_squares))] (X8_isAlikeSeenFrom_J40 again x1 x2 x3 x4) := by
    intro again hagain x1 x2 x3 x4
    unfold X8_isAlikeSeenFrom_J40
    refine rn_iinc hX dX8_isAlikeSeenFrom_40 4 rfl ic_1 (by decide) (L' := fun v1 => [(4, .int v1), (0, .ref a_this), (1, .int x1), (2, .int x2), (3, .int x3)]) (fun _ => rfl) 43 rfl (fun v1 => ?_)
    refine rn_goto hX dX8_isAlikeSeenFrom_43 3 (by decide) ?_
    refine rn_sub [1, 2, 3, 4, 0] rfl ?_
    exact hagain x1 x2 x3 v1
  have hB3 : ∀ (again : Int32 → Int32 → Int32 → Int32 → Option (Int32)) (hagain : ∀ (x1 : Int32) (x2 : Int32) (x3 : Int32) (x4 : Int32), Rn Z 5 (Option.map enc) 0 0 3 [(0, .ref a_this), (1, .int x1), (2, .int x2), (3, .int x3), (4, .int x4)] [] [(a_this, .inr (8, [.int g_places, .ref a_squares])), (a_squares, .inl ((zG Z).2.1 1, 49, .inl g_squares))] (again x1 x2 x3 x4)) (x1 : Int32) (x2 : Int32) (x3 : Int32) (x4 : Int32), Rn Z 5 (Option.map enc) 0 0 3 [(0, .ref a_this), (1, .int x1), (2, .int x2), (3, .int x3), (4, .int x4)] [] [(a_this, .inr (8, [.int g_places, .ref a_squares])), (a_squares, .inl ((zG Z).2.1 1, 49, .inl g_squares))] (X8_isAlikeSeenFrom_B3 g_places g_squares again x1 x2 x3 x4) := by
    intro again hagain x1 x2 x3 x4
    unfold X8_isAlikeSeenFrom_B3
    refine rn_iload hX dX8_isAlikeSeenFrom_3 4 rfl 5 rfl ?_
    refine rn_aload_n hX dX8_isAlikeSeenFrom_5 0 rfl 6 rfl ?_
    refine rn_get hX inX8 0 rfl rfl 0 (by decide) fl9 rfl rfl dX8_isAlikeSeenFrom_6 9 rfl ?_
    refine rn_icmp_ge hX dX8_isAlikeSeenFrom_9 46 (by decide) 12 rfl ?_ ?_
    · refine rn_iconst hX dX8_isAlikeSeenFrom_46 47 rfl ic_1 ?_
      exact rn_zret hX rfl hr (by rw [henc]; rfl) dX8_isAlikeSeenFrom_47
    refine rn_iload_n hX dX8_isAlikeSeenFrom_12 1 rfl 13 rfl ?_
    refine rn_iload hX dX8_isAlikeSeenFrom_13 4 rfl 15 rfl ?_
    refine rn_callSN0 hX (goodK mcC wd_684) rfl (host := "OnlyFar") hn_X8_80 (hX.wd (mcC _ wd_70)) (hX.wd (mcC _ wd_683)) hdS_X10_hasBit rfl rfl ⟨Nat.le_of_ble_eq_true rfl, Nat.le_of_ble_eq_true rfl⟩ (c_X10_hasBit (zl Z) (zG Z) x1 x4 rfl) rfl [] rfl rfl rfl (Nat.le_of_ble_eq_true rfl) dX8_isAlikeSeenFrom_15 18 rfl (S' := [.int (X10_hasBit x1 x4)]) rfl ⟨Nat.zero_le _, Nat.zero_le _⟩ ?_
    refine rn_if_eq hX dX8_isAlikeSeenFrom_18 40 (by decide) 21 rfl ?_ ?_
    · exact (hJ40 _ hagain) x1 x2 x3 x4
    refine rn_aload_n hX dX8_isAlikeSeenFrom_21 0 rfl 22 rfl ?_
    refine rn_iload_n hX dX8_isAlikeSeenFrom_22 2 rfl 23 rfl ?_
    refine rn_iload hX dX8_isAlikeSeenFrom_23 4 rfl 25 rfl ?_
    refine rn_bind (fun u2 hu2 => ?_)
    refine rn_callV0 hX (gV mcC wd_549 wd_512 wd_513 wd_73 wd_514) rfl hdV_X8_square rfl rfl ⟨Nat.le_of_ble_eq_true rfl, Nat.le_of_ble_eq_true rfl⟩ (c_X8_square (zl Z) (zG Z) a_this a_squares g_places g_squares x2 x4 hu2) rfl [0, 1] rfl rfl (ci := 8) rfl rfl rfl (Nat.le_of_ble_eq_true rfl) dX8_isAlikeSeenFrom_25 28 rfl (S' := [.int u2]) rfl ⟨Nat.zero_le _, Nat.zero_le _⟩ ?_
    refine rn_aload_n hX dX8_isAlikeSeenFrom_28 0 rfl 29 rfl ?_
    refine rn_iload_n hX dX8_isAlikeSeenFrom_29 3 rfl 30 rfl ?_
    refine rn_iload hX dX8_isAlikeSeenFrom_30 4 rfl 32 rfl ?_
    refine rn_bind (fun u3 hu3 => ?_)
    refine rn_callV0 hX (gV mcC wd_549 wd_512 wd_513 wd_73 wd_514) rfl hdV_X8_square rfl rfl ⟨Nat.le_of_ble_eq_true rfl, Nat.le_of_ble_eq_true rfl⟩ (c_X8_square (zl Z) (zG Z) a_this a_squares g_places g_squares x3 x4 hu3) rfl [0, 1] rfl rfl (ci := 8) rfl rfl rfl (Nat.le_of_ble_eq_true rfl) dX8_isAlikeSeenFrom_32 35 rfl (S' := [.int u3, .int u2]) rfl ⟨Nat.zero_le _, Nat.zero_le _⟩ ?_
    refine rn_icmp_eq hX dX8_isAlikeSeenFrom_35 40 (by decide) 38 rfl ?_ ?_
    · exact (hJ40 _ hagain) x1 x2 x3 x4
    refine rn_iconst hX dX8_isAlikeSeenFrom_38 39 rfl ic_0 ?_
    exact rn_zret hX rfl hr (by rw [henc]; rfl) dX8_isAlikeSeenFrom_39
  have hL3 : ∀ (n : Nat) (x1 : Int32) (x2 : Int32) (x3 : Int32) (x4 : Int32), Rn Z 5 (Option.map enc) 0 0 3 [(0, .ref a_this), (1, .int x1), (2, .int x2), (3, .int x3), (4, .int x4)] [] [(a_this, .inr (8, [.int g_places, .ref a_squares])), (a_squares, .inl ((zG Z).2.1 1, 49, .inl g_squares))] (X8_isAlikeSeenFrom_L3 g_places g_squares n x1 x2 x3 x4) := by
    intro n
    induction n with
    | zero => intros; exact rn_none
    | succ n ih => exact hB3 _ ih
  unfold X8_isAlikeSeenFrom
  refine rn_iconst hX dX8_isAlikeSeenFrom_0 1 rfl ic_0 ?_
  refine rn_istore hX dX8_isAlikeSeenFrom_1 (by decide) (L' := [(4, .int (0 : Int32)), (0, .ref a_this), (1, .int x1), (2, .int x2), (3, .int x3)]) rfl 3 rfl ?_
  refine rn_sub [1, 2, 3, 4, 0] rfl ?_
  exact (hL3  1000) x1 x2 x3 (0 : Int32)
abbrev rmX8_isToldBy : Room := { frames := 2, cells := 0, slots := 0, locals := 46 }
theorem hdV_X8_isToldBy : yX8_isToldBy.cls = RX8 ∧ yX8_isToldBy.cls ≠ "java/lang/invoke/MethodHandle" ∧ yX8_isToldBy.cls ≠ "java/lang/invoke/VarHandle" ∧ (parseMethodDescriptor yX8_isToldBy.desc).map (fun d => d.parameters.length) = some 2 := by decide +kernel
set_option maxHeartbeats 4000000 in
set_option maxRecDepth 100000 in
theorem c_X8_isToldBy (l : Launch) (G : GT) (a_this a_squares : Nat) (g_places : Int32) (g_squares : (Nat → Int32)) (x1 : Int32) (x2 : Int32) {u : Int32} (hu : X8_isToldBy x1 x2 g_places g_squares = some u) : Ctr l G yX8_isToldBy wsX8_isToldBy rmX8_isToldBy [.ref a_this, .int x1, .int x2] [(a_this, .inr (8, [.int g_places, .ref a_squares])), (a_squares, .inl (G.2.1 1, 49, .inl g_squares))] (some (.int u)) [(a_this, .inr (8, [.int g_places, .ref a_squares])), (a_squares, .inl (G.2.1 1, 49, .inl g_squares))] := by
  obtain ⟨enc, henc⟩ : ∃ enc : (Int32) → Option Value × va_W, enc = fun u => (((some (.int u)) : Option Value), ([(a_this, .inr (8, [.int g_places, .ref a_squares])), (a_squares, .inl (G.2.1 1, 49, .inl g_squares))] : va_W)) := ⟨_, rfl⟩
  refine ctr_of (cc := cX8_isToldBy) (own := RX8) (E := Option.map enc) (o := X8_isToldBy x1 x2 g_places g_squares) (by decide) rfl rfl (L := [(0, .ref a_this), (1, .int x1), (2, .int x2)]) rfl (Nat.le_of_ble_eq_true rfl) (by rw [hu, henc]; rfl) ?_
  intro Z hX hl hG hr
  subst hl; subst hG
  have fl9 : (Cond.fieldLink RX8 9 "OnlyFar$Table" "places" "I").before (za Z) (zs Z) = true := hX.wd (mcC _ wd_128)
  have inX8 : ∀ w ∈ u_ws RX8 TX8 2, w ∈ wsX8_isToldBy := fun w h => mcC w (inC_X8 w h)
  have hJ62 : ∀ (again : Int32 → Int32 → Int32 → Option (Int32)) (hagain : ∀ (x1 : Int32) (x2 : Int32) (x3 : Int32), Rn Z 4 (Option.map enc) 0 0 37 [(0, .ref a_this), (1, .int x1), (2, .int x2), (3, .int x3)] [] [(a_this, .inr (8, [.int g_places, .ref a_squares])), (a_squares, .inl ((zG Z).2.1 1, 49, .inl g_squares))] (again x1 x2 x3)) (x1 : Int32) (x2 : Int32) (x3 : Int32), Rn Z 4 (Option.map enc) 0 0 62 [(0, .ref a_this), (1, .int x1), (2, .int x2), (3, .int x3)] [] [(a_this, .inr (8, [.int g_places, .ref a_squares])), (a_squares, .inl ((zG Z).2.1 1, 49, .inl g_squares))] (X8_isToldBy_J62 again x1 x2 x3) := by
    intro again hagain x1 x2 x3
    unfold X8_isToldBy_J62
    refine rn_iinc hX dX8_isToldBy_62 3 rfl ic_1 (by decide) (L' := fun v1 => [(3, .int v1), (0, .ref a_this), (1, .int x1), (2, .int x2)]) (fun _ => rfl) 65 rfl (fun v1 => ?_)
    refine rn_goto hX dX8_isToldBy_65 37 (by decide) ?_
    refine rn_sub [1, 2, 3, 0] rfl ?_
    exact hagain x1 x2 v1
  have hB37 : ∀ (again : Int32 → Int32 → Int32 → Option (Int32)) (hagain : ∀ (x1 : Int32) (x2 : Int32) (x3 : Int32), Rn Z 4 (Option.map enc) 0 0 37 [(0, .ref a_this), (1, .int x1), (2, .int x2), (3, .int x3)] [] [(a_this, .inr (8, [.int g_places, .ref a_squares])), (a_squares, .inl ((zG Z).2.1 1, 49, .inl g_squares))] (again x1 x2 x3)) (x1 : Int32) (x2 : Int32) (x3 : Int32), Rn Z 4 (Option.map enc) 0 0 37 [(0, .ref a_this), (1, .int x1), (2, .int x2), (3, .int x3)] [] [(a_this, .inr (8, [.int g_places, .ref a_squares])), (a_squares, .inl ((zG Z).2.1 1, 49, .inl g_squares))] (X8_isToldBy_B37 g_places g_squares again x1 x2 x3) := by
    intro again hagain x1 x2 x3
    unfold X8_isToldBy_B37
    refine rn_iload_n hX dX8_isToldBy_37 3 rfl 38 rfl ?_
    refine rn_aload_n hX dX8_isToldBy_38 0 rfl 39 rfl ?_
    refine rn_get hX inX8 0 rfl rfl 0 (by decide) fl9 rfl rfl dX8_isToldBy_39 42 rfl ?_
    refine rn_icmp_ge hX dX8_isToldBy_42 68 (by decide) 45 rfl ?_ ?_
    · refine rn_iconst hX dX8_isToldBy_68 69 rfl ic_1 ?_
      exact rn_zret hX rfl hr (by rw [henc]; rfl) dX8_isToldBy_69
    refine rn_iload_n hX dX8_isToldBy_45 3 rfl 46 rfl ?_
    refine rn_iload_n hX dX8_isToldBy_46 1 rfl 47 rfl ?_
    refine rn_icmp_eq hX dX8_isToldBy_47 62 (by decide) 50 rfl ?_ ?_
    · exact (hJ62 _ hagain) x1 x2 x3
    refine rn_aload_n hX dX8_isToldBy_50 0 rfl 51 rfl ?_
    refine rn_iload_n hX dX8_isToldBy_51 2 rfl 52 rfl ?_
    refine rn_iload_n hX dX8_isToldBy_52 1 rfl 53 rfl ?_
    refine rn_iload_n hX dX8_isToldBy_53 3 rfl 54 rfl ?_
    refine rn_bind (fun u2 hu2 => ?_)
    refine rn_callV0 hX (gV mcC wd_840 wd_842 wd_21 wd_73 wd_843) rfl hdV_X8_isAlikeSeenFrom rfl rfl ⟨Nat.le_of_ble_eq_true rfl, Nat.le_of_ble_eq_true rfl⟩ (c_X8_isAlikeSeenFrom (zl Z) (zG Z) a_this a_squares g_places g_squares x2 x1 x3 hu2) rfl [0, 1] rfl rfl (ci := 8) rfl rfl rfl (Nat.le_of_ble_eq_true rfl) dX8_isToldBy_54 57 rfl (S' := [.int u2]) rfl ⟨Nat.zero_le _, Nat.zero_le _⟩ ?_
    refine rn_if_eq hX dX8_isToldBy_57 62 (by decide) 60 rfl ?_ ?_
    · exact (hJ62 _ hagain) x1 x2 x3
    refine rn_iconst hX dX8_isToldBy_60 61 rfl ic_0 ?_
    exact rn_zret hX rfl hr (by rw [henc]; rfl) dX8_isToldBy_61
  have hL37 : ∀ (n : Nat) (x1 : Int32) (x2 : Int32) (x3 : Int32), Rn Z 4 (Option.map enc) 0 0 37 [(0, .ref a_this), (1, .int x1), (2, .int x2), (3, .int x3)] [] [(a_this, .inr (8, [.int g_places, .ref a_squares])), (a_squares, .inl ((zG Z).2.1 1, 49, .inl g_squares))] (X8_isToldBy_L37 g_places g_squares n x1 x2 x3) := by
    intro n
    induction n with
    | zero => intros; exact rn_none
    | succ n ih => exact hB37 _ ih
  have hJ35 : ∀ (x1 : Int32) (x2 : Int32), Rn Z 4 (Option.map enc) 0 0 35 [(0, .ref a_this), (1, .int x1), (2, .int x2)] [] [(a_this, .inr (8, [.int g_places, .ref a_squares])), (a_squares, .inl ((zG Z).2.1 1, 49, .inl g_squares))] (X8_isToldBy_J35 g_places g_squares x1 x2) := by
    intro x1 x2
    unfold X8_isToldBy_J35
    refine rn_iconst hX dX8_isToldBy_35 36 rfl ic_0 ?_
    refine rn_istore_n hX dX8_isToldBy_36 3 rfl (by decide) (L' := [(3, .int (0 : Int32)), (0, .ref a_this), (1, .int x1), (2, .int x2)]) rfl 37 rfl ?_
    refine rn_sub [1, 2, 3, 0] rfl ?_
    exact (hL37  1000) x1 x2 (0 : Int32)
  have hJ29 : ∀ (again : Int32 → Int32 → Int32 → Option (Int32)) (k35 : Int32 → Int32 → Option (Int32)) (hagain : ∀ (x1 : Int32) (x2 : Int32) (x3 : Int32), Rn Z 4 (Option.map enc) 0 0 2 [(0, .ref a_this), (1, .int x1), (2, .int x2), (3, .int x3)] [] [(a_this, .inr (8, [.int g_places, .ref a_squares])), (a_squares, .inl ((zG Z).2.1 1, 49, .inl g_squares))] (again x1 x2 x3)) (hk35 : ∀ (x1 : Int32) (x2 : Int32), Rn Z 4 (Option.map enc) 0 0 35 [(0, .ref a_this), (1, .int x1), (2, .int x2)] [] [(a_this, .inr (8, [.int g_places, .ref a_squares])), (a_squares, .inl ((zG Z).2.1 1, 49, .inl g_squares))] (k35 x1 x2)) (x1 : Int32) (x2 : Int32) (x3 : Int32), Rn Z 4 (Option.map enc) 0 0 29 [(0, .ref a_this), (1, .int x1), (2, .int x2), (3, .int x3)] [] [(a_this, .inr (8, [.int g_places, .ref a_squares])), (a_squares, .inl ((zG Z).2.1 1, 49, .inl g_squares))] (X8_isToldBy_J29 again k35 x1 x2 x3) := by
    intro again k35 hagain hk35 x1 x2 x3
    unfold X8_isToldBy_J29
    refine rn_iinc hX dX8_isToldBy_29 3 rfl ic_1 (by decide) (L' := fun v3 => [(3, .int v3), (0, .ref a_this), (1, .int x1), (2, .int x2)]) (fun _ => rfl) 32 rfl (fun v3 => ?_)
    refine rn_goto hX dX8_isToldBy_32 2 (by decide) ?_
    refine rn_sub [1, 2, 3, 0] rfl ?_
    exact hagain x1 x2 v3
  have hB2 : ∀ (again : Int32 → Int32 → Int32 → Option (Int32)) (k35 : Int32 → Int32 → Option (Int32)) (hagain : ∀ (x1 : Int32) (x2 : Int32) (x3 : Int32), Rn Z 4 (Option.map enc) 0 0 2 [(0, .ref a_this), (1, .int x1), (2, .int x2), (3, .int x3)] [] [(a_this, .inr (8, [.int g_places, .ref a_squares])), (a_squares, .inl ((zG Z).2.1 1, 49, .inl g_squares))] (again x1 x2 x3)) (hk35 : ∀ (x1 : Int32) (x2 : Int32), Rn Z 4 (Option.map enc) 0 0 35 [(0, .ref a_this), (1, .int x1), (2, .int x2)] [] [(a_this, .inr (8, [.int g_places, .ref a_squares])), (a_squares, .inl ((zG Z).2.1 1, 49, .inl g_squares))] (k35 x1 x2)) (x1 : Int32) (x2 : Int32) (x3 : Int32), Rn Z 4 (Option.map enc) 0 0 2 [(0, .ref a_this), (1, .int x1), (2, .int x2), (3, .int x3)] [] [(a_this, .inr (8, [.int g_places, .ref a_squares])), (a_squares, .inl ((zG Z).2.1 1, 49, .inl g_squares))] (X8_isToldBy_B2 g_places g_squares again k35 x1 x2 x3) := by
    intro again k35 hagain hk35 x1 x2 x3
    unfold X8_isToldBy_B2
    refine rn_iload_n hX dX8_isToldBy_2 3 rfl 3 rfl ?_
    refine rn_aload_n hX dX8_isToldBy_3 0 rfl 4 rfl ?_
    refine rn_get hX inX8 0 rfl rfl 0 (by decide) fl9 rfl rfl dX8_isToldBy_4 7 rfl ?_
    refine rn_icmp_ge hX dX8_isToldBy_7 35 (by decide) 10 rfl ?_ ?_
    · refine rn_sub [0, 1, 2] rfl ?_
      exact hk35 x1 x2
    refine rn_iload_n hX dX8_isToldBy_10 2 rfl 11 rfl ?_
    refine rn_iload_n hX dX8_isToldBy_11 3 rfl 12 rfl ?_
    refine rn_callSN0 hX (goodK mcC wd_684) rfl (host := "OnlyFar") hn_X8_80 (hX.wd (mcC _ wd_70)) (hX.wd (mcC _ wd_683)) hdS_X10_hasBit rfl rfl ⟨Nat.le_of_ble_eq_true rfl, Nat.le_of_ble_eq_true rfl⟩ (c_X10_hasBit (zl Z) (zG Z) x2 x3 rfl) rfl [] rfl rfl rfl (Nat.le_of_ble_eq_true rfl) dX8_isToldBy_12 15 rfl (S' := [.int (X10_hasBit x2 x3)]) rfl ⟨Nat.zero_le _, Nat.zero_le _⟩ ?_
    refine rn_if_eq hX dX8_isToldBy_15 29 (by decide) 18 rfl ?_ ?_
    · exact (hJ29 _ _ hagain hk35) x1 x2 x3
    refine rn_aload_n hX dX8_isToldBy_18 0 rfl 19 rfl ?_
    refine rn_iload_n hX dX8_isToldBy_19 1 rfl 20 rfl ?_
    refine rn_iload_n hX dX8_isToldBy_20 3 rfl 21 rfl ?_
    refine rn_bind (fun u4 hu4 => ?_)
    refine rn_callV0 hX (gV mcC wd_549 wd_512 wd_513 wd_73 wd_514) rfl hdV_X8_square rfl rfl ⟨Nat.le_of_ble_eq_true rfl, Nat.le_of_ble_eq_true rfl⟩ (c_X8_square (zl Z) (zG Z) a_this a_squares g_places g_squares x1 x3 hu4) rfl [0, 1] rfl rfl (ci := 8) rfl rfl rfl (Nat.le_of_ble_eq_true rfl) dX8_isToldBy_21 24 rfl (S' := [.int u4]) rfl ⟨Nat.zero_le _, Nat.zero_le _⟩ ?_
    refine rn_if_ne hX dX8_isToldBy_24 29 (by decide) 27 rfl ?_ ?_
    · exact (hJ29 _ _ hagain hk35) x1 x2 x3
    refine rn_iconst hX dX8_isToldBy_27 28 rfl ic_0 ?_
    exact rn_zret hX rfl hr (by rw [henc]; rfl) dX8_isToldBy_28
  have hL2 : ∀ (k35 : Int32 → Int32 → Option (Int32)) (hk35 : ∀ (x1 : Int32) (x2 : Int32), Rn Z 4 (Option.map enc) 0 0 35 [(0, .ref a_this), (1, .int x1), (2, .int x2)] [] [(a_this, .inr (8, [.int g_places, .ref a_squares])), (a_squares, .inl ((zG Z).2.1 1, 49, .inl g_squares))] (k35 x1 x2)) (n : Nat) (x1 : Int32) (x2 : Int32) (x3 : Int32), Rn Z 4 (Option.map enc) 0 0 2 [(0, .ref a_this), (1, .int x1), (2, .int x2), (3, .int x3)] [] [(a_this, .inr (8, [.int g_places, .ref a_squares])), (a_squares, .inl ((zG Z).2.1 1, 49, .inl g_squares))] (X8_isToldBy_L2 g_places g_squares k35 n x1 x2 x3) := by
    intro k35 hk35 n
    induction n with
    | zero => intros; exact rn_none
    | succ n ih => exact hB2 _ _ ih hk35
  unfold X8_isToldBy
  refine rn_iconst hX dX8_isToldBy_0 1 rfl ic_0 ?_
  refine rn_istore_n hX dX8_isToldBy_1 3 rfl (by decide) (L' := [(3, .int (0 : Int32)), (0, .ref a_this), (1, .int x1), (2, .int x2)]) rfl 2 rfl ?_
  refine rn_sub [1, 2, 3, 0] rfl ?_
  exact (hL2 _ hJ35 1000) x1 x2 (0 : Int32)
abbrev rmX9_add : Room := { frames := 0, cells := 0, slots := 0, locals := 0 }
theorem hdV_X9_add : yX9_add.cls = RX9 ∧ yX9_add.cls ≠ "java/lang/invoke/MethodHandle" ∧ yX9_add.cls ≠ "java/lang/invoke/VarHandle" ∧ (parseMethodDescriptor yX9_add.desc).map (fun d => d.parameters.length) = some 1 := by decide +kernel
set_option maxHeartbeats 4000000 in
set_option maxRecDepth 100000 in
theorem c_X9_add (l : Launch) (G : GT) (a_this a_bytes : Nat) (g_length : Int32) (g_bytes : (Nat → Int32)) (x1 : Int64) {u : Int32 × Int32 × (Nat → Int32)} (hu : X9_add x1 g_length g_bytes = some u) : Ctr l G yX9_add wsX9_add rmX9_add [.ref a_this, .long x1] [(a_this, .inr (9, [.int g_length, .ref a_bytes])), (a_bytes, .inl (G.2.1 0, 320, .inl g_bytes))] (some (.int u.1)) [(a_this, .inr (9, [.int u.2.1, .ref a_bytes])), (a_bytes, .inl (G.2.1 0, 320, .inl u.2.2))] := by
  obtain ⟨enc, henc⟩ : ∃ enc : (Int32 × Int32 × (Nat → Int32)) → Option Value × va_W, enc = fun u => (((some (.int u.1)) : Option Value), ([(a_this, .inr (9, [.int u.2.1, .ref a_bytes])), (a_bytes, .inl (G.2.1 0, 320, .inl u.2.2))] : va_W)) := ⟨_, rfl⟩
  refine ctr_of (cc := cX9_add) (own := RX9) (E := Option.map enc) (o := X9_add x1 g_length g_bytes) (by decide) rfl rfl (L := [(0, .ref a_this), (1, .long x1)]) rfl (Nat.le_of_ble_eq_true rfl) (by rw [hu, henc]; rfl) ?_
  intro Z hX hl hG hr
  subst hl; subst hG
  have fl15 : (Cond.fieldLink RX9 15 "OnlyFar$Tape" "bytes" "[B").before (za Z) (zs Z) = true := hX.wd (mcC _ wd_108)
  have fl9 : (Cond.fieldLink RX9 9 "OnlyFar$Tape" "length" "I").before (za Z) (zs Z) = true := hX.wd (mcC _ wd_105)
  have inX9 : ∀ w ∈ u_ws RX9 TX9 2, w ∈ wsX9_add := fun w h => mcC w (inC_X9 w h)
  have hJ55 : ∀ (g_length : Int32) (g_bytes : (Nat → Int32)), Rn Z 4 (Option.map enc) 0 0 55 [(0, .ref a_this)] [] [(a_this, .inr (9, [.int g_length, .ref a_bytes])), (a_bytes, .inl ((zG Z).2.1 0, 320, .inl g_bytes))] (X9_add_J55 g_length g_bytes) := by
    intro g_length g_bytes
    unfold X9_add_J55
    refine rn_aload_n hX dX9_add_55 0 rfl 56 rfl ?_
    refine rn_dup hX dX9_add_56 57 rfl rfl ?_
    refine rn_get hX inX9 0 rfl rfl 0 (by decide) fl9 rfl rfl dX9_add_57 60 rfl ?_
    refine rn_bipush hX dX9_add_60 62 rfl bp_8 ?_
    refine rn_iadd hX dX9_add_62 63 rfl ?_
    refine rn_lati (fun v1 => ?_)
    refine rn_put hX inX9 tyX9_ok nmX9 0 rfl rfl 0 (by decide) fl9 rfl rfl rfl rfl (Nat.le_of_ble_eq_true rfl) dX9_add_63 66 rfl (w1 := [(a_this, .inr (9, [.int v1, .ref a_bytes])), (a_bytes, .inl ((zG Z).2.1 0, 320, .inl g_bytes))]) rfl ?_
    refine rn_iconst hX dX9_add_66 67 rfl ic_1 ?_
    exact rn_zret hX rfl hr (by rw [henc]; rfl) dX9_add_67
  have hB21 : ∀ (again : Int64 → Int32 → Int32 → (Nat → Int32) → Option (Int32 × Int32 × (Nat → Int32))) (k55 : Int32 → (Nat → Int32) → Option (Int32 × Int32 × (Nat → Int32))) (hagain : ∀ (x1 : Int64) (x3 : Int32) (g_length : Int32) (g_bytes : (Nat → Int32)), Rn Z 4 (Option.map enc) 0 0 21 [(0, .ref a_this), (1, .long x1), (3, .int x3)] [] [(a_this, .inr (9, [.int g_length, .ref a_bytes])), (a_bytes, .inl ((zG Z).2.1 0, 320, .inl g_bytes))] (again x1 x3 g_length g_bytes)) (hk55 : ∀ (g_length : Int32) (g_bytes : (Nat → Int32)), Rn Z 4 (Option.map enc) 0 0 55 [(0, .ref a_this)] [] [(a_this, .inr (9, [.int g_length, .ref a_bytes])), (a_bytes, .inl ((zG Z).2.1 0, 320, .inl g_bytes))] (k55 g_length g_bytes)) (x1 : Int64) (x3 : Int32) (g_length : Int32) (g_bytes : (Nat → Int32)), Rn Z 4 (Option.map enc) 0 0 21 [(0, .ref a_this), (1, .long x1), (3, .int x3)] [] [(a_this, .inr (9, [.int g_length, .ref a_bytes])), (a_bytes, .inl ((zG Z).2.1 0, 320, .inl g_bytes))] (X9_add_B21 again k55 x1 x3 g_length g_bytes) := by
    intro again k55 hagain hk55 x1 x3 g_length g_bytes
    unfold X9_add_B21
    refine rn_iload_n hX dX9_add_21 2 rfl 22 rfl ?_
    refine rn_bipush hX dX9_add_22 24 rfl bp_8 ?_
    refine rn_icmp_ge hX dX9_add_24 55 (by decide) 27 rfl ?_ ?_
    · refine rn_sub [0] rfl ?_
      exact hk55 g_length g_bytes
    refine rn_aload_n hX dX9_add_27 0 rfl 28 rfl ?_
    refine rn_get hX inX9 0 rfl rfl 1 (by decide) fl15 rfl rfl dX9_add_28 31 rfl ?_
    refine rn_aload_n hX dX9_add_31 0 rfl 32 rfl ?_
    refine rn_get hX inX9 0 rfl rfl 0 (by decide) fl9 rfl rfl dX9_add_32 35 rfl ?_
    refine rn_iload_n hX dX9_add_35 2 rfl 36 rfl ?_
    refine rn_iadd hX dX9_add_36 37 rfl ?_
    refine rn_lload_n hX dX9_add_37 1 rfl 38 rfl ?_
    refine rn_bipush hX dX9_add_38 40 rfl bp_56 ?_
    refine rn_bipush hX dX9_add_40 42 rfl bp_8 ?_
    refine rn_iload_n hX dX9_add_42 2 rfl 43 rfl ?_
    refine rn_imul hX dX9_add_43 44 rfl ?_
    refine rn_isub hX dX9_add_44 45 rfl ?_
    refine rn_lushr hX dX9_add_45 46 rfl ?_
    refine rn_l2i hX dX9_add_46 47 rfl ?_
    refine rn_i2b hX dX9_add_47 48 rfl ?_
    refine rn_gd (fun hi2 => ?_)
    refine rn_bast hX 1 rfl hi2 dX9_add_48 49 rfl (w1 := fun m3 => [(a_this, .inr (9, [.int g_length, .ref a_bytes])), (a_bytes, .inl ((zG Z).2.1 0, 320, .inl m3))]) (fun _ => rfl) (fun m3 => ?_)
    refine rn_iinc hX dX9_add_49 2 rfl ic_1 (by decide) (L' := fun v4 => [(3, .int v4), (0, .ref a_this), (1, .long x1)]) (fun _ => rfl) 52 rfl (fun v4 => ?_)
    refine rn_goto hX dX9_add_52 21 (by decide) ?_
    refine rn_sub [1, 2, 0] rfl ?_
    exact hagain x1 v4 g_length m3
  have hL21 : ∀ (k55 : Int32 → (Nat → Int32) → Option (Int32 × Int32 × (Nat → Int32))) (hk55 : ∀ (g_length : Int32) (g_bytes : (Nat → Int32)), Rn Z 4 (Option.map enc) 0 0 55 [(0, .ref a_this)] [] [(a_this, .inr (9, [.int g_length, .ref a_bytes])), (a_bytes, .inl ((zG Z).2.1 0, 320, .inl g_bytes))] (k55 g_length g_bytes)) (n : Nat) (x1 : Int64) (x3 : Int32) (g_length : Int32) (g_bytes : (Nat → Int32)), Rn Z 4 (Option.map enc) 0 0 21 [(0, .ref a_this), (1, .long x1), (3, .int x3)] [] [(a_this, .inr (9, [.int g_length, .ref a_bytes])), (a_bytes, .inl ((zG Z).2.1 0, 320, .inl g_bytes))] (X9_add_L21 k55 n x1 x3 g_length g_bytes) := by
    intro k55 hk55 n
    induction n with
    | zero => intros; exact rn_none
    | succ n ih => exact hB21 _ _ ih hk55
  unfold X9_add
  refine rn_aload_n hX dX9_add_0 0 rfl 1 rfl ?_
  refine rn_get hX inX9 0 rfl rfl 0 (by decide) fl9 rfl rfl dX9_add_1 4 rfl ?_
  refine rn_if_lt hX dX9_add_4 17 (by decide) 7 rfl ?_ ?_
  · refine rn_iconst hX dX9_add_17 18 rfl ic_0 ?_
    exact rn_zret hX rfl hr (by rw [henc]; rfl) dX9_add_18
  refine rn_aload_n hX dX9_add_7 0 rfl 8 rfl ?_
  refine rn_get hX inX9 0 rfl rfl 0 (by decide) fl9 rfl rfl dX9_add_8 11 rfl ?_
  refine rn_sipush hX dX9_add_11 14 rfl sp_312 ?_
  refine rn_icmp_le hX dX9_add_14 19 (by decide) 17 rfl ?_ ?_
  · refine rn_iconst hX dX9_add_19 20 rfl ic_0 ?_
    refine rn_istore_n hX dX9_add_20 3 rfl (by decide) (L' := [(3, .int (0 : Int32)), (0, .ref a_this), (1, .long x1)]) rfl 21 rfl ?_
    refine rn_sub [1, 2, 0] rfl ?_
    exact (hL21 _ hJ55 1000) x1 (0 : Int32) g_length g_bytes
  refine rn_iconst hX dX9_add_17 18 rfl ic_0 ?_
  exact rn_zret hX rfl hr (by rw [henc]; rfl) dX9_add_18
abbrev rmX10_feed : Room := { frames := 1, cells := 0, slots := 0, locals := 23 }
theorem hdV_X10_feed : yX10_feed.cls = RX10 ∧ yX10_feed.cls ≠ "java/lang/invoke/MethodHandle" ∧ yX10_feed.cls ≠ "java/lang/invoke/VarHandle" ∧ (parseMethodDescriptor yX10_feed.desc).map (fun d => d.parameters.length) = some 1 := by decide +kernel
set_option maxHeartbeats 4000000 in
set_option maxRecDepth 100000 in
theorem c_X10_feed (l : Launch) (G : GT) (a_this a_tape a_tape_bytes a_reader a_table a_way a_images a_sheets a_flaws a_sixthOf a_drawing a_naming : Nat) (g_lastFault : Int32) (g_lastTear : Int32) (g_tape_length : Int32) (g_tape_bytes : (Nat → Int32)) (x1 : Int64) {u : Int32 × Int32 × (Nat → Int32)} (hu : X10_feed x1 g_tape_length g_tape_bytes = some u) : Ctr l G yX10_feed wsX10_feed rmX10_feed [.ref a_this, .long x1] [(a_this, .inr (10, [.ref a_tape, .ref a_reader, .ref a_table, .ref a_way, .ref a_images, .ref a_sheets, .ref a_flaws, .ref a_sixthOf, .ref a_drawing, .ref a_naming, .int g_lastFault, .int g_lastTear])), (a_tape, .inr (9, [.int g_tape_length, .ref a_tape_bytes])), (a_tape_bytes, .inl (G.2.1 0, 320, .inl g_tape_bytes))] (some (.int u.1)) [(a_this, .inr (10, [.ref a_tape, .ref a_reader, .ref a_table, .ref a_way, .ref a_images, .ref a_sheets, .ref a_flaws, .ref a_sixthOf, .ref a_drawing, .ref a_naming, .int g_lastFault, .int g_lastTear])), (a_tape, .inr (9, [.int u.2.1, .ref a_tape_bytes])), (a_tape_bytes, .inl (G.2.1 0, 320, .inl u.2.2))] := by
  obtain ⟨enc, henc⟩ : ∃ enc : (Int32 × Int32 × (Nat → Int32)) → Option Value × va_W, enc = fun u => (((some (.int u.1)) : Option Value), ([(a_this, .inr (10, [.ref a_tape, .ref a_reader, .ref a_table, .ref a_way, .ref a_images, .ref a_sheets, .ref a_flaws, .ref a_sixthOf, .ref a_drawing, .ref a_naming, .int g_lastFault, .int g_lastTear])), (a_tape, .inr (9, [.int u.2.1, .ref a_tape_bytes])), (a_tape_bytes, .inl (G.2.1 0, 320, .inl u.2.2))] : va_W)) := ⟨_, rfl⟩
  refine ctr_of (cc := cX10_feed) (own := RX10) (E := Option.map enc) (o := X10_feed x1 g_tape_length g_tape_bytes) (by decide) rfl rfl (L := [(0, .ref a_this), (1, .long x1)]) rfl (Nat.le_of_ble_eq_true rfl) (by rw [hu, henc]; rfl) ?_
  intro Z hX hl hG hr
  subst hl; subst hG
  have fl10 : (Cond.fieldLink RX10 10 "OnlyFar" "tape" "LOnlyFar$Tape;").before (za Z) (zs Z) = true := hX.wd (mcC _ wd_357)
  have fl94 : (Cond.fieldLink RX10 94 "OnlyFar$Tape" "length" "I").before (za Z) (zs Z) = true := hX.wd (mcC _ wd_106)
  have inX10 : ∀ w ∈ u_ws RX10 TX10 12, w ∈ wsX10_feed := fun w h => mcC w (inC_X10 w h)
  have inX9 : ∀ w ∈ u_ws RX9 TX9 2, w ∈ wsX10_feed := fun w h => mcC w (inC_X9 w h)
  unfold X10_feed
  refine rn_aload_n hX dX10_feed_0 0 rfl 1 rfl ?_
  refine rn_get hX inX10 0 rfl rfl 0 (by decide) fl10 rfl rfl dX10_feed_1 4 rfl ?_
  refine rn_lload_n hX dX10_feed_4 1 rfl 5 rfl ?_
  refine rn_bind (fun u1 hu1 => ?_)
  refine rn_callV hX (gV mcC wd_398 wd_399 wd_400 wd_71 wd_401) rfl hdV_X9_add rfl rfl ⟨Nat.le_of_ble_eq_true rfl, Nat.le_of_ble_eq_true rfl⟩ (c_X9_add (zl Z) (zG Z) a_tape a_tape_bytes g_tape_length g_tape_bytes x1 hu1) rfl [1, 2] rfl rfl rfl (ci := 9) rfl rfl rfl (Nat.le_of_ble_eq_true rfl) dX10_feed_5 8 rfl (wn := [(a_this, .inr (10, [.ref a_tape, .ref a_reader, .ref a_table, .ref a_way, .ref a_images, .ref a_sheets, .ref a_flaws, .ref a_sixthOf, .ref a_drawing, .ref a_naming, .int g_lastFault, .int g_lastTear])), (a_tape, .inr (9, [.int u1.2.1, .ref a_tape_bytes])), (a_tape_bytes, .inl ((zG Z).2.1 0, 320, .inl u1.2.2))]) rfl (S' := [.int u1.1]) rfl ⟨Nat.zero_le _, Nat.zero_le _⟩ ?_
  refine rn_if_eq hX dX10_feed_8 21 (by decide) 11 rfl ?_ ?_
  · refine rn_bipush hX dX10_feed_21 23 rfl bp_m3 ?_
    exact rn_iret hX hr (by rw [henc]; rfl) dX10_feed_23
  refine rn_aload_n hX dX10_feed_11 0 rfl 12 rfl ?_
  refine rn_get hX inX10 0 rfl rfl 0 (by decide) fl10 rfl rfl dX10_feed_12 15 rfl ?_
  refine rn_get hX inX9 1 rfl rfl 0 (by decide) fl94 rfl rfl dX10_feed_15 18 rfl ?_
  refine rn_goto hX dX10_feed_18 23 (by decide) ?_
  exact rn_iret hX hr (by rw [henc]; rfl) dX10_feed_23
abbrev rmX10_end : Room := { frames := 0, cells := 0, slots := 0, locals := 0 }
theorem hdV_X10_end : yX10_end.cls = RX10 ∧ yX10_end.cls ≠ "java/lang/invoke/MethodHandle" ∧ yX10_end.cls ≠ "java/lang/invoke/VarHandle" ∧ (parseMethodDescriptor yX10_end.desc).map (fun d => d.parameters.length) = some 1 := by decide +kernel
set_option maxHeartbeats 4000000 in
set_option maxRecDepth 100000 in
theorem c_X10_end (l : Launch) (G : GT) (a_this a_tape a_reader a_table a_way a_images a_sheets a_flaws a_sixthOf a_drawing a_naming a_tape_bytes : Nat) (g_lastFault : Int32) (g_lastTear : Int32) (g_tape_length : Int32) (x1 : Int32) {u : Int32 × Int32} (hu : X10_end x1 g_tape_length = u) : Ctr l G yX10_end wsX10_end rmX10_end [.ref a_this, .int x1] [(a_this, .inr (10, [.ref a_tape, .ref a_reader, .ref a_table, .ref a_way, .ref a_images, .ref a_sheets, .ref a_flaws, .ref a_sixthOf, .ref a_drawing, .ref a_naming, .int g_lastFault, .int g_lastTear])), (a_tape, .inr (9, [.int g_tape_length, .ref a_tape_bytes]))] (some (.int u.1)) [(a_this, .inr (10, [.ref a_tape, .ref a_reader, .ref a_table, .ref a_way, .ref a_images, .ref a_sheets, .ref a_flaws, .ref a_sixthOf, .ref a_drawing, .ref a_naming, .int g_lastFault, .int g_lastTear])), (a_tape, .inr (9, [.int u.2, .ref a_tape_bytes]))] := by
  obtain ⟨enc, henc⟩ : ∃ enc : (Int32 × Int32) → Option Value × va_W, enc = fun u => (((some (.int u.1)) : Option Value), ([(a_this, .inr (10, [.ref a_tape, .ref a_reader, .ref a_table, .ref a_way, .ref a_images, .ref a_sheets, .ref a_flaws, .ref a_sixthOf, .ref a_drawing, .ref a_naming, .int g_lastFault, .int g_lastTear])), (a_tape, .inr (9, [.int u.2, .ref a_tape_bytes]))] : va_W)) := ⟨_, rfl⟩
  refine ctr_of (cc := cX10_end) (own := RX10) (E := fun o => some (enc o)) (o := X10_end x1 g_tape_length) (by decide) rfl rfl (L := [(0, .ref a_this), (1, .int x1)]) rfl (Nat.le_of_ble_eq_true rfl) (by rw [hu, henc]) ?_
  intro Z hX hl hG hr
  subst hl; subst hG
  have fl10 : (Cond.fieldLink RX10 10 "OnlyFar" "tape" "LOnlyFar$Tape;").before (za Z) (zs Z) = true := hX.wd (mcC _ wd_357)
  have fl94 : (Cond.fieldLink RX10 94 "OnlyFar$Tape" "length" "I").before (za Z) (zs Z) = true := hX.wd (mcC _ wd_106)
  have inX10 : ∀ w ∈ u_ws RX10 TX10 12, w ∈ wsX10_end := fun w h => mcC w (inC_X10 w h)
  have inX9 : ∀ w ∈ u_ws RX9 TX9 2, w ∈ wsX10_end := fun w h => mcC w (inC_X9 w h)
  unfold X10_end
  refine rn_iload_n hX dX10_end_0 1 rfl 1 rfl ?_
  refine rn_if_lt hX dX10_end_1 15 (by decide) 4 rfl ?_ ?_
  · refine rn_iconst hX dX10_end_15 16 rfl ic_m1 ?_
    exact rn_iret hX hr (by rw [henc]) dX10_end_16
  refine rn_iload_n hX dX10_end_4 1 rfl 5 rfl ?_
  refine rn_aload_n hX dX10_end_5 0 rfl 6 rfl ?_
  refine rn_get hX inX10 0 rfl rfl 0 (by decide) fl10 rfl rfl dX10_end_6 9 rfl ?_
  refine rn_get hX inX9 1 rfl rfl 0 (by decide) fl94 rfl rfl dX10_end_9 12 rfl ?_
  refine rn_icmp_le hX dX10_end_12 17 (by decide) 15 rfl ?_ ?_
  · refine rn_aload_n hX dX10_end_17 0 rfl 18 rfl ?_
    refine rn_get hX inX10 0 rfl rfl 0 (by decide) fl10 rfl rfl dX10_end_18 21 rfl ?_
    refine rn_get hX inX9 1 rfl rfl 0 (by decide) fl94 rfl rfl dX10_end_21 24 rfl ?_
    refine rn_istore_n hX dX10_end_24 2 rfl (by decide) (L' := [(2, .int g_tape_length), (0, .ref a_this), (1, .int x1)]) rfl 25 rfl ?_
    refine rn_aload_n hX dX10_end_25 1 rfl 26 rfl ?_
    refine rn_get hX inX10 0 rfl rfl 0 (by decide) fl10 rfl rfl dX10_end_26 29 rfl ?_
    refine rn_iload_n hX dX10_end_29 2 rfl 30 rfl ?_
    refine rn_put hX inX9 tyX9_ok nmX9 1 rfl rfl 0 (by decide) fl94 rfl rfl rfl rfl (Nat.le_of_ble_eq_true rfl) dX10_end_30 33 rfl (w1 := [(a_this, .inr (10, [.ref a_tape, .ref a_reader, .ref a_table, .ref a_way, .ref a_images, .ref a_sheets, .ref a_flaws, .ref a_sixthOf, .ref a_drawing, .ref a_naming, .int g_lastFault, .int g_lastTear])), (a_tape, .inr (9, [.int x1, .ref a_tape_bytes]))]) rfl ?_
    refine rn_iload_n hX dX10_end_33 0 rfl 34 rfl ?_
    exact rn_iret hX hr (by rw [henc]) dX10_end_34
  refine rn_iconst hX dX10_end_15 16 rfl ic_m1 ?_
  exact rn_iret hX hr (by rw [henc]) dX10_end_16
abbrev rmX10_land : Room := { frames := 7, cells := 0, slots := 0, locals := 148 }
theorem hdV_X10_land : yX10_land.cls = RX10 ∧ yX10_land.cls ≠ "java/lang/invoke/MethodHandle" ∧ yX10_land.cls ≠ "java/lang/invoke/VarHandle" ∧ (parseMethodDescriptor yX10_land.desc).map (fun d => d.parameters.length) = some 0 := by decide +kernel
set_option maxHeartbeats 4000000 in
set_option maxRecDepth 100000 in
theorem c_X10_land (l : Launch) (G : GT) (a_this a_images a_images_0 a_images_1 a_reader a_reader_draft a_reader_draft_squares a_table a_table_squares a_tape a_tape_bytes a_way a_sheets a_flaws a_sixthOf a_drawing a_naming a_images_0_table a_images_0_way a_images_1_table a_images_1_way a_way_lengths : Nat) (g_lastFault : Int32) (g_lastTear : Int32) (g_images_0_kept : Int32) (g_images_1_kept : Int32) (g_reader_lines : Int32) (g_reader_fault : Int32) (g_reader_faultAt : Int32) (g_reader_placesTold : Int32) (g_reader_greatestPlace : Int32) (g_reader_next : Int32) (g_reader_kind : Int32) (g_reader_start : Int32) (g_reader_value : Int32) (g_reader_draft_places : Int32) (g_reader_draft_squares : (Nat → Int32)) (g_table_places : Int32) (g_table_squares : (Nat → Int32)) (g_tape_length : Int32) (g_tape_bytes : (Nat → Int32)) (g_way_parts : Int32) {u : Int32 × Int32 × Int32 × Int32 × Int32 × Int32 × Int32 × Int32 × Int32 × Int32 × Int32 × Int32 × Int32 × Int32 × (Nat → Int32) × Int32 × (Nat → Int32) × Int32 × Int32} (hu : X10_land g_lastFault g_images_0_kept g_images_1_kept g_reader_fault g_reader_faultAt g_reader_greatestPlace g_reader_kind g_reader_lines g_reader_next g_reader_placesTold g_reader_start g_reader_value g_reader_draft_places g_reader_draft_squares g_table_places g_table_squares g_tape_length g_tape_bytes g_way_parts = some u) : Ctr l G yX10_land wsX10_land rmX10_land [.ref a_this] [(a_this, .inr (10, [.ref a_tape, .ref a_reader, .ref a_table, .ref a_way, .ref a_images, .ref a_sheets, .ref a_flaws, .ref a_sixthOf, .ref a_drawing, .ref a_naming, .int g_lastFault, .int g_lastTear])), (a_images, .inl (G.2.1 3, 2, .inr (.inr (.inr (.inr (rf2 a_images_0 a_images_1)))))), (a_images_0, .inr (2, [.int g_images_0_kept, .ref a_images_0_table, .ref a_images_0_way])), (a_images_1, .inr (2, [.int g_images_1_kept, .ref a_images_1_table, .ref a_images_1_way])), (a_reader, .inr (4, [.ref a_reader_draft, .int g_reader_lines, .int g_reader_fault, .int g_reader_faultAt, .ref a_tape, .int g_reader_placesTold, .int g_reader_greatestPlace, .int g_reader_next, .int g_reader_kind, .int g_reader_start, .int g_reader_value])), (a_reader_draft, .inr (8, [.int g_reader_draft_places, .ref a_reader_draft_squares])), (a_reader_draft_squares, .inl (G.2.1 1, 49, .inl g_reader_draft_squares)), (a_table, .inr (8, [.int g_table_places, .ref a_table_squares])), (a_table_squares, .inl (G.2.1 1, 49, .inl g_table_squares)), (a_tape, .inr (9, [.int g_tape_length, .ref a_tape_bytes])), (a_tape_bytes, .inl (G.2.1 0, 320, .inl g_tape_bytes)), (a_way, .inr (5, [.int g_way_parts, .ref a_way_lengths]))] (some (.int u.1)) [(a_this, .inr (10, [.ref a_tape, .ref a_reader, .ref a_table, .ref a_way, .ref a_images, .ref a_sheets, .ref a_flaws, .ref a_sixthOf, .ref a_drawing, .ref a_naming, .int u.2.1, .int g_lastTear])), (a_images, .inl (G.2.1 3, 2, .inr (.inr (.inr (.inr (rf2 a_images_0 a_images_1)))))), (a_images_0, .inr (2, [.int u.2.2.1, .ref a_images_0_table, .ref a_images_0_way])), (a_images_1, .inr (2, [.int u.2.2.2.1, .ref a_images_1_table, .ref a_images_1_way])), (a_reader, .inr (4, [.ref a_reader_draft, .int u.2.2.2.2.2.2.2.2.1, .int u.2.2.2.2.1, .int u.2.2.2.2.2.1, .ref a_tape, .int u.2.2.2.2.2.2.2.2.2.2.1, .int u.2.2.2.2.2.2.1, .int u.2.2.2.2.2.2.2.2.2.1, .int u.2.2.2.2.2.2.2.1, .int u.2.2.2.2.2.2.2.2.2.2.2.1, .int u.2.2.2.2.2.2.2.2.2.2.2.2.1])), (a_reader_draft, .inr (8, [.int u.2.2.2.2.2.2.2.2.2.2.2.2.2.1, .ref a_reader_draft_squares])), (a_reader_draft_squares, .inl (G.2.1 1, 49, .inl u.2.2.2.2.2.2.2.2.2.2.2.2.2.2.1)), (a_table, .inr (8, [.int u.2.2.2.2.2.2.2.2.2.2.2.2.2.2.2.1, .ref a_table_squares])), (a_table_squares, .inl (G.2.1 1, 49, .inl u.2.2.2.2.2.2.2.2.2.2.2.2.2.2.2.2.1)), (a_tape, .inr (9, [.int u.2.2.2.2.2.2.2.2.2.2.2.2.2.2.2.2.2.1, .ref a_tape_bytes])), (a_tape_bytes, .inl (G.2.1 0, 320, .inl g_tape_bytes)), (a_way, .inr (5, [.int u.2.2.2.2.2.2.2.2.2.2.2.2.2.2.2.2.2.2, .ref a_way_lengths]))] := by
  obtain ⟨enc, henc⟩ : ∃ enc : (Int32 × Int32 × Int32 × Int32 × Int32 × Int32 × Int32 × Int32 × Int32 × Int32 × Int32 × Int32 × Int32 × Int32 × (Nat → Int32) × Int32 × (Nat → Int32) × Int32 × Int32) → Option Value × va_W, enc = fun u => (((some (.int u.1)) : Option Value), ([(a_this, .inr (10, [.ref a_tape, .ref a_reader, .ref a_table, .ref a_way, .ref a_images, .ref a_sheets, .ref a_flaws, .ref a_sixthOf, .ref a_drawing, .ref a_naming, .int u.2.1, .int g_lastTear])), (a_images, .inl (G.2.1 3, 2, .inr (.inr (.inr (.inr (rf2 a_images_0 a_images_1)))))), (a_images_0, .inr (2, [.int u.2.2.1, .ref a_images_0_table, .ref a_images_0_way])), (a_images_1, .inr (2, [.int u.2.2.2.1, .ref a_images_1_table, .ref a_images_1_way])), (a_reader, .inr (4, [.ref a_reader_draft, .int u.2.2.2.2.2.2.2.2.1, .int u.2.2.2.2.1, .int u.2.2.2.2.2.1, .ref a_tape, .int u.2.2.2.2.2.2.2.2.2.2.1, .int u.2.2.2.2.2.2.1, .int u.2.2.2.2.2.2.2.2.2.1, .int u.2.2.2.2.2.2.2.1, .int u.2.2.2.2.2.2.2.2.2.2.2.1, .int u.2.2.2.2.2.2.2.2.2.2.2.2.1])), (a_reader_draft, .inr (8, [.int u.2.2.2.2.2.2.2.2.2.2.2.2.2.1, .ref a_reader_draft_squares])), (a_reader_draft_squares, .inl (G.2.1 1, 49, .inl u.2.2.2.2.2.2.2.2.2.2.2.2.2.2.1)), (a_table, .inr (8, [.int u.2.2.2.2.2.2.2.2.2.2.2.2.2.2.2.1, .ref a_table_squares])), (a_table_squares, .inl (G.2.1 1, 49, .inl u.2.2.2.2.2.2.2.2.2.2.2.2.2.2.2.2.1)), (a_tape, .inr (9, [.int u.2.2.2.2.2.2.2.2.2.2.2.2.2.2.2.2.2.1, .ref a_tape_bytes])), (a_tape_bytes, .inl (G.2.1 0, 320, .inl g_tape_bytes)), (a_way, .inr (5, [.int u.2.2.2.2.2.2.2.2.2.2.2.2.2.2.2.2.2.2, .ref a_way_lengths]))] : va_W)) := ⟨_, rfl⟩
  refine ctr_of (cc := cX10_land) (own := RX10) (E := Option.map enc) (o := X10_land g_lastFault g_images_0_kept g_images_1_kept g_reader_fault g_reader_faultAt g_reader_greatestPlace g_reader_kind g_reader_lines g_reader_next g_reader_placesTold g_reader_start g_reader_value g_reader_draft_places g_reader_draft_squares g_table_places g_table_squares g_tape_length g_tape_bytes g_way_parts) (by decide) rfl rfl (L := [(0, .ref a_this)]) rfl (Nat.le_of_ble_eq_true rfl) (by rw [hu, henc]; rfl) ?_
  intro Z hX hl hG hr
  subst hl; subst hG
  have fl10 : (Cond.fieldLink RX10 10 "OnlyFar" "tape" "LOnlyFar$Tape;").before (za Z) (zs Z) = true := hX.wd (mcC _ wd_357)
  have fl100 : (Cond.fieldLink RX10 100 "OnlyFar$Reader" "fault" "I").before (za Z) (zs Z) = true := hX.wd (mcC _ wd_146)
  have fl103 : (Cond.fieldLink RX10 103 "OnlyFar$Reader" "faultAt" "I").before (za Z) (zs Z) = true := hX.wd (mcC _ wd_148)
  have fl106 : (Cond.fieldLink RX10 106 "OnlyFar$Reader" "draft" "LOnlyFar$Table;").before (za Z) (zs Z) = true := hX.wd (mcC _ wd_142)
  have fl112 : (Cond.fieldLink RX10 112 "OnlyFar$Road" "parts" "I").before (za Z) (zs Z) = true := hX.wd (mcC _ wd_188)
  have fl115 : (Cond.fieldLink RX10 115 "OnlyFar$Image" "kept" "Z").before (za Z) (zs Z) = true := hX.wd (mcC _ wd_207)
  have fl119 : (Cond.fieldLink RX10 119 "OnlyFar$Reader" "lines" "I").before (za Z) (zs Z) = true := hX.wd (mcC _ wd_144)
  have fl21 : (Cond.fieldLink RX10 21 "OnlyFar" "reader" "LOnlyFar$Reader;").before (za Z) (zs Z) = true := hX.wd (mcC _ wd_358)
  have fl28 : (Cond.fieldLink RX10 28 "OnlyFar" "table" "LOnlyFar$Table;").before (za Z) (zs Z) = true := hX.wd (mcC _ wd_359)
  have fl35 : (Cond.fieldLink RX10 35 "OnlyFar" "way" "LOnlyFar$Road;").before (za Z) (zs Z) = true := hX.wd (mcC _ wd_360)
  have fl41 : (Cond.fieldLink RX10 41 "OnlyFar" "images" "[LOnlyFar$Image;").before (za Z) (zs Z) = true := hX.wd (mcC _ wd_361)
  have fl83 : (Cond.fieldLink RX10 83 "OnlyFar" "lastFault" "I").before (za Z) (zs Z) = true := hX.wd (mcC _ wd_367)
  have fl94 : (Cond.fieldLink RX10 94 "OnlyFar$Tape" "length" "I").before (za Z) (zs Z) = true := hX.wd (mcC _ wd_106)
  have inX10 : ∀ w ∈ u_ws RX10 TX10 12, w ∈ wsX10_land := fun w h => mcC w (inC_X10 w h)
  have inX2 : ∀ w ∈ u_ws RX2 TX2 3, w ∈ wsX10_land := fun w h => mcC w (inC_X2 w h)
  have inX4 : ∀ w ∈ u_ws RX4 TX4 11, w ∈ wsX10_land := fun w h => mcC w (inC_X4 w h)
  have inX5 : ∀ w ∈ u_ws RX5 TX5 2, w ∈ wsX10_land := fun w h => mcC w (inC_X5 w h)
  have inX9 : ∀ w ∈ u_ws RX9 TX9 2, w ∈ wsX10_land := fun w h => mcC w (inC_X9 w h)
  have hB68 : ∀ (again : Int32 → Int32 → Int32 → Int32 → Int32 → Int32 → Int32 → Int32 → Int32 → Int32 → Int32 → Int32 → Int32 → Int32 → (Nat → Int32) → Int32 → (Nat → Int32) → Int32 → Int32 → Option (Int32 × Int32 × Int32 × Int32 × Int32 × Int32 × Int32 × Int32 × Int32 × Int32 × Int32 × Int32 × Int32 × Int32 × (Nat → Int32) × Int32 × (Nat → Int32) × Int32 × Int32)) (hagain : ∀ (x1 : Int32) (g_lastFault : Int32) (g_images_0_kept : Int32) (g_images_1_kept : Int32) (g_reader_fault : Int32) (g_reader_faultAt : Int32) (g_reader_greatestPlace : Int32) (g_reader_kind : Int32) (g_reader_lines : Int32) (g_reader_next : Int32) (g_reader_placesTold : Int32) (g_reader_start : Int32) (g_reader_value : Int32) (g_reader_draft_places : Int32) (g_reader_draft_squares : (Nat → Int32)) (g_table_places : Int32) (g_table_squares : (Nat → Int32)) (g_tape_length : Int32) (g_way_parts : Int32), Rn Z 2 (Option.map enc) 0 0 68 [(0, .ref a_this), (1, .int x1)] [] [(a_this, .inr (10, [.ref a_tape, .ref a_reader, .ref a_table, .ref a_way, .ref a_images, .ref a_sheets, .ref a_flaws, .ref a_sixthOf, .ref a_drawing, .ref a_naming, .int g_lastFault, .int g_lastTear])), (a_images, .inl ((zG Z).2.1 3, 2, .inr (.inr (.inr (.inr (rf2 a_images_0 a_images_1)))))), (a_images_0, .inr (2, [.int g_images_0_kept, .ref a_images_0_table, .ref a_images_0_way])), (a_images_1, .inr (2, [.int g_images_1_kept, .ref a_images_1_table, .ref a_images_1_way])), (a_reader, .inr (4, [.ref a_reader_draft, .int g_reader_lines, .int g_reader_fault, .int g_reader_faultAt, .ref a_tape, .int g_reader_placesTold, .int g_reader_greatestPlace, .int g_reader_next, .int g_reader_kind, .int g_reader_start, .int g_reader_value])), (a_reader_draft, .inr (8, [.int g_reader_draft_places, .ref a_reader_draft_squares])), (a_reader_draft_squares, .inl ((zG Z).2.1 1, 49, .inl g_reader_draft_squares)), (a_table, .inr (8, [.int g_table_places, .ref a_table_squares])), (a_table_squares, .inl ((zG Z).2.1 1, 49, .inl g_table_squares)), (a_tape, .inr (9, [.int g_tape_length, .ref a_tape_bytes])), (a_tape_bytes, .inl ((zG Z).2.1 0, 320, .inl g_tape_bytes)), (a_way, .inr (5, [.int g_way_parts, .ref a_way_lengths]))] (again x1 g_lastFault g_images_0_kept g_images_1_kept g_reader_fault g_reader_faultAt g_reader_greatestPlace g_reader_kind g_reader_lines g_reader_next g_reader_placesTold g_reader_start g_reader_value g_reader_draft_places g_reader_draft_squares g_table_places g_table_squares g_tape_length g_way_parts)) (x1 : Int32) (g_lastFault : Int32) (g_images_0_kept : Int32) (g_images_1_kept : Int32) (g_reader_fault : Int32) (g_reader_faultAt : Int32) (g_reader_greatestPlace : Int32) (g_reader_kind : Int32) (g_reader_lines : Int32) (g_reader_next : Int32) (g_reader_placesTold : Int32) (g_reader_start : Int32) (g_reader_value : Int32) (g_reader_draft_places : Int32) (g_reader_draft_squares : (Nat → Int32)) (g_table_places : Int32) (g_table_squares : (Nat → Int32)) (g_tape_length : Int32) (g_way_parts : Int32), Rn Z 2 (Option.map enc) 0 0 68 [(0, .ref a_this), (1, .int x1)] [] [(a_this, .inr (10, [.ref a_tape, .ref a_reader, .ref a_table, .ref a_way, .ref a_images, .ref a_sheets, .ref a_flaws, .ref a_sixthOf, .ref a_drawing, .ref a_naming, .int g_lastFault, .int g_lastTear])), (a_images, .inl ((zG Z).2.1 3, 2, .inr (.inr (.inr (.inr (rf2 a_images_0 a_images_1)))))), (a_images_0, .inr (2, [.int g_images_0_kept, .ref a_images_0_table, .ref a_images_0_way])), (a_images_1, .inr (2, [.int g_images_1_kept, .ref a_images_1_table, .ref a_images_1_way])), (a_reader, .inr (4, [.ref a_reader_draft, .int g_reader_lines, .int g_reader_fault, .int g_reader_faultAt, .ref a_tape, .int g_reader_placesTold, .int g_reader_greatestPlace, .int g_reader_next, .int g_reader_kind, .int g_reader_start, .int g_reader_value])), (a_reader_draft, .inr (8, [.int g_reader_draft_places, .ref a_reader_draft_squares])), (a_reader_draft_squares, .inl ((zG Z).2.1 1, 49, .inl g_reader_draft_squares)), (a_table, .inr (8, [.int g_table_places, .ref a_table_squares])), (a_table_squares, .inl ((zG Z).2.1 1, 49, .inl g_table_squares)), (a_tape, .inr (9, [.int g_tape_length, .ref a_tape_bytes])), (a_tape_bytes, .inl ((zG Z).2.1 0, 320, .inl g_tape_bytes)), (a_way, .inr (5, [.int g_way_parts, .ref a_way_lengths]))] (X10_land_B68 again x1 g_lastFault g_images_0_kept g_images_1_kept g_reader_fault g_reader_faultAt g_reader_greatestPlace g_reader_kind g_reader_lines g_reader_next g_reader_placesTold g_reader_start g_reader_value g_reader_draft_places g_reader_draft_squares g_table_places g_table_squares g_tape_length g_way_parts) := by
    intro again hagain x1 g_lastFault g_images_0_kept g_images_1_kept g_reader_fault g_reader_faultAt g_reader_greatestPlace g_reader_kind g_reader_lines g_reader_next g_reader_placesTold g_reader_start g_reader_value g_reader_draft_places g_reader_draft_squares g_table_places g_table_squares g_tape_length g_way_parts
    unfold X10_land_B68
    refine rn_iload_n hX dX10_land_68 1 rfl 69 rfl ?_
    refine rn_iconst hX dX10_land_69 70 rfl ic_2 ?_
    refine rn_icmp_ge hX dX10_land_70 89 (by decide) 73 rfl ?_ ?_
    · refine rn_aload_n hX dX10_land_89 0 rfl 90 rfl ?_
      refine rn_get hX inX10 0 rfl rfl 1 (by decide) fl21 rfl rfl dX10_land_90 93 rfl ?_
      refine rn_get hX inX4 4 rfl rfl 1 (by decide) fl119 rfl rfl dX10_land_93 96 rfl ?_
      exact rn_iret hX hr (by rw [henc]; rfl) dX10_land_96
    refine rn_aload_n hX dX10_land_73 0 rfl 74 rfl ?_
    refine rn_get hX inX10 0 rfl rfl 4 (by decide) fl41 rfl rfl dX10_land_74 77 rfl ?_
    refine rn_iload_n hX dX10_land_77 1 rfl 78 rfl ?_
    by_cases he78_0 : x1 = (0 : Int32)
    · rw [if_pos he78_0]
      refine rn_aald hX (t0 := 3) (n := 2) (f := rf2 a_images_0 a_images_1) 1 rfl rfl he78_0 (vpk (by decide)) rfl dX10_land_78 79 rfl ?_
      refine rn_iconst hX dX10_land_79 80 rfl ic_0 ?_
      refine rn_put hX inX2 tyX2_ok nmX2 2 rfl rfl 0 (by decide) fl115 rfl rfl rfl rfl (Nat.le_of_ble_eq_true rfl) dX10_land_80 83 rfl (w1 := [(a_this, .inr (10, [.ref a_tape, .ref a_reader, .ref a_table, .ref a_way, .ref a_images, .ref a_sheets, .ref a_flaws, .ref a_sixthOf, .ref a_drawing, .ref a_naming, .int g_lastFault, .int g_lastTear])), (a_images, .inl ((zG Z).2.1 3, 2, .inr (.inr (.inr (.inr (rf2 a_images_0 a_images_1)))))), (a_images_0, .inr (2, [.int (0 : Int32), .ref a_images_0_table, .ref a_images_0_way])), (a_images_1, .inr (2, [.int g_images_1_kept, .ref a_images_1_table, .ref a_images_1_way])), (a_reader, .inr (4, [.ref a_reader_draft, .int g_reader_lines, .int g_reader_fault, .int g_reader_faultAt, .ref a_tape, .int g_reader_placesTold, .int g_reader_greatestPlace, .int g_reader_next, .int g_reader_kind, .int g_reader_start, .int g_reader_value])), (a_reader_draft, .inr (8, [.int g_reader_draft_places, .ref a_reader_draft_squares])), (a_reader_draft_squares, .inl ((zG Z).2.1 1, 49, .inl g_reader_draft_squares)), (a_table, .inr (8, [.int g_table_places, .ref a_table_squares])), (a_table_squares, .inl ((zG Z).2.1 1, 49, .inl g_table_squares)), (a_tape, .inr (9, [.int g_tape_length, .ref a_tape_bytes])), (a_tape_bytes, .inl ((zG Z).2.1 0, 320, .inl g_tape_bytes)), (a_way, .inr (5, [.int g_way_parts, .ref a_way_lengths]))]) rfl ?_
      refine rn_iinc hX dX10_land_83 1 rfl ic_1 (by decide) (L' := fun v1 => [(1, .int v1), (0, .ref a_this)]) (fun _ => rfl) 86 rfl (fun v1 => ?_)
      refine rn_goto hX dX10_land_86 68 (by decide) ?_
      refine rn_sub [1, 0] rfl ?_
      exact hagain v1 g_lastFault (0 : Int32) g_images_1_kept g_reader_fault g_reader_faultAt g_reader_greatestPlace g_reader_kind g_reader_lines g_reader_next g_reader_placesTold g_reader_start g_reader_value g_reader_draft_places g_reader_draft_squares g_table_places g_table_squares g_tape_length g_way_parts
    rw [if_neg he78_0]
    by_cases he78_1 : x1 = (1 : Int32)
    · rw [if_pos he78_1]
      refine rn_aald hX (t0 := 3) (n := 2) (f := rf2 a_images_0 a_images_1) 1 rfl rfl he78_1 (vpk (by decide)) rfl dX10_land_78 79 rfl ?_
      refine rn_iconst hX dX10_land_79 80 rfl ic_0 ?_
      refine rn_put hX inX2 tyX2_ok nmX2 3 rfl rfl 0 (by decide) fl115 rfl rfl rfl rfl (Nat.le_of_ble_eq_true rfl) dX10_land_80 83 rfl (w1 := [(a_this, .inr (10, [.ref a_tape, .ref a_reader, .ref a_table, .ref a_way, .ref a_images, .ref a_sheets, .ref a_flaws, .ref a_sixthOf, .ref a_drawing, .ref a_naming, .int g_lastFault, .int g_lastTear])), (a_images, .inl ((zG Z).2.1 3, 2, .inr (.inr (.inr (.inr (rf2 a_images_0 a_images_1)))))), (a_images_0, .inr (2, [.int g_images_0_kept, .ref a_images_0_table, .ref a_images_0_way])), (a_images_1, .inr (2, [.int (0 : Int32), .ref a_images_1_table, .ref a_images_1_way])), (a_reader, .inr (4, [.ref a_reader_draft, .int g_reader_lines, .int g_reader_fault, .int g_reader_faultAt, .ref a_tape, .int g_reader_placesTold, .int g_reader_greatestPlace, .int g_reader_next, .int g_reader_kind, .int g_reader_start, .int g_reader_value])), (a_reader_draft, .inr (8, [.int g_reader_draft_places, .ref a_reader_draft_squares])), (a_reader_draft_squares, .inl ((zG Z).2.1 1, 49, .inl g_reader_draft_squares)), (a_table, .inr (8, [.int g_table_places, .ref a_table_squares])), (a_table_squares, .inl ((zG Z).2.1 1, 49, .inl g_table_squares)), (a_tape, .inr (9, [.int g_tape_length, .ref a_tape_bytes])), (a_tape_bytes, .inl ((zG Z).2.1 0, 320, .inl g_tape_bytes)), (a_way, .inr (5, [.int g_way_parts, .ref a_way_lengths]))]) rfl ?_
      refine rn_iinc hX dX10_land_83 1 rfl ic_1 (by decide) (L' := fun v2 => [(1, .int v2), (0, .ref a_this)]) (fun _ => rfl) 86 rfl (fun v2 => ?_)
      refine rn_goto hX dX10_land_86 68 (by decide) ?_
      refine rn_sub [1, 0] rfl ?_
      exact hagain v2 g_lastFault g_images_0_kept (0 : Int32) g_reader_fault g_reader_faultAt g_reader_greatestPlace g_reader_kind g_reader_lines g_reader_next g_reader_placesTold g_reader_start g_reader_value g_reader_draft_places g_reader_draft_squares g_table_places g_table_squares g_tape_length g_way_parts
    rw [if_neg he78_1]
    exact rn_none
  have hL68 : ∀ (n : Nat) (x1 : Int32) (g_lastFault : Int32) (g_images_0_kept : Int32) (g_images_1_kept : Int32) (g_reader_fault : Int32) (g_reader_faultAt : Int32) (g_reader_greatestPlace : Int32) (g_reader_kind : Int32) (g_reader_lines : Int32) (g_reader_next : Int32) (g_reader_placesTold : Int32) (g_reader_start : Int32) (g_reader_value : Int32) (g_reader_draft_places : Int32) (g_reader_draft_squares : (Nat → Int32)) (g_table_places : Int32) (g_table_squares : (Nat → Int32)) (g_tape_length : Int32) (g_way_parts : Int32), Rn Z 2 (Option.map enc) 0 0 68 [(0, .ref a_this), (1, .int x1)] [] [(a_this, .inr (10, [.ref a_tape, .ref a_reader, .ref a_table, .ref a_way, .ref a_images, .ref a_sheets, .ref a_flaws, .ref a_sixthOf, .ref a_drawing, .ref a_naming, .int g_lastFault, .int g_lastTear])), (a_images, .inl ((zG Z).2.1 3, 2, .inr (.inr (.inr (.inr (rf2 a_images_0 a_images_1)))))), (a_images_0, .inr (2, [.int g_images_0_kept, .ref a_images_0_table, .ref a_images_0_way])), (a_images_1, .inr (2, [.int g_images_1_kept, .ref a_images_1_table, .ref a_images_1_way])), (a_reader, .inr (4, [.ref a_reader_draft, .int g_reader_lines, .int g_reader_fault, .int g_reader_faultAt, .ref a_tape, .int g_reader_placesTold, .int g_reader_greatestPlace, .int g_reader_next, .int g_reader_kind, .int g_reader_start, .int g_reader_value])), (a_reader_draft, .inr (8, [.int g_reader_draft_places, .ref a_reader_draft_squares])), (a_reader_draft_squares, .inl ((zG Z).2.1 1, 49, .inl g_reader_draft_squares)), (a_table, .inr (8, [.int g_table_places, .ref a_table_squares])), (a_table_squares, .inl ((zG Z).2.1 1, 49, .inl g_table_squares)), (a_tape, .inr (9, [.int g_tape_length, .ref a_tape_bytes])), (a_tape_bytes, .inl ((zG Z).2.1 0, 320, .inl g_tape_bytes)), (a_way, .inr (5, [.int g_way_parts, .ref a_way_lengths]))] (X10_land_L68 n x1 g_lastFault g_images_0_kept g_images_1_kept g_reader_fault g_reader_faultAt g_reader_greatestPlace g_reader_kind g_reader_lines g_reader_next g_reader_placesTold g_reader_start g_reader_value g_reader_draft_places g_reader_draft_squares g_table_places g_table_squares g_tape_length g_way_parts) := by
    intro n
    induction n with
    | zero => intros; exact rn_none
    | succ n ih => exact hB68 _ ih
  unfold X10_land
  refine rn_aload_n hX dX10_land_0 0 rfl 1 rfl ?_
  refine rn_get hX inX10 0 rfl rfl 1 (by decide) fl21 rfl rfl dX10_land_1 4 rfl ?_
  refine rn_bind (fun u3 hu3 => ?_)
  refine rn_callV hX (gV mcC wd_410 wd_411 wd_412 wd_72 wd_413) rfl hdV_X4_readAll rfl rfl ⟨Nat.le_of_ble_eq_true rfl, Nat.le_of_ble_eq_true rfl⟩ (c_X4_readAll (zl Z) (zG Z) a_reader a_reader_draft a_reader_draft_squares a_tape a_tape_bytes g_reader_lines g_reader_fault g_reader_faultAt g_reader_placesTold g_reader_greatestPlace g_reader_next g_reader_kind g_reader_start g_reader_value g_reader_draft_places g_reader_draft_squares g_tape_length g_tape_bytes hu3) rfl [4, 5, 6, 9, 10] rfl rfl rfl (ci := 4) rfl rfl rfl (Nat.le_of_ble_eq_true rfl) dX10_land_4 7 rfl (wn := [(a_this, .inr (10, [.ref a_tape, .ref a_reader, .ref a_table, .ref a_way, .ref a_images, .ref a_sheets, .ref a_flaws, .ref a_sixthOf, .ref a_drawing, .ref a_naming, .int g_lastFault, .int g_lastTear])), (a_images, .inl ((zG Z).2.1 3, 2, .inr (.inr (.inr (.inr (rf2 a_images_0 a_images_1)))))), (a_images_0, .inr (2, [.int g_images_0_kept, .ref a_images_0_table, .ref a_images_0_way])), (a_images_1, .inr (2, [.int g_images_1_kept, .ref a_images_1_table, .ref a_images_1_way])), (a_reader, .inr (4, [.ref a_reader_draft, .int u3.2.2.2.2.1, .int u3.1, .int u3.2.1, .ref a_tape, .int u3.2.2.2.2.2.2.1, .int u3.2.2.1, .int u3.2.2.2.2.2.1, .int u3.2.2.2.1, .int u3.2.2.2.2.2.2.2.1, .int u3.2.2.2.2.2.2.2.2.1])), (a_reader_draft, .inr (8, [.int u3.2.2.2.2.2.2.2.2.2.1, .ref a_reader_draft_squares])), (a_reader_draft_squares, .inl ((zG Z).2.1 1, 49, .inl u3.2.2.2.2.2.2.2.2.2.2)), (a_table, .inr (8, [.int g_table_places, .ref a_table_squares])), (a_table_squares, .inl ((zG Z).2.1 1, 49, .inl g_table_squares)), (a_tape, .inr (9, [.int g_tape_length, .ref a_tape_bytes])), (a_tape_bytes, .inl ((zG Z).2.1 0, 320, .inl g_tape_bytes)), (a_way, .inr (5, [.int g_way_parts, .ref a_way_lengths]))]) rfl (S' := []) rfl ⟨Nat.zero_le _, Nat.zero_le _⟩ ?_
  refine rn_aload_n hX dX10_land_7 0 rfl 8 rfl ?_
  refine rn_get hX inX10 0 rfl rfl 0 (by decide) fl10 rfl rfl dX10_land_8 11 rfl ?_
  refine rn_iconst hX dX10_land_11 12 rfl ic_0 ?_
  refine rn_put hX inX9 tyX9_ok nmX9 9 rfl rfl 0 (by decide) fl94 rfl rfl rfl rfl (Nat.le_of_ble_eq_true rfl) dX10_land_12 15 rfl (w1 := [(a_this, .inr (10, [.ref a_tape, .ref a_reader, .ref a_table, .ref a_way, .ref a_images, .ref a_sheets, .ref a_flaws, .ref a_sixthOf, .ref a_drawing, .ref a_naming, .int g_lastFault, .int g_lastTear])), (a_images, .inl ((zG Z).2.1 3, 2, .inr (.inr (.inr (.inr (rf2 a_images_0 a_images_1)))))), (a_images_0, .inr (2, [.int g_images_0_kept, .ref a_images_0_table, .ref a_images_0_way])), (a_images_1, .inr (2, [.int g_images_1_kept, .ref a_images_1_table, .ref a_images_1_way])), (a_reader, .inr (4, [.ref a_reader_draft, .int u3.2.2.2.2.1, .int u3.1, .int u3.2.1, .ref a_tape, .int u3.2.2.2.2.2.2.1, .int u3.2.2.1, .int u3.2.2.2.2.2.1, .int u3.2.2.2.1, .int u3.2.2.2.2.2.2.2.1, .int u3.2.2.2.2.2.2.2.2.1])), (a_reader_draft, .inr (8, [.int u3.2.2.2.2.2.2.2.2.2.1, .ref a_reader_draft_squares])), (a_reader_draft_squares, .inl ((zG Z).2.1 1, 49, .inl u3.2.2.2.2.2.2.2.2.2.2)), (a_table, .inr (8, [.int g_table_places, .ref a_table_squares])), (a_table_squares, .inl ((zG Z).2.1 1, 49, .inl g_table_squares)), (a_tape, .inr (9, [.int (0 : Int32), .ref a_tape_bytes])), (a_tape_bytes, .inl ((zG Z).2.1 0, 320, .inl g_tape_bytes)), (a_way, .inr (5, [.int g_way_parts, .ref a_way_lengths]))]) rfl ?_
  refine rn_aload_n hX dX10_land_15 0 rfl 16 rfl ?_
  refine rn_aload_n hX dX10_land_16 0 rfl 17 rfl ?_
  refine rn_get hX inX10 0 rfl rfl 1 (by decide) fl21 rfl rfl dX10_land_17 20 rfl ?_
  refine rn_get hX inX4 4 rfl rfl 2 (by decide) fl100 rfl rfl dX10_land_20 23 rfl ?_
  refine rn_put hX inX10 tyX10_ok nmX10 0 rfl rfl 10 (by decide) fl83 rfl rfl rfl rfl (Nat.le_of_ble_eq_true rfl) dX10_land_23 26 rfl (w1 := [(a_this, .inr (10, [.ref a_tape, .ref a_reader, .ref a_table, .ref a_way, .ref a_images, .ref a_sheets, .ref a_flaws, .ref a_sixthOf, .ref a_drawing, .ref a_naming, .int u3.1, .int g_lastTear])), (a_images, .inl ((zG Z).2.1 3, 2, .inr (.inr (.inr (.inr (rf2 a_images_0 a_images_1)))))), (a_images_0, .inr (2, [.int g_images_0_kept, .ref a_images_0_table, .ref a_images_0_way])), (a_images_1, .inr (2, [.int g_images_1_kept, .ref a_images_1_table, .ref a_images_1_way])), (a_reader, .inr (4, [.ref a_reader_draft, .int u3.2.2.2.2.1, .int u3.1, .int u3.2.1, .ref a_tape, .int u3.2.2.2.2.2.2.1, .int u3.2.2.1, .int u3.2.2.2.2.2.1, .int u3.2.2.2.1, .int u3.2.2.2.2.2.2.2.1, .int u3.2.2.2.2.2.2.2.2.1])), (a_reader_draft, .inr (8, [.int u3.2.2.2.2.2.2.2.2.2.1, .ref a_reader_draft_squares])), (a_reader_draft_squares, .inl ((zG Z).2.1 1, 49, .inl u3.2.2.2.2.2.2.2.2.2.2)), (a_table, .inr (8, [.int g_table_places, .ref a_table_squares])), (a_table_squares, .inl ((zG Z).2.1 1, 49, .inl g_table_squares)), (a_tape, .inr (9, [.int (0 : Int32), .ref a_tape_bytes])), (a_tape_bytes, .inl ((zG Z).2.1 0, 320, .inl g_tape_bytes)), (a_way, .inr (5, [.int g_way_parts, .ref a_way_lengths]))]) rfl ?_
  refine rn_aload_n hX dX10_land_26 0 rfl 27 rfl ?_
  refine rn_get hX inX10 0 rfl rfl 10 (by decide) fl83 rfl rfl dX10_land_27 30 rfl ?_
  refine rn_if_eq hX dX10_land_30 44 (by decide) 33 rfl ?_ ?_
  · refine rn_aload_n hX dX10_land_44 0 rfl 45 rfl ?_
    refine rn_get hX inX10 0 rfl rfl 2 (by decide) fl28 rfl rfl dX10_land_45 48 rfl ?_
    refine rn_aload_n hX dX10_land_48 0 rfl 49 rfl ?_
    refine rn_get hX inX10 0 rfl rfl 1 (by decide) fl21 rfl rfl dX10_land_49 52 rfl ?_
    refine rn_get hX inX4 4 rfl rfl 0 (by decide) fl106 rfl rfl dX10_land_52 55 rfl ?_
    refine rn_lat (fun u4 hu4 => ?_)
    refine rn_callV hX (gV mcC wd_522 wd_523 wd_524 wd_73 wd_525) rfl hdV_X8_copyFrom rfl rfl ⟨Nat.le_of_ble_eq_true rfl, Nat.le_of_ble_eq_true rfl⟩ (c_X8_copyFrom (zl Z) (zG Z) a_table a_table_squares a_reader_draft a_reader_draft_squares g_table_places g_table_squares u3.2.2.2.2.2.2.2.2.2.1 u3.2.2.2.2.2.2.2.2.2.2 hu4) rfl [7, 8, 5, 6] rfl rfl rfl (ci := 8) rfl rfl rfl (Nat.le_of_ble_eq_true rfl) dX10_land_55 58 rfl (wn := [(a_this, .inr (10, [.ref a_tape, .ref a_reader, .ref a_table, .ref a_way, .ref a_images, .ref a_sheets, .ref a_flaws, .ref a_sixthOf, .ref a_drawing, .ref a_naming, .int u3.1, .int g_lastTear])), (a_images, .inl ((zG Z).2.1 3, 2, .inr (.inr (.inr (.inr (rf2 a_images_0 a_images_1)))))), (a_images_0, .inr (2, [.int g_images_0_kept, .ref a_images_0_table, .ref a_images_0_way])), (a_images_1, .inr (2, [.int g_images_1_kept, .ref a_images_1_table, .ref a_images_1_way])), (a_reader, .inr (4, [.ref a_reader_draft, .int u3.2.2.2.2.1, .int u3.1, .int u3.2.1, .ref a_tape, .int u3.2.2.2.2.2.2.1, .int u3.2.2.1, .int u3.2.2.2.2.2.1, .int u3.2.2.2.1, .int u3.2.2.2.2.2.2.2.1, .int u3.2.2.2.2.2.2.2.2.1])), (a_reader_draft, .inr (8, [.int u3.2.2.2.2.2.2.2.2.2.1, .ref a_reader_draft_squares])), (a_reader_draft_squares, .inl ((zG Z).2.1 1, 49, .inl u3.2.2.2.2.2.2.2.2.2.2)), (a_table, .inr (8, [.int u4.1, .ref a_table_squares])), (a_table_squares, .inl ((zG Z).2.1 1, 49, .inl u4.2)), (a_tape, .inr (9, [.int (0 : Int32), .ref a_tape_bytes])), (a_tape_bytes, .inl ((zG Z).2.1 0, 320, .inl g_tape_bytes)), (a_way, .inr (5, [.int g_way_parts, .ref a_way_lengths]))]) rfl (S' := []) rfl ⟨Nat.zero_le _, Nat.zero_le _⟩ ?_
    refine rn_aload_n hX dX10_land_58 0 rfl 59 rfl ?_
    refine rn_get hX inX10 0 rfl rfl 3 (by decide) fl35 rfl rfl dX10_land_59 62 rfl ?_
    refine rn_iconst hX dX10_land_62 63 rfl ic_0 ?_
    refine rn_put hX inX5 tyX5_ok nmX5 11 rfl rfl 0 (by decide) fl112 rfl rfl rfl rfl (Nat.le_of_ble_eq_true rfl) dX10_land_63 66 rfl (w1 := [(a_this, .inr (10, [.ref a_tape, .ref a_reader, .ref a_table, .ref a_way, .ref a_images, .ref a_sheets, .ref a_flaws, .ref a_sixthOf, .ref a_drawing, .ref a_naming, .int u3.1, .int g_lastTear])), (a_images, .inl ((zG Z).2.1 3, 2, .inr (.inr (.inr (.inr (rf2 a_images_0 a_images_1)))))), (a_images_0, .inr (2, [.int g_images_0_kept, .ref a_images_0_table, .ref a_images_0_way])), (a_images_1, .inr (2, [.int g_images_1_kept, .ref a_images_1_table, .ref a_images_1_way])), (a_reader, .inr (4, [.ref a_reader_draft, .int u3.2.2.2.2.1, .int u3.1, .int u3.2.1, .ref a_tape, .int u3.2.2.2.2.2.2.1, .int u3.2.2.1, .int u3.2.2.2.2.2.1, .int u3.2.2.2.1, .int u3.2.2.2.2.2.2.2.1, .int u3.2.2.2.2.2.2.2.2.1])), (a_reader_draft, .inr (8, [.int u3.2.2.2.2.2.2.2.2.2.1, .ref a_reader_draft_squares])), (a_reader_draft_squares, .inl ((zG Z).2.1 1, 49, .inl u3.2.2.2.2.2.2.2.2.2.2)), (a_table, .inr (8, [.int u4.1, .ref a_table_squares])), (a_table_squares, .inl ((zG Z).2.1 1, 49, .inl u4.2)), (a_tape, .inr (9, [.int (0 : Int32), .ref a_tape_bytes])), (a_tape_bytes, .inl ((zG Z).2.1 0, 320, .inl g_tape_bytes)), (a_way, .inr (5, [.int (0 : Int32), .ref a_way_lengths]))]) rfl ?_
    refine rn_iconst hX dX10_land_66 67 rfl ic_0 ?_
    refine rn_istore_n hX dX10_land_67 1 rfl (by decide) (L' := [(1, .int (0 : Int32)), (0, .ref a_this)]) rfl 68 rfl ?_
    refine rn_sub [1, 0] rfl ?_
    exact (hL68  1000) (0 : Int32) u3.1 g_images_0_kept g_images_1_kept u3.1 u3.2.1 u3.2.2.1 u3.2.2.2.1 u3.2.2.2.2.1 u3.2.2.2.2.2.1 u3.2.2.2.2.2.2.1 u3.2.2.2.2.2.2.2.1 u3.2.2.2.2.2.2.2.2.1 u3.2.2.2.2.2.2.2.2.2.1 u3.2.2.2.2.2.2.2.2.2.2 u4.1 u4.2 (0 : Int32) (0 : Int32)
  refine rn_bipush hX dX10_land_33 35 rfl bp_m10 ?_
  refine rn_aload_n hX dX10_land_35 0 rfl 36 rfl ?_
  refine rn_get hX inX10 0 rfl rfl 1 (by decide) fl21 rfl rfl dX10_land_36 39 rfl ?_
  refine rn_get hX inX4 4 rfl rfl 3 (by decide) fl103 rfl rfl dX10_land_39 42 rfl ?_
  refine rn_isub hX dX10_land_42 43 rfl ?_
  exact rn_iret hX hr (by rw [henc]; rfl) dX10_land_43
abbrev rmX10_fault : Room := { frames := 0, cells := 0, slots := 0, locals := 0 }
theorem hdV_X10_fault : yX10_fault.cls = RX10 ∧ yX10_fault.cls ≠ "java/lang/invoke/MethodHandle" ∧ yX10_fault.cls ≠ "java/lang/invoke/VarHandle" ∧ (parseMethodDescriptor yX10_fault.desc).map (fun d => d.parameters.length) = some 0 := by decide +kernel
set_option maxHeartbeats 4000000 in
set_option maxRecDepth 100000 in
theorem c_X10_fault (l : Launch) (G : GT) (a_this a_tape a_reader a_table a_way a_images a_sheets a_flaws a_sixthOf a_drawing a_naming : Nat) (g_lastFault : Int32) (g_lastTear : Int32) {u : Int32} (hu : X10_fault g_lastFault = u) : Ctr l G yX10_fault wsX10_fault rmX10_fault [.ref a_this] [(a_this, .inr (10, [.ref a_tape, .ref a_reader, .ref a_table, .ref a_way, .ref a_images, .ref a_sheets, .ref a_flaws, .ref a_sixthOf, .ref a_drawing, .ref a_naming, .int g_lastFault, .int g_lastTear]))] (some (.int u)) [(a_this, .inr (10, [.ref a_tape, .ref a_reader, .ref a_table, .ref a_way, .ref a_images, .ref a_sheets, .ref a_flaws, .ref a_sixthOf, .ref a_drawing, .ref a_naming, .int g_lastFault, .int g_lastTear]))] := by
  obtain ⟨enc, henc⟩ : ∃ enc : (Int32) → Option Value × va_W, enc = fun u => (((some (.int u)) : Option Value), ([(a_this, .inr (10, [.ref a_tape, .ref a_reader, .ref a_table, .ref a_way, .ref a_images, .ref a_sheets, .ref a_flaws, .ref a_sixthOf, .ref a_drawing, .ref a_naming, .int g_lastFault, .int g_lastTear]))] : va_W)) := ⟨_, rfl⟩
  refine ctr_of (cc := cX10_fault) (own := RX10) (E := fun o => some (enc o)) (o := X10_fault g_lastFault) (by decide) rfl rfl (L := [(0, .ref a_this)]) rfl (Nat.le_of_ble_eq_true rfl) (by rw [hu, henc]) ?_
  intro Z hX hl hG hr
  subst hl; subst hG
  have fl83 : (Cond.fieldLink RX10 83 "OnlyFar" "lastFault" "I").before (za Z) (zs Z) = true := hX.wd (mcC _ wd_367)
  have inX10 : ∀ w ∈ u_ws RX10 TX10 12, w ∈ wsX10_fault := fun w h => mcC w (inC_X10 w h)
  unfold X10_fault
  refine rn_aload_n hX dX10_fault_0 0 rfl 1 rfl ?_
  refine rn_get hX inX10 0 rfl rfl 10 (by decide) fl83 rfl rfl dX10_fault_1 4 rfl ?_
  exact rn_iret hX hr (by rw [henc]) dX10_fault_4
abbrev rmX10_far : Room := { frames := 2, cells := 0, slots := 0, locals := 45 }
theorem hdV_X10_far : yX10_far.cls = RX10 ∧ yX10_far.cls ≠ "java/lang/invoke/MethodHandle" ∧ yX10_far.cls ≠ "java/lang/invoke/VarHandle" ∧ (parseMethodDescriptor yX10_far.desc).map (fun d => d.parameters.length) = some 2 := by decide +kernel
set_option maxHeartbeats 4000000 in
set_option maxRecDepth 100000 in
theorem c_X10_far (l : Launch) (G : GT) (a_this a_table a_table_squares a_tape a_reader a_way a_images a_sheets a_flaws a_sixthOf a_drawing a_naming : Nat) (g_lastFault : Int32) (g_lastTear : Int32) (g_table_places : Int32) (g_table_squares : (Nat → Int32)) (x1 : Int32) (x2 : Int32) {u : Int32} (hu : X10_far x1 x2 g_table_places g_table_squares = some u) : Ctr l G yX10_far wsX10_far rmX10_far [.ref a_this, .int x1, .int x2] [(a_this, .inr (10, [.ref a_tape, .ref a_reader, .ref a_table, .ref a_way, .ref a_images, .ref a_sheets, .ref a_flaws, .ref a_sixthOf, .ref a_drawing, .ref a_naming, .int g_lastFault, .int g_lastTear])), (a_table, .inr (8, [.int g_table_places, .ref a_table_squares])), (a_table_squares, .inl (G.2.1 1, 49, .inl g_table_squares))] (some (.int u)) [(a_this, .inr (10, [.ref a_tape, .ref a_reader, .ref a_table, .ref a_way, .ref a_images, .ref a_sheets, .ref a_flaws, .ref a_sixthOf, .ref a_drawing, .ref a_naming, .int g_lastFault, .int g_lastTear])), (a_table, .inr (8, [.int g_table_places, .ref a_table_squares])), (a_table_squares, .inl (G.2.1 1, 49, .inl g_table_squares))] := by
  obtain ⟨enc, henc⟩ : ∃ enc : (Int32) → Option Value × va_W, enc = fun u => (((some (.int u)) : Option Value), ([(a_this, .inr (10, [.ref a_tape, .ref a_reader, .ref a_table, .ref a_way, .ref a_images, .ref a_sheets, .ref a_flaws, .ref a_sixthOf, .ref a_drawing, .ref a_naming, .int g_lastFault, .int g_lastTear])), (a_table, .inr (8, [.int g_table_places, .ref a_table_squares])), (a_table_squares, .inl (G.2.1 1, 49, .inl g_table_squares))] : va_W)) := ⟨_, rfl⟩
  refine ctr_of (cc := cX10_far) (own := RX10) (E := Option.map enc) (o := X10_far x1 x2 g_table_places g_table_squares) (by decide) rfl rfl (L := [(0, .ref a_this), (1, .int x1), (2, .int x2)]) rfl (Nat.le_of_ble_eq_true rfl) (by rw [hu, henc]; rfl) ?_
  intro Z hX hl hG hr
  subst hl; subst hG
  have fl28 : (Cond.fieldLink RX10 28 "OnlyFar" "table" "LOnlyFar$Table;").before (za Z) (zs Z) = true := hX.wd (mcC _ wd_359)
  have inX10 : ∀ w ∈ u_ws RX10 TX10 12, w ∈ wsX10_far := fun w h => mcC w (inC_X10 w h)
  unfold X10_far
  refine rn_aload_n hX dX10_far_0 0 rfl 1 rfl ?_
  refine rn_get hX inX10 0 rfl rfl 2 (by decide) fl28 rfl rfl dX10_far_1 4 rfl ?_
  refine rn_iload_n hX dX10_far_4 1 rfl 5 rfl ?_
  refine rn_iload_n hX dX10_far_5 2 rfl 6 rfl ?_
  refine rn_callV0 hX (gV mcC wd_537 wd_538 wd_539 wd_73 wd_540) rfl hdV_X8_areTwo rfl rfl ⟨Nat.le_of_ble_eq_true rfl, Nat.le_of_ble_eq_true rfl⟩ (c_X8_areTwo (zl Z) (zG Z) a_table a_table_squares g_table_places x1 x2 rfl) rfl [1] rfl rfl (ci := 8) rfl rfl rfl (Nat.le_of_ble_eq_true rfl) dX10_far_6 9 rfl (S' := [.int (X8_areTwo x1 x2 g_table_places)]) rfl ⟨Nat.zero_le _, Nat.zero_le _⟩ ?_
  refine rn_if_eq hX dX10_far_9 24 (by decide) 12 rfl ?_ ?_
  · refine rn_iconst hX dX10_far_24 25 rfl ic_m1 ?_
    exact rn_iret hX hr (by rw [henc]; rfl) dX10_far_25
  refine rn_aload_n hX dX10_far_12 0 rfl 13 rfl ?_
  refine rn_get hX inX10 0 rfl rfl 2 (by decide) fl28 rfl rfl dX10_far_13 16 rfl ?_
  refine rn_iload_n hX dX10_far_16 1 rfl 17 rfl ?_
  refine rn_iload_n hX dX10_far_17 2 rfl 18 rfl ?_
  refine rn_bind (fun u1 hu1 => ?_)
  refine rn_callV0 hX (gV mcC wd_545 wd_546 wd_547 wd_73 wd_548) rfl hdV_X8_toldOrNone rfl rfl ⟨Nat.le_of_ble_eq_true rfl, Nat.le_of_ble_eq_true rfl⟩ (c_X8_toldOrNone (zl Z) (zG Z) a_table a_table_squares g_table_places g_table_squares x1 x2 hu1) rfl [1, 2] rfl rfl (ci := 8) rfl rfl rfl (Nat.le_of_ble_eq_true rfl) dX10_far_18 21 rfl (S' := [.int u1]) rfl ⟨Nat.zero_le _, Nat.zero_le _⟩ ?_
  refine rn_goto hX dX10_far_21 25 (by decide) ?_
  exact rn_iret hX hr (by rw [henc]; rfl) dX10_far_25
abbrev rmX10_isSquare : Room := { frames := 0, cells := 0, slots := 0, locals := 0 }
theorem hdS_X10_isSquare : yX10_isSquare.cls ≠ "java/lang/invoke/MethodHandle" ∧ yX10_isSquare.cls ≠ "java/lang/invoke/VarHandle" ∧ (parseMethodDescriptor yX10_isSquare.desc).map (fun d => d.parameters.length) = some 1 := by decide +kernel
set_option maxHeartbeats 4000000 in
set_option maxRecDepth 100000 in
theorem c_X10_isSquare (l : Launch) (G : GT) (x0 : Int32) {u : Int32} (hu : X10_isSquare x0 = u) : Ctr l G yX10_isSquare wsX10_isSquare rmX10_isSquare [.int x0] [] (some (.int u)) [] := by
  obtain ⟨enc, henc⟩ : ∃ enc : (Int32) → Option Value × va_W, enc = fun u => (((some (.int u)) : Option Value), ([] : va_W)) := ⟨_, rfl⟩
  refine ctr_of (cc := cX10_isSquare) (own := RX10) (E := fun o => some (enc o)) (o := X10_isSquare x0) (by decide) rfl rfl (L := [(0, .int x0)]) rfl (Nat.le_of_ble_eq_true rfl) (by rw [hu, henc]) ?_
  intro Z hX hl hG hr
  subst hl; subst hG
  unfold X10_isSquare
  refine rn_iload_n hX dX10_isSquare_0 0 rfl 1 rfl ?_
  refine rn_iconst hX dX10_isSquare_1 2 rfl ic_1 ?_
  refine rn_icmp_lt hX dX10_isSquare_2 16 (by decide) 5 rfl ?_ ?_
  · refine rn_iconst hX dX10_isSquare_16 17 rfl ic_0 ?_
    exact rn_zret hX rfl hr (by rw [henc]) dX10_isSquare_17
  refine rn_iload_n hX dX10_isSquare_5 0 rfl 6 rfl ?_
  refine rn_sipush hX dX10_isSquare_6 9 rfl sp_9999 ?_
  refine rn_icmp_gt hX dX10_isSquare_9 16 (by decide) 12 rfl ?_ ?_
  · refine rn_iconst hX dX10_isSquare_16 17 rfl ic_0 ?_
    exact rn_zret hX rfl hr (by rw [henc]) dX10_isSquare_17
  refine rn_iconst hX dX10_isSquare_12 13 rfl ic_1 ?_
  refine rn_goto hX dX10_isSquare_13 17 (by decide) ?_
  exact rn_zret hX rfl hr (by rw [henc]) dX10_isSquare_17
abbrev rmX10_tell : Room := { frames := 2, cells := 0, slots := 0, locals := 45 }
theorem hdV_X10_tell : yX10_tell.cls = RX10 ∧ yX10_tell.cls ≠ "java/lang/invoke/MethodHandle" ∧ yX10_tell.cls ≠ "java/lang/invoke/VarHandle" ∧ (parseMethodDescriptor yX10_tell.desc).map (fun d => d.parameters.length) = some 3 := by decide +kernel
set_option maxHeartbeats 4000000 in
set_option maxRecDepth 100000 in
theorem c_X10_tell (l : Launch) (G : GT) (a_this a_table a_table_squares a_tape a_reader a_way a_images a_sheets a_flaws a_sixthOf a_drawing a_naming : Nat) (g_lastFault : Int32) (g_lastTear : Int32) (g_table_places : Int32) (g_table_squares : (Nat → Int32)) (x1 : Int32) (x2 : Int32) (x3 : Int32) {u : Int32 × (Nat → Int32)} (hu : X10_tell x1 x2 x3 g_table_places g_table_squares = some u) : Ctr l G yX10_tell wsX10_tell rmX10_tell [.ref a_this, .int x1, .int x2, .int x3] [(a_this, .inr (10, [.ref a_tape, .ref a_reader, .ref a_table, .ref a_way, .ref a_images, .ref a_sheets, .ref a_flaws, .ref a_sixthOf, .ref a_drawing, .ref a_naming, .int g_lastFault, .int g_lastTear])), (a_table, .inr (8, [.int g_table_places, .ref a_table_squares])), (a_table_squares, .inl (G.2.1 1, 49, .inl g_table_squares))] (some (.int u.1)) [(a_this, .inr (10, [.ref a_tape, .ref a_reader, .ref a_table, .ref a_way, .ref a_images, .ref a_sheets, .ref a_flaws, .ref a_sixthOf, .ref a_drawing, .ref a_naming, .int g_lastFault, .int g_lastTear])), (a_table, .inr (8, [.int g_table_places, .ref a_table_squares])), (a_table_squares, .inl (G.2.1 1, 49, .inl u.2))] := by
  obtain ⟨enc, henc⟩ : ∃ enc : (Int32 × (Nat → Int32)) → Option Value × va_W, enc = fun u => (((some (.int u.1)) : Option Value), ([(a_this, .inr (10, [.ref a_tape, .ref a_reader, .ref a_table, .ref a_way, .ref a_images, .ref a_sheets, .ref a_flaws, .ref a_sixthOf, .ref a_drawing, .ref a_naming, .int g_lastFault, .int g_lastTear])), (a_table, .inr (8, [.int g_table_places, .ref a_table_squares])), (a_table_squares, .inl (G.2.1 1, 49, .inl u.2))] : va_W)) := ⟨_, rfl⟩
  refine ctr_of (cc := cX10_tell) (own := RX10) (E := Option.map enc) (o := X10_tell x1 x2 x3 g_table_places g_table_squares) (by decide) rfl rfl (L := [(0, .ref a_this), (1, .int x1), (2, .int x2), (3, .int x3)]) rfl (Nat.le_of_ble_eq_true rfl) (by rw [hu, henc]; rfl) ?_
  intro Z hX hl hG hr
  subst hl; subst hG
  have fl28 : (Cond.fieldLink RX10 28 "OnlyFar" "table" "LOnlyFar$Table;").before (za Z) (zs Z) = true := hX.wd (mcC _ wd_359)
  have inX10 : ∀ w ∈ u_ws RX10 TX10 12, w ∈ wsX10_tell := fun w h => mcC w (inC_X10 w h)
  have hJ55 : ∀ (x4 : Int32) (s1 : Int32) (s2 : Int32) (s3 : Int32) (g_table_squares : (Nat → Int32)), Rn Z 5 (Option.map enc) 0 0 55 [(4, .int x4)] [.int s3, .int s2, .int s1, .ref a_table] [(a_this, .inr (10, [.ref a_tape, .ref a_reader, .ref a_table, .ref a_way, .ref a_images, .ref a_sheets, .ref a_flaws, .ref a_sixthOf, .ref a_drawing, .ref a_naming, .int g_lastFault, .int g_lastTear])), (a_table, .inr (8, [.int g_table_places, .ref a_table_squares])), (a_table_squares, .inl ((zG Z).2.1 1, 49, .inl g_table_squares))] (X10_tell_J55 x4 s1 s2 s3 g_table_squares) := by
    intro x4 s1 s2 s3 g_table_squares
    unfold X10_tell_J55
    refine rn_bind (fun u1 hu1 => ?_)
    refine rn_callV hX (gV mcC wd_557 wd_516 wd_517 wd_73 wd_518) rfl hdV_X8_put rfl rfl ⟨Nat.le_of_ble_eq_true rfl, Nat.le_of_ble_eq_true rfl⟩ (c_X8_put (zl Z) (zG Z) a_table a_table_squares g_table_places g_table_squares s1 s2 s3 hu1) rfl [1, 2] rfl rfl rfl (ci := 8) rfl rfl rfl (Nat.le_of_ble_eq_true rfl) dX10_tell_55 58 rfl (wn := [(a_this, .inr (10, [.ref a_tape, .ref a_reader, .ref a_table, .ref a_way, .ref a_images, .ref a_sheets, .ref a_flaws, .ref a_sixthOf, .ref a_drawing, .ref a_naming, .int g_lastFault, .int g_lastTear])), (a_table, .inr (8, [.int g_table_places, .ref a_table_squares])), (a_table_squares, .inl ((zG Z).2.1 1, 49, .inl u1))]) rfl (S' := []) rfl ⟨Nat.zero_le _, Nat.zero_le _⟩ ?_
    refine rn_iload hX dX10_tell_58 0 rfl 60 rfl ?_
    exact rn_iret hX hr (by rw [henc]; rfl) dX10_tell_60
  have hJ27 : ∀ (x1 : Int32) (x2 : Int32) (x3 : Int32) (g_table_squares : (Nat → Int32)), Rn Z 5 (Option.map enc) 0 0 27 [(0, .ref a_this), (1, .int x1), (2, .int x2), (3, .int x3)] [] [(a_this, .inr (10, [.ref a_tape, .ref a_reader, .ref a_table, .ref a_way, .ref a_images, .ref a_sheets, .ref a_flaws, .ref a_sixthOf, .ref a_drawing, .ref a_naming, .int g_lastFault, .int g_lastTear])), (a_table, .inr (8, [.int g_table_places, .ref a_table_squares])), (a_table_squares, .inl ((zG Z).2.1 1, 49, .inl g_table_squares))] (X10_tell_J27 x1 x2 x3 g_table_squares) := by
    intro x1 x2 x3 g_table_squares
    unfold X10_tell_J27
    refine rn_aload_n hX dX10_tell_27 0 rfl 28 rfl ?_
    refine rn_get hX inX10 0 rfl rfl 2 (by decide) fl28 rfl rfl dX10_tell_28 31 rfl ?_
    refine rn_iload_n hX dX10_tell_31 1 rfl 32 rfl ?_
    refine rn_iload_n hX dX10_tell_32 2 rfl 33 rfl ?_
    refine rn_bind (fun u2 hu2 => ?_)
    refine rn_callV0 hX (gV mcC wd_545 wd_546 wd_547 wd_73 wd_548) rfl hdV_X8_toldOrNone rfl rfl ⟨Nat.le_of_ble_eq_true rfl, Nat.le_of_ble_eq_true rfl⟩ (c_X8_toldOrNone (zl Z) (zG Z) a_table a_table_squares g_table_places g_table_squares x1 x2 hu2) rfl [1, 2] rfl rfl (ci := 8) rfl rfl rfl (Nat.le_of_ble_eq_true rfl) dX10_tell_33 36 rfl (S' := [.int u2]) rfl ⟨Nat.zero_le _, Nat.zero_le _⟩ ?_
    refine rn_istore hX dX10_tell_36 (by decide) (L' := [(4, .int u2), (0, .ref a_this), (1, .int x1), (2, .int x2), (3, .int x3)]) rfl 38 rfl ?_
    refine rn_aload_n hX dX10_tell_38 1 rfl 39 rfl ?_
    refine rn_get hX inX10 0 rfl rfl 2 (by decide) fl28 rfl rfl dX10_tell_39 42 rfl ?_
    refine rn_iload_n hX dX10_tell_42 2 rfl 43 rfl ?_
    refine rn_iload_n hX dX10_tell_43 3 rfl 44 rfl ?_
    refine rn_iload_n hX dX10_tell_44 4 rfl 45 rfl ?_
    refine rn_bipush hX dX10_tell_45 47 rfl bp_m4 ?_
    refine rn_icmp_ne hX dX10_tell_47 54 (by decide) 50 rfl ?_ ?_
    · refine rn_iload_n hX dX10_tell_54 4 rfl 55 rfl ?_
      refine rn_sub [0] rfl ?_
      exact hJ55 u2 x1 x2 x3 g_table_squares
    refine rn_iconst hX dX10_tell_50 51 rfl ic_0 ?_
    refine rn_goto hX dX10_tell_51 55 (by decide) ?_
    refine rn_sub [0] rfl ?_
    exact hJ55 u2 x1 x2 (0 : Int32) g_table_squares
  unfold X10_tell
  refine rn_aload_n hX dX10_tell_0 0 rfl 1 rfl ?_
  refine rn_get hX inX10 0 rfl rfl 2 (by decide) fl28 rfl rfl dX10_tell_1 4 rfl ?_
  refine rn_iload_n hX dX10_tell_4 1 rfl 5 rfl ?_
  refine rn_iload_n hX dX10_tell_5 2 rfl 6 rfl ?_
  refine rn_callV0 hX (gV mcC wd_537 wd_538 wd_539 wd_73 wd_540) rfl hdV_X8_areTwo rfl rfl ⟨Nat.le_of_ble_eq_true rfl, Nat.le_of_ble_eq_true rfl⟩ (c_X8_areTwo (zl Z) (zG Z) a_table a_table_squares g_table_places x1 x2 rfl) rfl [1] rfl rfl (ci := 8) rfl rfl rfl (Nat.le_of_ble_eq_true rfl) dX10_tell_6 9 rfl (S' := [.int (X8_areTwo x1 x2 g_table_places)]) rfl ⟨Nat.zero_le _, Nat.zero_le _⟩ ?_
  refine rn_if_eq hX dX10_tell_9 25 (by decide) 12 rfl ?_ ?_
  · refine rn_iconst hX dX10_tell_25 26 rfl ic_m1 ?_
    exact rn_iret hX hr (by rw [henc]; rfl) dX10_tell_26
  refine rn_iload_n hX dX10_tell_12 3 rfl 13 rfl ?_
  refine rn_bipush hX dX10_tell_13 15 rfl bp_m4 ?_
  refine rn_icmp_eq hX dX10_tell_15 27 (by decide) 18 rfl ?_ ?_
  · exact hJ27 x1 x2 x3 g_table_squares
  refine rn_iload_n hX dX10_tell_18 3 rfl 19 rfl ?_
  refine rn_callS0 hX (gS mcC wd_554 wd_555 wd_70 wd_556) rfl hdS_X10_isSquare rfl rfl ⟨Nat.le_of_ble_eq_true rfl, Nat.le_of_ble_eq_true rfl⟩ (c_X10_isSquare (zl Z) (zG Z) x3 rfl) rfl [] rfl rfl rfl (Nat.le_of_ble_eq_true rfl) dX10_tell_19 22 rfl (S' := [.int (X10_isSquare x3)]) rfl ⟨Nat.zero_le _, Nat.zero_le _⟩ ?_
  refine rn_if_ne hX dX10_tell_22 27 (by decide) 25 rfl ?_ ?_
  · exact hJ27 x1 x2 x3 g_table_squares
  refine rn_iconst hX dX10_tell_25 26 rfl ic_m1 ?_
  exact rn_iret hX hr (by rw [henc]; rfl) dX10_tell_26
abbrev rmX10_pair : Room := { frames := 2, cells := 0, slots := 0, locals := 43 }
theorem hdV_X10_pair : yX10_pair.cls = RX10 ∧ yX10_pair.cls ≠ "java/lang/invoke/MethodHandle" ∧ yX10_pair.cls ≠ "java/lang/invoke/VarHandle" ∧ (parseMethodDescriptor yX10_pair.desc).map (fun d => d.parameters.length) = some 2 := by decide +kernel
set_option maxHeartbeats 4000000 in
set_option maxRecDepth 100000 in
theorem c_X10_pair (l : Launch) (G : GT) (a_this a_table a_tape a_reader a_way a_images a_sheets a_flaws a_sixthOf a_drawing a_naming a_table_squares : Nat) (g_lastFault : Int32) (g_lastTear : Int32) (g_table_places : Int32) (x1 : Int32) (x2 : Int32) {u : Int32} (hu : X10_pair x1 x2 g_table_places = u) : Ctr l G yX10_pair wsX10_pair rmX10_pair [.ref a_this, .int x1, .int x2] [(a_this, .inr (10, [.ref a_tape, .ref a_reader, .ref a_table, .ref a_way, .ref a_images, .ref a_sheets, .ref a_flaws, .ref a_sixthOf, .ref a_drawing, .ref a_naming, .int g_lastFault, .int g_lastTear])), (a_table, .inr (8, [.int g_table_places, .ref a_table_squares]))] (some (.int u)) [(a_this, .inr (10, [.ref a_tape, .ref a_reader, .ref a_table, .ref a_way, .ref a_images, .ref a_sheets, .ref a_flaws, .ref a_sixthOf, .ref a_drawing, .ref a_naming, .int g_lastFault, .int g_lastTear])), (a_table, .inr (8, [.int g_table_places, .ref a_table_squares]))] := by
  obtain ⟨enc, henc⟩ : ∃ enc : (Int32) → Option Value × va_W, enc = fun u => (((some (.int u)) : Option Value), ([(a_this, .inr (10, [.ref a_tape, .ref a_reader, .ref a_table, .ref a_way, .ref a_images, .ref a_sheets, .ref a_flaws, .ref a_sixthOf, .ref a_drawing, .ref a_naming, .int g_lastFault, .int g_lastTear])), (a_table, .inr (8, [.int g_table_places, .ref a_table_squares]))] : va_W)) := ⟨_, rfl⟩
  refine ctr_of (cc := cX10_pair) (own := RX10) (E := fun o => some (enc o)) (o := X10_pair x1 x2 g_table_places) (by decide) rfl rfl (L := [(0, .ref a_this), (1, .int x1), (2, .int x2)]) rfl (Nat.le_of_ble_eq_true rfl) (by rw [hu, henc]) ?_
  intro Z hX hl hG hr
  subst hl; subst hG
  have fl28 : (Cond.fieldLink RX10 28 "OnlyFar" "table" "LOnlyFar$Table;").before (za Z) (zs Z) = true := hX.wd (mcC _ wd_359)
  have inX10 : ∀ w ∈ u_ws RX10 TX10 12, w ∈ wsX10_pair := fun w h => mcC w (inC_X10 w h)
  unfold X10_pair
  refine rn_aload_n hX dX10_pair_0 0 rfl 1 rfl ?_
  refine rn_get hX inX10 0 rfl rfl 2 (by decide) fl28 rfl rfl dX10_pair_1 4 rfl ?_
  refine rn_iload_n hX dX10_pair_4 1 rfl 5 rfl ?_
  refine rn_iload_n hX dX10_pair_5 2 rfl 6 rfl ?_
  refine rn_callV0 hX (gV mcC wd_537 wd_538 wd_539 wd_73 wd_540) rfl hdV_X8_areTwo rfl rfl ⟨Nat.le_of_ble_eq_true rfl, Nat.le_of_ble_eq_true rfl⟩ (c_X8_areTwo (zl Z) (zG Z) a_table a_table_squares g_table_places x1 x2 rfl) rfl [1] rfl rfl (ci := 8) rfl rfl rfl (Nat.le_of_ble_eq_true rfl) dX10_pair_6 9 rfl (S' := [.int (X8_areTwo x1 x2 g_table_places)]) rfl ⟨Nat.zero_le _, Nat.zero_le _⟩ ?_
  refine rn_if_eq hX dX10_pair_9 20 (by decide) 12 rfl ?_ ?_
  · refine rn_iconst hX dX10_pair_20 21 rfl ic_m1 ?_
    exact rn_iret hX hr (by rw [henc]) dX10_pair_21
  refine rn_iload_n hX dX10_pair_12 1 rfl 13 rfl ?_
  refine rn_iload_n hX dX10_pair_13 2 rfl 14 rfl ?_
  refine rn_callS0 hX (gS mcC wd_562 wd_563 wd_70 wd_564) rfl hdS_X10_pairOf rfl rfl ⟨Nat.le_of_ble_eq_true rfl, Nat.le_of_ble_eq_true rfl⟩ (c_X10_pairOf (zl Z) (zG Z) x1 x2 rfl) rfl [] rfl rfl rfl (Nat.le_of_ble_eq_true rfl) dX10_pair_14 17 rfl (S' := [.int (X10_pairOf x1 x2)]) rfl ⟨Nat.zero_le _, Nat.zero_le _⟩ ?_
  refine rn_goto hX dX10_pair_17 21 (by decide) ?_
  exact rn_iret hX hr (by rw [henc]) dX10_pair_21
abbrev rmX10_wide : Room := { frames := 3, cells := 0, slots := 0, locals := 66 }
theorem hdV_X10_wide : yX10_wide.cls = RX10 ∧ yX10_wide.cls ≠ "java/lang/invoke/MethodHandle" ∧ yX10_wide.cls ≠ "java/lang/invoke/VarHandle" ∧ (parseMethodDescriptor yX10_wide.desc).map (fun d => d.parameters.length) = some 3 := by decide +kernel
set_option maxHeartbeats 4000000 in
set_option maxRecDepth 100000 in
theorem c_X10_wide (l : Launch) (G : GT) (a_this a_table a_table_squares a_tape a_reader a_way a_images a_sheets a_flaws a_sixthOf a_drawing a_naming : Nat) (g_lastFault : Int32) (g_lastTear : Int32) (g_table_places : Int32) (g_table_squares : (Nat → Int32)) (x1 : Int32) (x2 : Int32) (x3 : Int32) {u : Int64} (hu : X10_wide x1 x2 x3 g_table_places g_table_squares = some u) : Ctr l G yX10_wide wsX10_wide rmX10_wide [.ref a_this, .int x1, .int x2, .int x3] [(a_this, .inr (10, [.ref a_tape, .ref a_reader, .ref a_table, .ref a_way, .ref a_images, .ref a_sheets, .ref a_flaws, .ref a_sixthOf, .ref a_drawing, .ref a_naming, .int g_lastFault, .int g_lastTear])), (a_table, .inr (8, [.int g_table_places, .ref a_table_squares])), (a_table_squares, .inl (G.2.1 1, 49, .inl g_table_squares))] (some (.long u)) [(a_this, .inr (10, [.ref a_tape, .ref a_reader, .ref a_table, .ref a_way, .ref a_images, .ref a_sheets, .ref a_flaws, .ref a_sixthOf, .ref a_drawing, .ref a_naming, .int g_lastFault, .int g_lastTear])), (a_table, .inr (8, [.int g_table_places, .ref a_table_squares])), (a_table_squares, .inl (G.2.1 1, 49, .inl g_table_squares))] := by
  obtain ⟨enc, henc⟩ : ∃ enc : (Int64) → Option Value × va_W, enc = fun u => (((some (.long u)) : Option Value), ([(a_this, .inr (10, [.ref a_tape, .ref a_reader, .ref a_table, .ref a_way, .ref a_images, .ref a_sheets, .ref a_flaws, .ref a_sixthOf, .ref a_drawing, .ref a_naming, .int g_lastFault, .int g_lastTear])), (a_table, .inr (8, [.int g_table_places, .ref a_table_squares])), (a_table_squares, .inl (G.2.1 1, 49, .inl g_table_squares))] : va_W)) := ⟨_, rfl⟩
  refine ctr_of (cc := cX10_wide) (own := RX10) (E := Option.map enc) (o := X10_wide x1 x2 x3 g_table_places g_table_squares) (by decide) rfl rfl (L := [(0, .ref a_this), (1, .int x1), (2, .int x2), (3, .int x3)]) rfl (Nat.le_of_ble_eq_true rfl) (by rw [hu, henc]; rfl) ?_
  intro Z hX hl hG hr
  subst hl; subst hG
  have fl28 : (Cond.fieldLink RX10 28 "OnlyFar" "table" "LOnlyFar$Table;").before (za Z) (zs Z) = true := hX.wd (mcC _ wd_359)
  have kl145 : (Cond.constantLong RX10 145 (-9000000000)).before (za Z) (zs Z) = true := hX.wd (mcC _ wd_578)
  have kl154 : (Cond.constantLong RX10 154 (-9000000001)).before (za Z) (zs Z) = true := hX.wd (mcC _ wd_591)
  have inX10 : ∀ w ∈ u_ws RX10 TX10 12, w ∈ wsX10_wide := fun w h => mcC w (inC_X10 w h)
  unfold X10_wide
  refine rn_aload_n hX dX10_wide_0 0 rfl 1 rfl ?_
  refine rn_get hX inX10 0 rfl rfl 2 (by decide) fl28 rfl rfl dX10_wide_1 4 rfl ?_
  refine rn_iload_n hX dX10_wide_4 1 rfl 5 rfl ?_
  refine rn_iload_n hX dX10_wide_5 2 rfl 6 rfl ?_
  refine rn_iload_n hX dX10_wide_6 3 rfl 7 rfl ?_
  refine rn_callV0 hX (gV mcC wd_573 wd_574 wd_575 wd_73 wd_576) rfl hdV_X8_areThree rfl rfl ⟨Nat.le_of_ble_eq_true rfl, Nat.le_of_ble_eq_true rfl⟩ (c_X8_areThree (zl Z) (zG Z) a_table a_table_squares g_table_places x1 x2 x3 rfl) rfl [1] rfl rfl (ci := 8) rfl rfl rfl (Nat.le_of_ble_eq_true rfl) dX10_wide_7 10 rfl (S' := [.int (X8_areThree x1 x2 x3 g_table_places)]) rfl ⟨Nat.zero_le _, Nat.zero_le _⟩ ?_
  refine rn_if_ne hX dX10_wide_10 17 (by decide) 13 rfl ?_ ?_
  · refine rn_aload_n hX dX10_wide_17 0 rfl 18 rfl ?_
    refine rn_get hX inX10 0 rfl rfl 2 (by decide) fl28 rfl rfl dX10_wide_18 21 rfl ?_
    refine rn_iload_n hX dX10_wide_21 1 rfl 22 rfl ?_
    refine rn_iload_n hX dX10_wide_22 2 rfl 23 rfl ?_
    refine rn_iload_n hX dX10_wide_23 3 rfl 24 rfl ?_
    refine rn_bind (fun u1 hu1 => ?_)
    refine rn_callV0 hX (gV mcC wd_579 wd_580 wd_581 wd_73 wd_582) rfl hdV_X8_isToldThree rfl rfl ⟨Nat.le_of_ble_eq_true rfl, Nat.le_of_ble_eq_true rfl⟩ (c_X8_isToldThree (zl Z) (zG Z) a_table a_table_squares g_table_places g_table_squares x1 x2 x3 hu1) rfl [1, 2] rfl rfl (ci := 8) rfl rfl rfl (Nat.le_of_ble_eq_true rfl) dX10_wide_24 27 rfl (S' := [.int u1]) rfl ⟨Nat.zero_le _, Nat.zero_le _⟩ ?_
    refine rn_if_eq hX dX10_wide_27 43 (by decide) 30 rfl ?_ ?_
    · refine rn_ldc2 hX kl154 dX10_wide_43 46 rfl ?_
      exact rn_lret hX hr (by rw [henc]; rfl) dX10_wide_46
    refine rn_aload_n hX dX10_wide_30 0 rfl 31 rfl ?_
    refine rn_get hX inX10 0 rfl rfl 2 (by decide) fl28 rfl rfl dX10_wide_31 34 rfl ?_
    refine rn_iload_n hX dX10_wide_34 1 rfl 35 rfl ?_
    refine rn_iload_n hX dX10_wide_35 2 rfl 36 rfl ?_
    refine rn_iload_n hX dX10_wide_36 3 rfl 37 rfl ?_
    refine rn_bind (fun u2 hu2 => ?_)
    refine rn_callV0 hX (gV mcC wd_583 wd_584 wd_585 wd_73 wd_586) rfl hdV_X8_wideOf rfl rfl ⟨Nat.le_of_ble_eq_true rfl, Nat.le_of_ble_eq_true rfl⟩ (c_X8_wideOf (zl Z) (zG Z) a_table a_table_squares g_table_places g_table_squares x1 x2 x3 hu2) rfl [1, 2] rfl rfl (ci := 8) rfl rfl rfl (Nat.le_of_ble_eq_true rfl) dX10_wide_37 40 rfl (S' := [.long u2]) rfl ⟨Nat.zero_le _, Nat.zero_le _⟩ ?_
    refine rn_goto hX dX10_wide_40 46 (by decide) ?_
    exact rn_lret hX hr (by rw [henc]; rfl) dX10_wide_46
  refine rn_ldc2 hX kl145 dX10_wide_13 16 rfl ?_
  exact rn_lret hX hr (by rw [henc]; rfl) dX10_wide_16
abbrev rmX10_three : Room := { frames := 3, cells := 0, slots := 0, locals := 73 }
theorem hdV_X10_three : yX10_three.cls = RX10 ∧ yX10_three.cls ≠ "java/lang/invoke/MethodHandle" ∧ yX10_three.cls ≠ "java/lang/invoke/VarHandle" ∧ (parseMethodDescriptor yX10_three.desc).map (fun d => d.parameters.length) = some 3 := by decide +kernel
set_option maxHeartbeats 4000000 in
set_option maxRecDepth 100000 in
theorem c_X10_three (l : Launch) (G : GT) (a_this a_table a_table_squares a_tape a_reader a_way a_images a_sheets a_flaws a_sixthOf a_drawing a_naming : Nat) (g_lastFault : Int32) (g_lastTear : Int32) (g_table_places : Int32) (g_table_squares : (Nat → Int32)) (x1 : Int32) (x2 : Int32) (x3 : Int32) {u : Int32} (hu : X10_three x1 x2 x3 g_table_places g_table_squares = some u) : Ctr l G yX10_three wsX10_three rmX10_three [.ref a_this, .int x1, .int x2, .int x3] [(a_this, .inr (10, [.ref a_tape, .ref a_reader, .ref a_table, .ref a_way, .ref a_images, .ref a_sheets, .ref a_flaws, .ref a_sixthOf, .ref a_drawing, .ref a_naming, .int g_lastFault, .int g_lastTear])), (a_table, .inr (8, [.int g_table_places, .ref a_table_squares])), (a_table_squares, .inl (G.2.1 1, 49, .inl g_table_squares))] (some (.int u)) [(a_this, .inr (10, [.ref a_tape, .ref a_reader, .ref a_table, .ref a_way, .ref a_images, .ref a_sheets, .ref a_flaws, .ref a_sixthOf, .ref a_drawing, .ref a_naming, .int g_lastFault, .int g_lastTear])), (a_table, .inr (8, [.int g_table_places, .ref a_table_squares])), (a_table_squares, .inl (G.2.1 1, 49, .inl g_table_squares))] := by
  obtain ⟨enc, henc⟩ : ∃ enc : (Int32) → Option Value × va_W, enc = fun u => (((some (.int u)) : Option Value), ([(a_this, .inr (10, [.ref a_tape, .ref a_reader, .ref a_table, .ref a_way, .ref a_images, .ref a_sheets, .ref a_flaws, .ref a_sixthOf, .ref a_drawing, .ref a_naming, .int g_lastFault, .int g_lastTear])), (a_table, .inr (8, [.int g_table_places, .ref a_table_squares])), (a_table_squares, .inl (G.2.1 1, 49, .inl g_table_squares))] : va_W)) := ⟨_, rfl⟩
  refine ctr_of (cc := cX10_three) (own := RX10) (E := Option.map enc) (o := X10_three x1 x2 x3 g_table_places g_table_squares) (by decide) rfl rfl (L := [(0, .ref a_this), (1, .int x1), (2, .int x2), (3, .int x3)]) rfl (Nat.le_of_ble_eq_true rfl) (by rw [hu, henc]; rfl) ?_
  intro Z hX hl hG hr
  subst hl; subst hG
  have fl28 : (Cond.fieldLink RX10 28 "OnlyFar" "table" "LOnlyFar$Table;").before (za Z) (zs Z) = true := hX.wd (mcC _ wd_359)
  have inX10 : ∀ w ∈ u_ws RX10 TX10 12, w ∈ wsX10_three := fun w h => mcC w (inC_X10 w h)
  unfold X10_three
  refine rn_aload_n hX dX10_three_0 0 rfl 1 rfl ?_
  refine rn_get hX inX10 0 rfl rfl 2 (by decide) fl28 rfl rfl dX10_three_1 4 rfl ?_
  refine rn_iload_n hX dX10_three_4 1 rfl 5 rfl ?_
  refine rn_iload_n hX dX10_three_5 2 rfl 6 rfl ?_
  refine rn_iload_n hX dX10_three_6 3 rfl 7 rfl ?_
  refine rn_callV0 hX (gV mcC wd_573 wd_574 wd_575 wd_73 wd_576) rfl hdV_X8_areThree rfl rfl ⟨Nat.le_of_ble_eq_true rfl, Nat.le_of_ble_eq_true rfl⟩ (c_X8_areThree (zl Z) (zG Z) a_table a_table_squares g_table_places x1 x2 x3 rfl) rfl [1] rfl rfl (ci := 8) rfl rfl rfl (Nat.le_of_ble_eq_true rfl) dX10_three_7 10 rfl (S' := [.int (X8_areThree x1 x2 x3 g_table_places)]) rfl ⟨Nat.zero_le _, Nat.zero_le _⟩ ?_
  refine rn_if_ne hX dX10_three_10 15 (by decide) 13 rfl ?_ ?_
  · refine rn_aload_n hX dX10_three_15 0 rfl 16 rfl ?_
    refine rn_get hX inX10 0 rfl rfl 2 (by decide) fl28 rfl rfl dX10_three_16 19 rfl ?_
    refine rn_iload_n hX dX10_three_19 1 rfl 20 rfl ?_
    refine rn_iload_n hX dX10_three_20 2 rfl 21 rfl ?_
    refine rn_iload_n hX dX10_three_21 3 rfl 22 rfl ?_
    refine rn_bind (fun u1 hu1 => ?_)
    refine rn_callV0 hX (gV mcC wd_579 wd_580 wd_581 wd_73 wd_582) rfl hdV_X8_isToldThree rfl rfl ⟨Nat.le_of_ble_eq_true rfl, Nat.le_of_ble_eq_true rfl⟩ (c_X8_isToldThree (zl Z) (zG Z) a_table a_table_squares g_table_places g_table_squares x1 x2 x3 hu1) rfl [1, 2] rfl rfl (ci := 8) rfl rfl rfl (Nat.le_of_ble_eq_true rfl) dX10_three_22 25 rfl (S' := [.int u1]) rfl ⟨Nat.zero_le _, Nat.zero_le _⟩ ?_
    refine rn_if_ne hX dX10_three_25 31 (by decide) 28 rfl ?_ ?_
    · refine rn_aload_n hX dX10_three_31 0 rfl 32 rfl ?_
      refine rn_get hX inX10 0 rfl rfl 2 (by decide) fl28 rfl rfl dX10_three_32 35 rfl ?_
      refine rn_iload_n hX dX10_three_35 1 rfl 36 rfl ?_
      refine rn_iload_n hX dX10_three_36 2 rfl 37 rfl ?_
      refine rn_iload_n hX dX10_three_37 3 rfl 38 rfl ?_
      refine rn_bind (fun u2 hu2 => ?_)
      refine rn_callV0 hX (gV mcC wd_596 wd_597 wd_598 wd_73 wd_599) rfl hdV_X8_canBeThree rfl rfl ⟨Nat.le_of_ble_eq_true rfl, Nat.le_of_ble_eq_true rfl⟩ (c_X8_canBeThree (zl Z) (zG Z) a_table a_table_squares g_table_places g_table_squares x1 x2 x3 hu2) rfl [1, 2] rfl rfl (ci := 8) rfl rfl rfl (Nat.le_of_ble_eq_true rfl) dX10_three_38 41 rfl (S' := [.int u2]) rfl ⟨Nat.zero_le _, Nat.zero_le _⟩ ?_
      refine rn_callS0 hX (gS mcC wd_601 wd_602 wd_70 wd_603) rfl hdS_X10_bit rfl rfl ⟨Nat.le_of_ble_eq_true rfl, Nat.le_of_ble_eq_true rfl⟩ (c_X10_bit (zl Z) (zG Z) u2 rfl) rfl [] rfl rfl rfl (Nat.le_of_ble_eq_true rfl) dX10_three_41 44 rfl (S' := [.int (X10_bit u2)]) rfl ⟨Nat.zero_le _, Nat.zero_le _⟩ ?_
      exact rn_iret hX hr (by rw [henc]; rfl) dX10_three_44
    refine rn_bipush hX dX10_three_28 30 rfl bp_m4 ?_
    exact rn_iret hX hr (by rw [henc]; rfl) dX10_three_30
  refine rn_iconst hX dX10_three_13 14 rfl ic_m1 ?_
  exact rn_iret hX hr (by rw [henc]; rfl) dX10_three_14
abbrev rmX10_four : Room := { frames := 4, cells := 0, slots := 0, locals := 105 }
theorem hdV_X10_four : yX10_four.cls = RX10 ∧ yX10_four.cls ≠ "java/lang/invoke/MethodHandle" ∧ yX10_four.cls ≠ "java/lang/invoke/VarHandle" ∧ (parseMethodDescriptor yX10_four.desc).map (fun d => d.parameters.length) = some 4 := by decide +kernel
set_option maxHeartbeats 4000000 in
set_option maxRecDepth 100000 in
theorem c_X10_four (l : Launch) (G : GT) (a_this a_table a_table_squares a_tape a_reader a_way a_images a_sheets a_flaws a_sixthOf a_drawing a_naming : Nat) (g_lastFault : Int32) (g_lastTear : Int32) (g_table_places : Int32) (g_table_squares : (Nat → Int32)) (x1 : Int32) (x2 : Int32) (x3 : Int32) (x4 : Int32) {u : Int32} (hu : X10_four x1 x2 x3 x4 g_table_places g_table_squares = some u) : Ctr l G yX10_four wsX10_four rmX10_four [.ref a_this, .int x1, .int x2, .int x3, .int x4] [(a_this, .inr (10, [.ref a_tape, .ref a_reader, .ref a_table, .ref a_way, .ref a_images, .ref a_sheets, .ref a_flaws, .ref a_sixthOf, .ref a_drawing, .ref a_naming, .int g_lastFault, .int g_lastTear])), (a_table, .inr (8, [.int g_table_places, .ref a_table_squares])), (a_table_squares, .inl (G.2.1 1, 49, .inl g_table_squares))] (some (.int u)) [(a_this, .inr (10, [.ref a_tape, .ref a_reader, .ref a_table, .ref a_way, .ref a_images, .ref a_sheets, .ref a_flaws, .ref a_sixthOf, .ref a_drawing, .ref a_naming, .int g_lastFault, .int g_lastTear])), (a_table, .inr (8, [.int g_table_places, .ref a_table_squares])), (a_table_squares, .inl (G.2.1 1, 49, .inl g_table_squares))] := by
  obtain ⟨enc, henc⟩ : ∃ enc : (Int32) → Option Value × va_W, enc = fun u => (((some (.int u)) : Option Value), ([(a_this, .inr (10, [.ref a_tape, .ref a_reader, .ref a_table, .ref a_way, .ref a_images, .ref a_sheets, .ref a_flaws, .ref a_sixthOf, .ref a_drawing, .ref a_naming, .int g_lastFault, .int g_lastTear])), (a_table, .inr (8, [.int g_table_places, .ref a_table_squares])), (a_table_squares, .inl (G.2.1 1, 49, .inl g_table_squares))] : va_W)) := ⟨_, rfl⟩
  refine ctr_of (cc := cX10_four) (own := RX10) (E := Option.map enc) (o := X10_four x1 x2 x3 x4 g_table_places g_table_squares) (by decide) rfl rfl (L := [(0, .ref a_this), (1, .int x1), (2, .int x2), (3, .int x3), (4, .int x4)]) rfl (Nat.le_of_ble_eq_true rfl) (by rw [hu, henc]; rfl) ?_
  intro Z hX hl hG hr
  subst hl; subst hG
  have fl28 : (Cond.fieldLink RX10 28 "OnlyFar" "table" "LOnlyFar$Table;").before (za Z) (zs Z) = true := hX.wd (mcC _ wd_359)
  have inX10 : ∀ w ∈ u_ws RX10 TX10 12, w ∈ wsX10_four := fun w h => mcC w (inC_X10 w h)
  unfold X10_four
  refine rn_aload_n hX dX10_four_0 0 rfl 1 rfl ?_
  refine rn_get hX inX10 0 rfl rfl 2 (by decide) fl28 rfl rfl dX10_four_1 4 rfl ?_
  refine rn_iload_n hX dX10_four_4 1 rfl 5 rfl ?_
  refine rn_iload_n hX dX10_four_5 2 rfl 6 rfl ?_
  refine rn_iload_n hX dX10_four_6 3 rfl 7 rfl ?_
  refine rn_iload hX dX10_four_7 4 rfl 9 rfl ?_
  refine rn_callV0 hX (gV mcC wd_608 wd_609 wd_610 wd_73 wd_611) rfl hdV_X8_areFour rfl rfl ⟨Nat.le_of_ble_eq_true rfl, Nat.le_of_ble_eq_true rfl⟩ (c_X8_areFour (zl Z) (zG Z) a_table a_table_squares g_table_places x1 x2 x3 x4 rfl) rfl [1] rfl rfl (ci := 8) rfl rfl rfl (Nat.le_of_ble_eq_true rfl) dX10_four_9 12 rfl (S' := [.int (X8_areFour x1 x2 x3 x4 g_table_places)]) rfl ⟨Nat.zero_le _, Nat.zero_le _⟩ ?_
  refine rn_if_ne hX dX10_four_12 17 (by decide) 15 rfl ?_ ?_
  · refine rn_aload_n hX dX10_four_17 0 rfl 18 rfl ?_
    refine rn_get hX inX10 0 rfl rfl 2 (by decide) fl28 rfl rfl dX10_four_18 21 rfl ?_
    refine rn_iload_n hX dX10_four_21 1 rfl 22 rfl ?_
    refine rn_iload_n hX dX10_four_22 2 rfl 23 rfl ?_
    refine rn_iload_n hX dX10_four_23 3 rfl 24 rfl ?_
    refine rn_iload hX dX10_four_24 4 rfl 26 rfl ?_
    refine rn_bind (fun u1 hu1 => ?_)
    refine rn_callV0 hX (gV mcC wd_613 wd_614 wd_615 wd_73 wd_616) rfl hdV_X8_isToldFour rfl rfl ⟨Nat.le_of_ble_eq_true rfl, Nat.le_of_ble_eq_true rfl⟩ (c_X8_isToldFour (zl Z) (zG Z) a_table a_table_squares g_table_places g_table_squares x1 x2 x3 x4 hu1) rfl [1, 2] rfl rfl (ci := 8) rfl rfl rfl (Nat.le_of_ble_eq_true rfl) dX10_four_26 29 rfl (S' := [.int u1]) rfl ⟨Nat.zero_le _, Nat.zero_le _⟩ ?_
    refine rn_if_ne hX dX10_four_29 35 (by decide) 32 rfl ?_ ?_
    · refine rn_aload_n hX dX10_four_35 0 rfl 36 rfl ?_
      refine rn_get hX inX10 0 rfl rfl 2 (by decide) fl28 rfl rfl dX10_four_36 39 rfl ?_
      refine rn_iload_n hX dX10_four_39 1 rfl 40 rfl ?_
      refine rn_iload_n hX dX10_four_40 2 rfl 41 rfl ?_
      refine rn_iload_n hX dX10_four_41 3 rfl 42 rfl ?_
      refine rn_iload hX dX10_four_42 4 rfl 44 rfl ?_
      refine rn_bind (fun u2 hu2 => ?_)
      refine rn_callV0 hX (gV mcC wd_618 wd_619 wd_620 wd_73 wd_621) rfl hdV_X8_canBeFour rfl rfl ⟨Nat.le_of_ble_eq_true rfl, Nat.le_of_ble_eq_true rfl⟩ (c_X8_canBeFour (zl Z) (zG Z) a_table a_table_squares g_table_places g_table_squares x1 x2 x3 x4 hu2) rfl [1, 2] rfl rfl (ci := 8) rfl rfl rfl (Nat.le_of_ble_eq_true rfl) dX10_four_44 47 rfl (S' := [.int u2]) rfl ⟨Nat.zero_le _, Nat.zero_le _⟩ ?_
      refine rn_callS0 hX (gS mcC wd_601 wd_602 wd_70 wd_603) rfl hdS_X10_bit rfl rfl ⟨Nat.le_of_ble_eq_true rfl, Nat.le_of_ble_eq_true rfl⟩ (c_X10_bit (zl Z) (zG Z) u2 rfl) rfl [] rfl rfl rfl (Nat.le_of_ble_eq_true rfl) dX10_four_47 50 rfl (S' := [.int (X10_bit u2)]) rfl ⟨Nat.zero_le _, Nat.zero_le _⟩ ?_
      exact rn_iret hX hr (by rw [henc]; rfl) dX10_four_50
    refine rn_bipush hX dX10_four_32 34 rfl bp_m4 ?_
    exact rn_iret hX hr (by rw [henc]; rfl) dX10_four_34
  refine rn_iconst hX dX10_four_15 16 rfl ic_m1 ?_
  exact rn_iret hX hr (by rw [henc]; rfl) dX10_four_16
