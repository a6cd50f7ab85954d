abbrev rmX4_readFar : Room := { frames := 3, cells := 0, slots := 0, locals := 64 }
theorem hdV_X4_readFar : yX4_readFar.cls = RX4 ∧ yX4_readFar.cls ≠ "java/lang/invoke/MethodHandle" ∧ yX4_readFar.cls ≠ "java/lang/invoke/VarHandle" ∧ (parseMethodDescriptor yX4_readFar.desc).map (fun d => d.parameters.length) = some 0 := by decide +kernel
set_option maxHeartbeats 4000000 in
set_option maxRecDepth 100000 in
theorem c_X4_readFar (l : Launch) (G : GT) (a_this a_draft a_draft_squares a_tape a_tape_bytes : Nat) (g_lines : Int32) (g_fault : Int32) (g_faultAt : Int32) (g_placesTold : Int32) (g_greatestPlace : Int32) (g_next : Int32) (g_kind : Int32) (g_start : Int32) (g_value : Int32) (g_draft_places : Int32) (g_draft_squares : (Nat → Int32)) (g_tape_length : Int32) (g_tape_bytes : (Nat → Int32)) {u : Int32 × Int32 × Int32 × Int32 × Int32 × Int32 × Int32 × Int32 × (Nat → Int32)} (hu : X4_readFar g_fault g_faultAt g_greatestPlace g_kind g_next g_start g_value g_draft_squares g_tape_length g_tape_bytes = some u) : Ctr l G yX4_readFar wsX4_readFar rmX4_readFar [.ref a_this] [(a_this, .inr (4, [.ref a_draft, .int g_lines, .int g_fault, .int g_faultAt, .ref a_tape, .int g_placesTold, .int g_greatestPlace, .int g_next, .int g_kind, .int g_start, .int g_value])), (a_draft, .inr (8, [.int g_draft_places, .ref a_draft_squares])), (a_draft_squares, .inl (G.2.1 1, 49, .inl g_draft_squares)), (a_tape, .inr (9, [.int g_tape_length, .ref a_tape_bytes])), (a_tape_bytes, .inl (G.2.1 0, 320, .inl g_tape_bytes))] (some (.int u.1)) [(a_this, .inr (4, [.ref a_draft, .int g_lines, .int u.2.1, .int u.2.2.1, .ref a_tape, .int g_placesTold, .int u.2.2.2.1, .int u.2.2.2.2.2.1, .int u.2.2.2.2.1, .int u.2.2.2.2.2.2.1, .int u.2.2.2.2.2.2.2.1])), (a_draft, .inr (8, [.int g_draft_places, .ref a_draft_squares])), (a_draft_squares, .inl (G.2.1 1, 49, .inl u.2.2.2.2.2.2.2.2)), (a_tape, .inr (9, [.int g_tape_length, .ref a_tape_bytes])), (a_tape_bytes, .inl (G.2.1 0, 320, .inl g_tape_bytes))] := by
  obtain ⟨enc, henc⟩ : ∃ enc : (Int32 × Int32 × Int32 × Int32 × Int32 × Int32 × Int32 × Int32 × (Nat → Int32)) → Option Value × va_W, enc = fun u => (((some (.int u.1)) : Option Value), ([(a_this, .inr (4, [.ref a_draft, .int g_lines, .int u.2.1, .int u.2.2.1, .ref a_tape, .int g_placesTold, .int u.2.2.2.1, .int u.2.2.2.2.2.1, .int u.2.2.2.2.1, .int u.2.2.2.2.2.2.1, .int u.2.2.2.2.2.2.2.1])), (a_draft, .inr (8, [.int g_draft_places, .ref a_draft_squares])), (a_draft_squares, .inl (G.2.1 1, 49, .inl u.2.2.2.2.2.2.2.2)), (a_tape, .inr (9, [.int g_tape_length, .ref a_tape_bytes])), (a_tape_bytes, .inl (G.2.1 0, 320, .inl g_tape_bytes))] : va_W)) := ⟨_, rfl⟩
  refine ctr_of (cc := cX4_readFar) (own := RX4) (E := Option.map enc) (o := X4_readFar g_fault g_faultAt g_greatestPlace g_kind g_next g_start g_value g_draft_squares g_tape_length g_tape_bytes) (by decide) rfl rfl (L := [(0, .ref a_this)]) rfl (Nat.le_of_ble_eq_true rfl) (by rw [hu, henc]; rfl) ?_
  intro Z hX hl hG hr
  subst hl; subst hG
  have fl18 : (Cond.fieldLink RX4 18 "OnlyFar$Reader" "draft" "LOnlyFar$Table;").before (za Z) (zs Z) = true := hX.wd (mcC _ wd_141)
  have fl39 : (Cond.fieldLink RX4 39 "OnlyFar$Reader" "greatestPlace" "I").before (za Z) (zs Z) = true := hX.wd (mcC _ wd_151)
  have fl83 : (Cond.fieldLink RX4 83 "OnlyFar$Reader" "start" "I").before (za Z) (zs Z) = true := hX.wd (mcC _ wd_154)
  have fl89 : (Cond.fieldLink RX4 89 "OnlyFar$Reader" "value" "I").before (za Z) (zs Z) = true := hX.wd (mcC _ wd_155)
  have mathmaxS : (Cond.static Lib.Math.max.name).before (za Z) (zs Z) = true := hX.wd (mcC _ wd_520)
  have mathmaxI : (Cond.initialized "java/lang/Math").before (za Z) (zs Z) = true := hX.wd (mcC _ wd_87)
  have mathmaxC : (Cond.code Lib.Math.max.name Lib.Math.max.code 2 (some .int)).before (za Z) (zs Z) = true := hX.wd (mcC _ wd_521)
  have ml100 : (Cond.methodLink RX4 100 Lib.Math.max.name).before (za Z) (zs Z) = true := hX.wd (mcC _ wd_519)
  have inX4 : ∀ w ∈ u_ws RX4 TX4 11, w ∈ wsX4_readFar := fun w h => mcC w (inC_X4 w h)
  unfold X4_readFar
  refine rn_aload_n hX dX4_readFar_0 0 rfl 1 rfl ?_
  refine rn_iconst hX dX4_readFar_1 2 rfl ic_0 ?_
  refine rn_bipush hX dX4_readFar_2 4 rfl bp_6 ?_
  refine rn_bind (fun u1 hu1 => ?_)
  refine rn_callV hX (gV mcC wd_498 wd_500 wd_6 wd_72 wd_501) rfl hdV_X4_readNumber rfl rfl ⟨Nat.le_of_ble_eq_true rfl, Nat.le_of_ble_eq_true rfl⟩ (c_X4_readNumber (zl Z) (zG Z) a_this a_tape a_tape_bytes a_draft g_lines g_fault g_faultAt g_placesTold g_greatestPlace g_next g_kind g_start g_value g_tape_length g_tape_bytes (0 : Int32) (6 : Int32) hu1) rfl [0, 3, 4] rfl rfl rfl (ci := 4) rfl rfl rfl (Nat.le_of_ble_eq_true rfl) dX4_readFar_4 7 rfl (wn := [(a_this, .inr (4, [.ref a_draft, .int g_lines, .int u1.2.1, .int u1.2.2.1, .ref a_tape, .int g_placesTold, .int g_greatestPlace, .int u1.2.2.2.2.1, .int u1.2.2.2.1, .int u1.2.2.2.2.2.1, .int u1.2.2.2.2.2.2])), (a_draft, .inr (8, [.int g_draft_places, .ref a_draft_squares])), (a_draft_squares, .inl ((zG Z).2.1 1, 49, .inl g_draft_squares)), (a_tape, .inr (9, [.int g_tape_length, .ref a_tape_bytes])), (a_tape_bytes, .inl ((zG Z).2.1 0, 320, .inl g_tape_bytes))]) rfl (S' := [.int u1.1]) rfl ⟨Nat.zero_le _, Nat.zero_le _⟩ ?_
  refine rn_if_ne hX dX4_readFar_7 12 (by decide) 10 rfl ?_ ?_
  · refine rn_aload_n hX dX4_readFar_12 0 rfl 13 rfl ?_
    refine rn_get hX inX4 0 rfl rfl 10 (by decide) fl89 rfl rfl dX4_readFar_13 16 rfl ?_
    refine rn_istore_n hX dX4_readFar_16 1 rfl (by decide) (L' := [(1, .int u1.2.2.2.2.2.2), (0, .ref a_this)]) rfl 17 rfl ?_
    refine rn_aload_n hX dX4_readFar_17 1 rfl 18 rfl ?_
    refine rn_iconst hX dX4_readFar_18 19 rfl ic_0 ?_
    refine rn_bipush hX dX4_readFar_19 21 rfl bp_6 ?_
    refine rn_bind (fun u2 hu2 => ?_)
    refine rn_callV hX (gV mcC wd_498 wd_500 wd_6 wd_72 wd_501) rfl hdV_X4_readNumber rfl rfl ⟨Nat.le_of_ble_eq_true rfl, Nat.le_of_ble_eq_true rfl⟩ (c_X4_readNumber (zl Z) (zG Z) a_this a_tape a_tape_bytes a_draft g_lines u1.2.1 u1.2.2.1 g_placesTold g_greatestPlace u1.2.2.2.2.1 u1.2.2.2.1 u1.2.2.2.2.2.1 u1.2.2.2.2.2.2 g_tape_length g_tape_bytes (0 : Int32) (6 : Int32) hu2) rfl [0, 3, 4] rfl rfl rfl (ci := 4) rfl rfl rfl (Nat.le_of_ble_eq_true rfl) dX4_readFar_21 24 rfl (wn := [(a_this, .inr (4, [.ref a_draft, .int g_lines, .int u2.2.1, .int u2.2.2.1, .ref a_tape, .int g_placesTold, .int g_greatestPlace, .int u2.2.2.2.2.1, .int u2.2.2.2.1, .int u2.2.2.2.2.2.1, .int u2.2.2.2.2.2.2])), (a_draft, .inr (8, [.int g_draft_places, .ref a_draft_squares])), (a_draft_squares, .inl ((zG Z).2.1 1, 49, .inl g_draft_squares)), (a_tape, .inr (9, [.int g_tape_length, .ref a_tape_bytes])), (a_tape_bytes, .inl ((zG Z).2.1 0, 320, .inl g_tape_bytes))]) rfl (S' := [.int u2.1]) rfl ⟨Nat.zero_le _, Nat.zero_le _⟩ ?_
    refine rn_if_ne hX dX4_readFar_24 29 (by decide) 27 rfl ?_ ?_
    · refine rn_aload_n hX dX4_readFar_29 1 rfl 30 rfl ?_
      refine rn_get hX inX4 0 rfl rfl 10 (by decide) fl89 rfl rfl dX4_readFar_30 33 rfl ?_
      refine rn_istore_n hX dX4_readFar_33 2 rfl (by decide) (L' := [(2, .int u2.2.2.2.2.2.2), (1, .int u1.2.2.2.2.2.2), (0, .ref a_this)]) rfl 34 rfl ?_
      refine rn_iload_n hX dX4_readFar_34 1 rfl 35 rfl ?_
      refine rn_iload_n hX dX4_readFar_35 0 rfl 36 rfl ?_
      refine rn_icmp_ne hX dX4_readFar_36 49 (by decide) 39 rfl ?_ ?_
      · refine rn_aload_n hX dX4_readFar_49 2 rfl 50 rfl ?_
        refine rn_get hX inX4 0 rfl rfl 0 (by decide) fl18 rfl rfl dX4_readFar_50 53 rfl ?_
        refine rn_iload_n hX dX4_readFar_53 1 rfl 54 rfl ?_
        refine rn_iload_n hX dX4_readFar_54 0 rfl 55 rfl ?_
        refine rn_bind (fun u3 hu3 => ?_)
        refine rn_callV0 hX (gV mcC wd_511 wd_512 wd_513 wd_73 wd_514) rfl hdV_X8_square rfl rfl ⟨Nat.le_of_ble_eq_true rfl, Nat.le_of_ble_eq_true rfl⟩ (c_X8_square (zl Z) (zG Z) a_draft a_draft_squares g_draft_places g_draft_squares u1.2.2.2.2.2.2 u2.2.2.2.2.2.2 hu3) rfl [1, 2] rfl rfl (ci := 8) rfl rfl rfl (Nat.le_of_ble_eq_true rfl) dX4_readFar_55 58 rfl (S' := [.int u3]) rfl ⟨Nat.zero_le _, Nat.zero_le _⟩ ?_
        refine rn_if_eq hX dX4_readFar_58 71 (by decide) 61 rfl ?_ ?_
        · refine rn_aload_n hX dX4_readFar_71 2 rfl 72 rfl ?_
          refine rn_iconst hX dX4_readFar_72 73 rfl ic_1 ?_
          refine rn_sipush hX dX4_readFar_73 76 rfl sp_9999 ?_
          refine rn_bind (fun u4 hu4 => ?_)
          refine rn_callV hX (gV mcC wd_498 wd_500 wd_6 wd_72 wd_501) rfl hdV_X4_readNumber rfl rfl ⟨Nat.le_of_ble_eq_true rfl, Nat.le_of_ble_eq_true rfl⟩ (c_X4_readNumber (zl Z) (zG Z) a_this a_tape a_tape_bytes a_draft g_lines u2.2.1 u2.2.2.1 g_placesTold g_greatestPlace u2.2.2.2.2.1 u2.2.2.2.1 u2.2.2.2.2.2.1 u2.2.2.2.2.2.2 g_tape_length g_tape_bytes (1 : Int32) (9999 : Int32) hu4) rfl [0, 3, 4] rfl rfl rfl (ci := 4) rfl rfl rfl (Nat.le_of_ble_eq_true rfl) dX4_readFar_76 79 rfl (wn := [(a_this, .inr (4, [.ref a_draft, .int g_lines, .int u4.2.1, .int u4.2.2.1, .ref a_tape, .int g_placesTold, .int g_greatestPlace, .int u4.2.2.2.2.1, .int u4.2.2.2.1, .int u4.2.2.2.2.2.1, .int u4.2.2.2.2.2.2])), (a_draft, .inr (8, [.int g_draft_places, .ref a_draft_squares])), (a_draft_squares, .inl ((zG Z).2.1 1, 49, .inl g_draft_squares)), (a_tape, .inr (9, [.int g_tape_length, .ref a_tape_bytes])), (a_tape_bytes, .inl ((zG Z).2.1 0, 320, .inl g_tape_bytes))]) rfl (S' := [.int u4.1]) rfl ⟨Nat.zero_le _, Nat.zero_le _⟩ ?_
          refine rn_if_ne hX dX4_readFar_79 84 (by decide) 82 rfl ?_ ?_
          · refine rn_aload_n hX dX4_readFar_84 2 rfl 85 rfl ?_
            refine rn_get hX inX4 0 rfl rfl 0 (by decide) fl18 rfl rfl dX4_readFar_85 88 rfl ?_
            refine rn_iload_n hX dX4_readFar_88 1 rfl 89 rfl ?_
            refine rn_iload_n hX dX4_readFar_89 0 rfl 90 rfl ?_
            refine rn_aload_n hX dX4_readFar_90 2 rfl 91 rfl ?_
            refine rn_get hX inX4 0 rfl rfl 10 (by decide) fl89 rfl rfl dX4_readFar_91 94 rfl ?_
            refine rn_bind (fun u5 hu5 => ?_)
            refine rn_callV hX (gV mcC wd_515 wd_516 wd_517 wd_73 wd_518) rfl hdV_X8_put rfl rfl ⟨Nat.le_of_ble_eq_true rfl, Nat.le_of_ble_eq_true rfl⟩ (c_X8_put (zl Z) (zG Z) a_draft a_draft_squares g_draft_places g_draft_squares u1.2.2.2.2.2.2 u2.2.2.2.2.2.2 u4.2.2.2.2.2.2 hu5) rfl [1, 2] rfl rfl rfl (ci := 8) rfl rfl rfl (Nat.le_of_ble_eq_true rfl) dX4_readFar_94 97 rfl (wn := [(a_this, .inr (4, [.ref a_draft, .int g_lines, .int u4.2.1, .int u4.2.2.1, .ref a_tape, .int g_placesTold, .int g_greatestPlace, .int u4.2.2.2.2.1, .int u4.2.2.2.1, .int u4.2.2.2.2.2.1, .int u4.2.2.2.2.2.2])), (a_draft, .inr (8, [.int g_draft_places, .ref a_draft_squares])), (a_draft_squares, .inl ((zG Z).2.1 1, 49, .inl u5)), (a_tape, .inr (9, [.int g_tape_length, .ref a_tape_bytes])), (a_tape_bytes, .inl ((zG Z).2.1 0, 320, .inl g_tape_bytes))]) rfl (S' := []) rfl ⟨Nat.zero_le _, Nat.zero_le _⟩ ?_
            refine rn_aload_n hX dX4_readFar_97 2 rfl 98 rfl ?_
            refine rn_aload_n hX dX4_readFar_98 2 rfl 99 rfl ?_
            refine rn_get hX inX4 0 rfl rfl 6 (by decide) fl39 rfl rfl dX4_readFar_99 102 rfl ?_
            refine rn_iload_n hX dX4_readFar_102 1 rfl 103 rfl ?_
            refine rn_iload_n hX dX4_readFar_103 0 rfl 104 rfl ?_
            refine rn_mmax hX ml100 mathmaxS mathmaxI mathmaxC (Nat.le_of_ble_eq_true rfl) (Nat.le_of_ble_eq_true rfl) ⟨Nat.zero_le _, Nat.zero_le _⟩ dX4_readFar_104 107 rfl ?_
            refine rn_mmax hX ml100 mathmaxS mathmaxI mathmaxC (Nat.le_of_ble_eq_true rfl) (Nat.le_of_ble_eq_true rfl) ⟨Nat.zero_le _, Nat.zero_le _⟩ dX4_readFar_107 110 rfl ?_
            refine rn_lati (fun v6 => ?_)
            refine rn_put hX inX4 tyX4_ok nmX4 0 rfl rfl 6 (by decide) fl39 rfl rfl rfl rfl (Nat.le_of_ble_eq_true rfl) dX4_readFar_110 113 rfl (w1 := [(a_this, .inr (4, [.ref a_draft, .int g_lines, .int u4.2.1, .int u4.2.2.1, .ref a_tape, .int g_placesTold, .int v6, .int u4.2.2.2.2.1, .int u4.2.2.2.1, .int u4.2.2.2.2.2.1, .int u4.2.2.2.2.2.2])), (a_draft, .inr (8, [.int g_draft_places, .ref a_draft_squares])), (a_draft_squares, .inl ((zG Z).2.1 1, 49, .inl u5)), (a_tape, .inr (9, [.int g_tape_length, .ref a_tape_bytes])), (a_tape_bytes, .inl ((zG Z).2.1 0, 320, .inl g_tape_bytes))]) rfl ?_
            refine rn_iconst hX dX4_readFar_113 114 rfl ic_1 ?_
            exact rn_zret hX rfl hr (by rw [henc]; rfl) dX4_readFar_114
          refine rn_iconst hX dX4_readFar_82 83 rfl ic_0 ?_
          exact rn_zret hX rfl hr (by rw [henc]; rfl) dX4_readFar_83
        refine rn_aload_n hX dX4_readFar_61 2 rfl 62 rfl ?_
        refine rn_iconst hX dX4_readFar_62 63 rfl ic_4 ?_
        refine rn_aload_n hX dX4_readFar_63 2 rfl 64 rfl ?_
        refine rn_get hX inX4 0 rfl rfl 9 (by decide) fl83 rfl rfl dX4_readFar_64 67 rfl ?_
        refine rn_lat (fun u7 hu7 => ?_)
        refine rn_callV hX (gV mcC wd_429 wd_431 wd_2 wd_72 wd_432) rfl hdV_X4_refuse rfl rfl ⟨Nat.le_of_ble_eq_true rfl, Nat.le_of_ble_eq_true rfl⟩ (c_X4_refuse (zl Z) (zG Z) a_this a_draft a_tape g_lines u2.2.1 u2.2.2.1 g_placesTold g_greatestPlace u2.2.2.2.2.1 u2.2.2.2.1 u2.2.2.2.2.2.1 u2.2.2.2.2.2.2 (4 : Int32) u2.2.2.2.2.2.1 hu7) rfl [0] rfl rfl rfl (ci := 4) rfl rfl rfl (Nat.le_of_ble_eq_true rfl) dX4_readFar_67 70 rfl (wn := [(a_this, .inr (4, [.ref a_draft, .int g_lines, .int u7.2.1, .int u7.2.2, .ref a_tape, .int g_placesTold, .int g_greatestPlace, .int u2.2.2.2.2.1, .int u2.2.2.2.1, .int u2.2.2.2.2.2.1, .int u2.2.2.2.2.2.2])), (a_draft, .inr (8, [.int g_draft_places, .ref a_draft_squares])), (a_draft_squares, .inl ((zG Z).2.1 1, 49, .inl g_draft_squares)), (a_tape, .inr (9, [.int g_tape_length, .ref a_tape_bytes])), (a_tape_bytes, .inl ((zG Z).2.1 0, 320, .inl g_tape_bytes))]) rfl (S' := [.int u7.1]) rfl ⟨Nat.zero_le _, Nat.zero_le _⟩ ?_
        refine rn_gz (fun hz8 => ?_)
        exact rn_zret hX (nar_z hz8) hr (by rw [henc]; rfl) dX4_readFar_70
      refine rn_aload_n hX dX4_readFar_39 2 rfl 40 rfl ?_
      refine rn_iconst hX dX4_readFar_40 41 rfl ic_3 ?_
      refine rn_aload_n hX dX4_readFar_41 2 rfl 42 rfl ?_
      refine rn_get hX inX4 0 rfl rfl 9 (by decide) fl83 rfl rfl dX4_readFar_42 45 rfl ?_
      refine rn_lat (fun u9 hu9 => ?_)
      refine rn_callV hX (gV mcC wd_429 wd_431 wd_2 wd_72 wd_432) rfl hdV_X4_refuse rfl rfl ⟨Nat.le_of_ble_eq_true rfl, Nat.le_of_ble_eq_true rfl⟩ (c_X4_refuse (zl Z) (zG Z) a_this a_draft a_tape g_lines u2.2.1 u2.2.2.1 g_placesTold g_greatestPlace u2.2.2.2.2.1 u2.2.2.2.1 u2.2.2.2.2.2.1 u2.2.2.2.2.2.2 (3 : Int32) u2.2.2.2.2.2.1 hu9) rfl [0] rfl rfl rfl (ci := 4) rfl rfl rfl (Nat.le_of_ble_eq_true rfl) dX4_readFar_45 48 rfl (wn := [(a_this, .inr (4, [.ref a_draft, .int g_lines, .int u9.2.1, .int u9.2.2, .ref a_tape, .int g_placesTold, .int g_greatestPlace, .int u2.2.2.2.2.1, .int u2.2.2.2.1, .int u2.2.2.2.2.2.1, .int u2.2.2.2.2.2.2])), (a_draft, .inr (8, [.int g_draft_places, .ref a_draft_squares])), (a_draft_squares, .inl ((zG Z).2.1 1, 49, .inl g_draft_squares)), (a_tape, .inr (9, [.int g_tape_length, .ref a_tape_bytes])), (a_tape_bytes, .inl ((zG Z).2.1 0, 320, .inl g_tape_bytes))]) rfl (S' := [.int u9.1]) rfl ⟨Nat.zero_le _, Nat.zero_le _⟩ ?_
      refine rn_gz (fun hz10 => ?_)
      exact rn_zret hX (nar_z hz10) hr (by rw [henc]; rfl) dX4_readFar_48
    refine rn_iconst hX dX4_readFar_27 28 rfl ic_0 ?_
    exact rn_zret hX rfl hr (by rw [henc]; rfl) dX4_readFar_28
  refine rn_iconst hX dX4_readFar_10 11 rfl ic_0 ?_
  exact rn_zret hX rfl hr (by rw [henc]; rfl) dX4_readFar_11
abbrev rmX4_readLine : Room := { frames := 5, cells := 0, slots := 0, locals := 107 }
theorem hdV_X4_readLine : yX4_readLine.cls = RX4 ∧ yX4_readLine.cls ≠ "java/lang/invoke/MethodHandle" ∧ yX4_readLine.cls ≠ "java/lang/invoke/VarHandle" ∧ (parseMethodDescriptor yX4_readLine.desc).map (fun d => d.parameters.length) = some 0 := by decide +kernel
set_option maxHeartbeats 4000000 in
set_option maxRecDepth 100000 in
theorem c_X4_readLine (l : Launch) (G : GT) (a_this a_draft a_draft_squares a_tape a_tape_bytes : Nat) (g_lines : Int32) (g_fault : Int32) (g_faultAt : Int32) (g_placesTold : Int32) (g_greatestPlace : Int32) (g_next : Int32) (g_kind : Int32) (g_start : Int32) (g_value : Int32) (g_draft_places : Int32) (g_draft_squares : (Nat → Int32)) (g_tape_length : Int32) (g_tape_bytes : (Nat → Int32)) {u : Int32 × Int32 × Int32 × Int32 × Int32 × Int32 × Int32 × Int32 × Int32 × Int32 × (Nat → Int32)} (hu : X4_readLine g_fault g_faultAt g_greatestPlace g_kind g_next g_placesTold g_start g_value g_draft_places g_draft_squares g_tape_length g_tape_bytes = some u) : Ctr l G yX4_readLine wsX4_readLine rmX4_readLine [.ref a_this] [(a_this, .inr (4, [.ref a_draft, .int g_lines, .int g_fault, .int g_faultAt, .ref a_tape, .int g_placesTold, .int g_greatestPlace, .int g_next, .int g_kind, .int g_start, .int g_value])), (a_draft, .inr (8, [.int g_draft_places, .ref a_draft_squares])), (a_draft_squares, .inl (G.2.1 1, 49, .inl g_draft_squares)), (a_tape, .inr (9, [.int g_tape_length, .ref a_tape_bytes])), (a_tape_bytes, .inl (G.2.1 0, 320, .inl g_tape_bytes))] (some (.int u.1)) [(a_this, .inr (4, [.ref a_draft, .int g_lines, .int u.2.1, .int u.2.2.1, .ref a_tape, .int u.2.2.2.2.2.2.1, .int u.2.2.2.1, .int u.2.2.2.2.2.1, .int u.2.2.2.2.1, .int u.2.2.2.2.2.2.2.1, .int u.2.2.2.2.2.2.2.2.1])), (a_draft, .inr (8, [.int u.2.2.2.2.2.2.2.2.2.1, .ref a_draft_squares])), (a_draft_squares, .inl (G.2.1 1, 49, .inl u.2.2.2.2.2.2.2.2.2.2)), (a_tape, .inr (9, [.int g_tape_length, .ref a_tape_bytes])), (a_tape_bytes, .inl (G.2.1 0, 320, .inl g_tape_bytes))] := by
  obtain ⟨enc, henc⟩ : ∃ enc : (Int32 × Int32 × Int32 × Int32 × Int32 × Int32 × Int32 × Int32 × Int32 × Int32 × (Nat → Int32)) → Option Value × va_W, enc = fun u => (((some (.int u.1)) : Option Value), ([(a_this, .inr (4, [.ref a_draft, .int g_lines, .int u.2.1, .int u.2.2.1, .ref a_tape, .int u.2.2.2.2.2.2.1, .int u.2.2.2.1, .int u.2.2.2.2.2.1, .int u.2.2.2.2.1, .int u.2.2.2.2.2.2.2.1, .int u.2.2.2.2.2.2.2.2.1])), (a_draft, .inr (8, [.int u.2.2.2.2.2.2.2.2.2.1, .ref a_draft_squares])), (a_draft_squares, .inl (G.2.1 1, 49, .inl u.2.2.2.2.2.2.2.2.2.2)), (a_tape, .inr (9, [.int g_tape_length, .ref a_tape_bytes])), (a_tape_bytes, .inl (G.2.1 0, 320, .inl g_tape_bytes))] : va_W)) := ⟨_, rfl⟩
  refine ctr_of (cc := cX4_readLine) (own := RX4) (E := Option.map enc) (o := X4_readLine g_fault g_faultAt g_greatestPlace g_kind g_next g_placesTold g_start g_value g_draft_places g_draft_squares g_tape_length g_tape_bytes) (by decide) rfl rfl (L := [(0, .ref a_this)]) rfl (Nat.le_of_ble_eq_true rfl) (by rw [hu, henc]; rfl) ?_
  intro Z hX hl hG hr
  subst hl; subst hG
  have fl83 : (Cond.fieldLink RX4 83 "OnlyFar$Reader" "start" "I").before (za Z) (zs Z) = true := hX.wd (mcC _ wd_154)
  have inX4 : ∀ w ∈ u_ws RX4 TX4 11, w ∈ wsX4_readLine := fun w h => mcC w (inC_X4 w h)
  unfold X4_readLine
  refine rn_aload_n hX dX4_readLine_0 0 rfl 1 rfl ?_
  refine rn_ldcS hX hX.2.2.2.1.2.2.1 dX4_readLine_1 3 rfl ?_
  refine rn_bind (fun u1 hu1 => ?_)
  refine rn_callV0 hX (gV mcC wd_442 wd_444 wd_4 wd_72 wd_445) rfl hdV_X4_isName rfl rfl ⟨Nat.le_of_ble_eq_true rfl, Nat.le_of_ble_eq_true rfl⟩ (c_X4_isName (zl Z) (zG Z) a_this a_tape a_tape_bytes a_draft g_lines g_fault g_faultAt g_placesTold g_greatestPlace g_next g_kind g_start g_value g_tape_length g_tape_bytes 0 (by decide) hu1) rfl [0, 3, 4] rfl rfl (ci := 4) rfl rfl rfl (Nat.le_of_ble_eq_true rfl) dX4_readLine_3 6 rfl (S' := [.int u1]) rfl ⟨Nat.zero_le _, Nat.zero_le _⟩ ?_
  refine rn_if_eq hX dX4_readLine_6 29 (by decide) 9 rfl ?_ ?_
  · refine rn_aload_n hX dX4_readLine_29 0 rfl 30 rfl ?_
    refine rn_ldcS hX hX.2.2.2.1.2.2.2.1 dX4_readLine_30 32 rfl ?_
    refine rn_bind (fun u2 hu2 => ?_)
    refine rn_callV0 hX (gV mcC wd_442 wd_444 wd_4 wd_72 wd_445) rfl hdV_X4_isName rfl rfl ⟨Nat.le_of_ble_eq_true rfl, Nat.le_of_ble_eq_true rfl⟩ (c_X4_isName (zl Z) (zG Z) a_this a_tape a_tape_bytes a_draft g_lines g_fault g_faultAt g_placesTold g_greatestPlace g_next g_kind g_start g_value g_tape_length g_tape_bytes 1 (by decide) hu2) rfl [0, 3, 4] rfl rfl (ci := 4) rfl rfl rfl (Nat.le_of_ble_eq_true rfl) dX4_readLine_32 35 rfl (S' := [.int u2]) rfl ⟨Nat.zero_le _, Nat.zero_le _⟩ ?_
    refine rn_if_eq hX dX4_readLine_35 58 (by decide) 38 rfl ?_ ?_
    · refine rn_aload_n hX dX4_readLine_58 0 rfl 59 rfl ?_
      refine rn_iconst hX dX4_readLine_59 60 rfl ic_2 ?_
      refine rn_aload_n hX dX4_readLine_60 0 rfl 61 rfl ?_
      refine rn_get hX inX4 0 rfl rfl 9 (by decide) fl83 rfl rfl dX4_readLine_61 64 rfl ?_
      refine rn_lat (fun u3 hu3 => ?_)
      refine rn_callV hX (gV mcC wd_429 wd_431 wd_2 wd_72 wd_432) rfl hdV_X4_refuse rfl rfl ⟨Nat.le_of_ble_eq_true rfl, Nat.le_of_ble_eq_true rfl⟩ (c_X4_refuse (zl Z) (zG Z) a_this a_draft a_tape g_lines g_fault g_faultAt g_placesTold g_greatestPlace g_next g_kind g_start g_value (2 : Int32) g_start hu3) rfl [0] rfl rfl rfl (ci := 4) rfl rfl rfl (Nat.le_of_ble_eq_true rfl) dX4_readLine_64 67 rfl (wn := [(a_this, .inr (4, [.ref a_draft, .int g_lines, .int u3.2.1, .int u3.2.2, .ref a_tape, .int g_placesTold, .int g_greatestPlace, .int g_next, .int g_kind, .int g_start, .int g_value])), (a_draft, .inr (8, [.int g_draft_places, .ref a_draft_squares])), (a_draft_squares, .inl ((zG Z).2.1 1, 49, .inl g_draft_squares)), (a_tape, .inr (9, [.int g_tape_length, .ref a_tape_bytes])), (a_tape_bytes, .inl ((zG Z).2.1 0, 320, .inl g_tape_bytes))]) rfl (S' := [.int u3.1]) rfl ⟨Nat.zero_le _, Nat.zero_le _⟩ ?_
      refine rn_gz (fun hz4 => ?_)
      exact rn_zret hX (nar_z hz4) hr (by rw [henc]; rfl) dX4_readLine_67
    refine rn_aload_n hX dX4_readLine_38 0 rfl 39 rfl ?_
    refine rn_bind (fun u5 hu5 => ?_)
    refine rn_callV hX (gV mcC wd_507 wd_509 wd_8 wd_72 wd_510) rfl hdV_X4_readFar rfl rfl ⟨Nat.le_of_ble_eq_true rfl, Nat.le_of_ble_eq_true rfl⟩ (c_X4_readFar (zl Z) (zG Z) a_this a_draft a_draft_squares a_tape a_tape_bytes g_lines g_fault g_faultAt g_placesTold g_greatestPlace g_next g_kind g_start g_value g_draft_places g_draft_squares g_tape_length g_tape_bytes hu5) rfl [0, 1, 2, 3, 4] rfl rfl rfl (ci := 4) rfl rfl rfl (Nat.le_of_ble_eq_true rfl) dX4_readLine_39 42 rfl (wn := [(a_this, .inr (4, [.ref a_draft, .int g_lines, .int u5.2.1, .int u5.2.2.1, .ref a_tape, .int g_placesTold, .int u5.2.2.2.1, .int u5.2.2.2.2.2.1, .int u5.2.2.2.2.1, .int u5.2.2.2.2.2.2.1, .int u5.2.2.2.2.2.2.2.1])), (a_draft, .inr (8, [.int g_draft_places, .ref a_draft_squares])), (a_draft_squares, .inl ((zG Z).2.1 1, 49, .inl u5.2.2.2.2.2.2.2.2)), (a_tape, .inr (9, [.int g_tape_length, .ref a_tape_bytes])), (a_tape_bytes, .inl ((zG Z).2.1 0, 320, .inl g_tape_bytes))]) rfl (S' := [.int u5.1]) rfl ⟨Nat.zero_le _, Nat.zero_le _⟩ ?_
    refine rn_if_eq hX dX4_readLine_42 56 (by decide) 45 rfl ?_ ?_
    · refine rn_iconst hX dX4_readLine_56 57 rfl ic_0 ?_
      exact rn_zret hX rfl hr (by rw [henc]; rfl) dX4_readLine_57
    refine rn_aload_n hX dX4_readLine_45 0 rfl 46 rfl ?_
    refine rn_bind (fun u6 hu6 => ?_)
    refine rn_callV hX (gV mcC wd_502 wd_504 wd_7 wd_72 wd_505) rfl hdV_X4_readSign rfl rfl ⟨Nat.le_of_ble_eq_true rfl, Nat.le_of_ble_eq_true rfl⟩ (c_X4_readSign (zl Z) (zG Z) a_this a_tape a_tape_bytes a_draft g_lines u5.2.1 u5.2.2.1 g_placesTold u5.2.2.2.1 u5.2.2.2.2.2.1 u5.2.2.2.2.1 u5.2.2.2.2.2.2.1 u5.2.2.2.2.2.2.2.1 g_tape_length g_tape_bytes hu6) rfl [0, 3, 4] rfl rfl rfl (ci := 4) rfl rfl rfl (Nat.le_of_ble_eq_true rfl) dX4_readLine_46 49 rfl (wn := [(a_this, .inr (4, [.ref a_draft, .int g_lines, .int u6.2.1, .int u6.2.2.1, .ref a_tape, .int g_placesTold, .int u5.2.2.2.1, .int u6.2.2.2.2.1, .int u6.2.2.2.1, .int u6.2.2.2.2.2.1, .int u6.2.2.2.2.2.2])), (a_draft, .inr (8, [.int g_draft_places, .ref a_draft_squares])), (a_draft_squares, .inl ((zG Z).2.1 1, 49, .inl u5.2.2.2.2.2.2.2.2)), (a_tape, .inr (9, [.int g_tape_length, .ref a_tape_bytes])), (a_tape_bytes, .inl ((zG Z).2.1 0, 320, .inl g_tape_bytes))]) rfl (S' := [.int u6.1]) rfl ⟨Nat.zero_le _, Nat.zero_le _⟩ ?_
    refine rn_if_eq hX dX4_readLine_49 56 (by decide) 52 rfl ?_ ?_
    · refine rn_iconst hX dX4_readLine_56 57 rfl ic_0 ?_
      exact rn_zret hX rfl hr (by rw [henc]; rfl) dX4_readLine_57
    refine rn_iconst hX dX4_readLine_52 53 rfl ic_1 ?_
    refine rn_goto hX dX4_readLine_53 57 (by decide) ?_
    exact rn_zret hX rfl hr (by rw [henc]; rfl) dX4_readLine_57
  refine rn_aload_n hX dX4_readLine_9 0 rfl 10 rfl ?_
  refine rn_bind (fun u7 hu7 => ?_)
  refine rn_callV hX (gV mcC wd_494 wd_496 wd_5 wd_72 wd_497) rfl hdV_X4_readPlaces rfl rfl ⟨Nat.le_of_ble_eq_true rfl, Nat.le_of_ble_eq_true rfl⟩ (c_X4_readPlaces (zl Z) (zG Z) a_this a_draft a_tape a_tape_bytes a_draft_squares g_lines g_fault g_faultAt g_placesTold g_greatestPlace g_next g_kind g_start g_value g_draft_places g_tape_length g_tape_bytes hu7) rfl [0, 1, 3, 4] rfl rfl rfl (ci := 4) rfl rfl rfl (Nat.le_of_ble_eq_true rfl) dX4_readLine_10 13 rfl (wn := [(a_this, .inr (4, [.ref a_draft, .int g_lines, .int u7.2.1, .int u7.2.2.1, .ref a_tape, .int u7.2.2.2.2.2.1, .int g_greatestPlace, .int u7.2.2.2.2.1, .int u7.2.2.2.1, .int u7.2.2.2.2.2.2.1, .int u7.2.2.2.2.2.2.2.1])), (a_draft, .inr (8, [.int u7.2.2.2.2.2.2.2.2, .ref a_draft_squares])), (a_draft_squares, .inl ((zG Z).2.1 1, 49, .inl g_draft_squares)), (a_tape, .inr (9, [.int g_tape_length, .ref a_tape_bytes])), (a_tape_bytes, .inl ((zG Z).2.1 0, 320, .inl g_tape_bytes))]) rfl (S' := [.int u7.1]) rfl ⟨Nat.zero_le _, Nat.zero_le _⟩ ?_
  refine rn_if_eq hX dX4_readLine_13 27 (by decide) 16 rfl ?_ ?_
  · refine rn_iconst hX dX4_readLine_27 28 rfl ic_0 ?_
    exact rn_zret hX rfl hr (by rw [henc]; rfl) dX4_readLine_28
  refine rn_aload_n hX dX4_readLine_16 0 rfl 17 rfl ?_
  refine rn_bind (fun u8 hu8 => ?_)
  refine rn_callV hX (gV mcC wd_502 wd_504 wd_7 wd_72 wd_505) rfl hdV_X4_readSign rfl rfl ⟨Nat.le_of_ble_eq_true rfl, Nat.le_of_ble_eq_true rfl⟩ (c_X4_readSign (zl Z) (zG Z) a_this a_tape a_tape_bytes a_draft g_lines u7.2.1 u7.2.2.1 u7.2.2.2.2.2.1 g_greatestPlace u7.2.2.2.2.1 u7.2.2.2.1 u7.2.2.2.2.2.2.1 u7.2.2.2.2.2.2.2.1 g_tape_length g_tape_bytes hu8) rfl [0, 3, 4] rfl rfl rfl (ci := 4) rfl rfl rfl (Nat.le_of_ble_eq_true rfl) dX4_readLine_17 20 rfl (wn := [(a_this, .inr (4, [.ref a_draft, .int g_lines, .int u8.2.1, .int u8.2.2.1, .ref a_tape, .int u7.2.2.2.2.2.1, .int g_greatestPlace, .int u8.2.2.2.2.1, .int u8.2.2.2.1, .int u8.2.2.2.2.2.1, .int u8.2.2.2.2.2.2])), (a_draft, .inr (8, [.int u7.2.2.2.2.2.2.2.2, .ref a_draft_squares])), (a_draft_squares, .inl ((zG Z).2.1 1, 49, .inl g_draft_squares)), (a_tape, .inr (9, [.int g_tape_length, .ref a_tape_bytes])), (a_tape_bytes, .inl ((zG Z).2.1 0, 320, .inl g_tape_bytes))]) rfl (S' := [.int u8.1]) rfl ⟨Nat.zero_le _, Nat.zero_le _⟩ ?_
  refine rn_if_eq hX dX4_readLine_20 27 (by decide) 23 rfl ?_ ?_
  · refine rn_iconst hX dX4_readLine_27 28 rfl ic_0 ?_
    exact rn_zret hX rfl hr (by rw [henc]; rfl) dX4_readLine_28
  refine rn_iconst hX dX4_readLine_23 24 rfl ic_1 ?_
  refine rn_goto hX dX4_readLine_24 28 (by decide) ?_
  exact rn_zret hX rfl hr (by rw [henc]; rfl) dX4_readLine_28
abbrev rmX4_readAll : Room := { frames := 6, cells := 0, slots := 0, locals := 127 }
theorem hdV_X4_readAll : yX4_readAll.cls = RX4 ∧ yX4_readAll.cls ≠ "java/lang/invoke/MethodHandle" ∧ yX4_readAll.cls ≠ "java/lang/invoke/VarHandle" ∧ (parseMethodDescriptor yX4_readAll.desc).map (fun d => d.parameters.length) = some 0 := by decide +kernel
set_option maxHeartbeats 4000000 in
set_option maxRecDepth 100000 in
theorem c_X4_readAll (l : Launch) (G : GT) (a_this a_draft a_draft_squares a_tape a_tape_bytes : Nat) (g_lines : Int32) (g_fault : Int32) (g_faultAt : Int32) (g_placesTold : Int32) (g_greatestPlace : Int32) (g_next : Int32) (g_kind : Int32) (g_start : Int32) (g_value : Int32) (g_draft_places : Int32) (g_draft_squares : (Nat → Int32)) (g_tape_length : Int32) (g_tape_bytes : (Nat → Int32)) {u : Int32 × Int32 × Int32 × Int32 × Int32 × Int32 × Int32 × Int32 × Int32 × Int32 × (Nat → Int32)} (hu : X4_readAll g_fault g_faultAt g_greatestPlace g_kind g_lines g_next g_placesTold g_start g_value g_draft_places g_draft_squares g_tape_length g_tape_bytes = some u) : Ctr l G yX4_readAll wsX4_readAll rmX4_readAll [.ref a_this] [(a_this, .inr (4, [.ref a_draft, .int g_lines, .int g_fault, .int g_faultAt, .ref a_tape, .int g_placesTold, .int g_greatestPlace, .int g_next, .int g_kind, .int g_start, .int g_value])), (a_draft, .inr (8, [.int g_draft_places, .ref a_draft_squares])), (a_draft_squares, .inl (G.2.1 1, 49, .inl g_draft_squares)), (a_tape, .inr (9, [.int g_tape_length, .ref a_tape_bytes])), (a_tape_bytes, .inl (G.2.1 0, 320, .inl g_tape_bytes))] none [(a_this, .inr (4, [.ref a_draft, .int u.2.2.2.2.1, .int u.1, .int u.2.1, .ref a_tape, .int u.2.2.2.2.2.2.1, .int u.2.2.1, .int u.2.2.2.2.2.1, .int u.2.2.2.1, .int u.2.2.2.2.2.2.2.1, .int u.2.2.2.2.2.2.2.2.1])), (a_draft, .inr (8, [.int u.2.2.2.2.2.2.2.2.2.1, .ref a_draft_squares])), (a_draft_squares, .inl (G.2.1 1, 49, .inl u.2.2.2.2.2.2.2.2.2.2)), (a_tape, .inr (9, [.int g_tape_length, .ref a_tape_bytes])), (a_tape_bytes, .inl (G.2.1 0, 320, .inl g_tape_bytes))] := by
  obtain ⟨enc, henc⟩ : ∃ enc : (Int32 × Int32 × Int32 × Int32 × Int32 × Int32 × Int32 × Int32 × Int32 × Int32 × (Nat → Int32)) → Option Value × va_W, enc = fun u => ((none : Option Value), ([(a_this, .inr (4, [.ref a_draft, .int u.2.2.2.2.1, .int u.1, .int u.2.1, .ref a_tape, .int u.2.2.2.2.2.2.1, .int u.2.2.1, .int u.2.2.2.2.2.1, .int u.2.2.2.1, .int u.2.2.2.2.2.2.2.1, .int u.2.2.2.2.2.2.2.2.1])), (a_draft, .inr (8, [.int u.2.2.2.2.2.2.2.2.2.1, .ref a_draft_squares])), (a_draft_squares, .inl (G.2.1 1, 49, .inl u.2.2.2.2.2.2.2.2.2.2)), (a_tape, .inr (9, [.int g_tape_length, .ref a_tape_bytes])), (a_tape_bytes, .inl (G.2.1 0, 320, .inl g_tape_bytes))] : va_W)) := ⟨_, rfl⟩
  refine ctr_of (cc := cX4_readAll) (own := RX4) (E := Option.map enc) (o := X4_readAll g_fault g_faultAt g_greatestPlace g_kind g_lines g_next g_placesTold g_start g_value g_draft_places g_draft_squares g_tape_length g_tape_bytes) (by decide) rfl rfl (L := [(0, .ref a_this)]) rfl (Nat.le_of_ble_eq_true rfl) (by rw [hu, henc]; rfl) ?_
  intro Z hX hl hG hr
  subst hl; subst hG
  have fl18 : (Cond.fieldLink RX4 18 "OnlyFar$Reader" "draft" "LOnlyFar$Table;").before (za Z) (zs Z) = true := hX.wd (mcC _ wd_141)
  have fl25 : (Cond.fieldLink RX4 25 "OnlyFar$Reader" "lines" "I").before (za Z) (zs Z) = true := hX.wd (mcC _ wd_143)
  have fl29 : (Cond.fieldLink RX4 29 "OnlyFar$Reader" "fault" "I").before (za Z) (zs Z) = true := hX.wd (mcC _ wd_145)
  have fl32 : (Cond.fieldLink RX4 32 "OnlyFar$Reader" "faultAt" "I").before (za Z) (zs Z) = true := hX.wd (mcC _ wd_147)
  have fl35 : (Cond.fieldLink RX4 35 "OnlyFar$Reader" "placesTold" "Z").before (za Z) (zs Z) = true := hX.wd (mcC _ wd_150)
  have fl39 : (Cond.fieldLink RX4 39 "OnlyFar$Reader" "greatestPlace" "I").before (za Z) (zs Z) = true := hX.wd (mcC _ wd_151)
  have fl42 : (Cond.fieldLink RX4 42 "OnlyFar$Reader" "next" "I").before (za Z) (zs Z) = true := hX.wd (mcC _ wd_152)
  have fl49 : (Cond.fieldLink RX4 49 "OnlyFar$Reader" "kind" "I").before (za Z) (zs Z) = true := hX.wd (mcC _ wd_153)
  have fl55 : (Cond.fieldLink RX4 55 "OnlyFar$Table" "places" "I").before (za Z) (zs Z) = true := hX.wd (mcC _ wd_131)
  have fl58 : (Cond.fieldLink RX4 58 "OnlyFar$Tape" "length" "I").before (za Z) (zs Z) = true := hX.wd (mcC _ wd_107)
  have fl9 : (Cond.fieldLink RX4 9 "OnlyFar$Reader" "tape" "LOnlyFar$Tape;").before (za Z) (zs Z) = true := hX.wd (mcC _ wd_149)
  have inX4 : ∀ w ∈ u_ws RX4 TX4 11, w ∈ wsX4_readAll := fun w h => mcC w (inC_X4 w h)
  have inX8 : ∀ w ∈ u_ws RX8 TX8 2, w ∈ wsX4_readAll := fun w h => mcC w (inC_X8 w h)
  have inX9 : ∀ w ∈ u_ws RX9 TX9 2, w ∈ wsX4_readAll := fun w h => mcC w (inC_X9 w h)
  have hJ86 : ∀ (g_fault : Int32) (g_faultAt : Int32) (g_greatestPlace : Int32) (g_kind : Int32) (g_lines : Int32) (g_next : Int32) (g_placesTold : Int32) (g_start : Int32) (g_value : Int32) (g_draft_places : Int32) (g_draft_squares : (Nat → Int32)), Rn Z 2 (Option.map enc) 0 0 86 [(0, .ref a_this)] [] [(a_this, .inr (4, [.ref a_draft, .int g_lines, .int g_fault, .int g_faultAt, .ref a_tape, .int g_placesTold, .int g_greatestPlace, .int g_next, .int g_kind, .int g_start, .int g_value])), (a_draft, .inr (8, [.int g_draft_places, .ref a_draft_squares])), (a_draft_squares, .inl ((zG Z).2.1 1, 49, .inl g_draft_squares)), (a_tape, .inr (9, [.int g_tape_length, .ref a_tape_bytes])), (a_tape_bytes, .inl ((zG Z).2.1 0, 320, .inl g_tape_bytes))] (X4_readAll_J86 g_tape_length g_fault g_faultAt g_greatestPlace g_kind g_lines g_next g_placesTold g_start g_value g_draft_places g_draft_squares) := by
    intro g_fault g_faultAt g_greatestPlace g_kind g_lines g_next g_placesTold g_start g_value g_draft_places g_draft_squares
    unfold X4_readAll_J86
    refine rn_aload_n hX dX4_readAll_86 0 rfl 87 rfl ?_
    refine rn_get hX inX4 0 rfl rfl 2 (by decide) fl29 rfl rfl dX4_readAll_87 90 rfl ?_
    refine rn_if_ne hX dX4_readAll_90 120 (by decide) 93 rfl ?_ ?_
    · exact rn_vret hX hr (by rw [henc]; rfl) dX4_readAll_120
    refine rn_aload_n hX dX4_readAll_93 0 rfl 94 rfl ?_
    refine rn_get hX inX4 0 rfl rfl 6 (by decide) fl39 rfl rfl dX4_readAll_94 97 rfl ?_
    refine rn_aload_n hX dX4_readAll_97 0 rfl 98 rfl ?_
    refine rn_get hX inX4 0 rfl rfl 0 (by decide) fl18 rfl rfl dX4_readAll_98 101 rfl ?_
    refine rn_get hX inX8 1 rfl rfl 0 (by decide) fl55 rfl rfl dX4_readAll_101 104 rfl ?_
    refine rn_icmp_lt hX dX4_readAll_104 120 (by decide) 107 rfl ?_ ?_
    · exact rn_vret hX hr (by rw [henc]; rfl) dX4_readAll_120
    refine rn_aload_n hX dX4_readAll_107 0 rfl 108 rfl ?_
    refine rn_iconst hX dX4_readAll_108 109 rfl ic_5 ?_
    refine rn_aload_n hX dX4_readAll_109 0 rfl 110 rfl ?_
    refine rn_get hX inX4 0 rfl rfl 4 (by decide) fl9 rfl rfl dX4_readAll_110 113 rfl ?_
    refine rn_get hX inX9 3 rfl rfl 0 (by decide) fl58 rfl rfl dX4_readAll_113 116 rfl ?_
    refine rn_lat (fun u1 hu1 => ?_)
    refine rn_callV hX (gV mcC wd_429 wd_431 wd_2 wd_72 wd_432) rfl hdV_X4_refuse rfl rfl ⟨Nat.le_of_ble_eq_true rfl, Nat.le_of_ble_eq_true rfl⟩ (c_X4_refuse (zl Z) (zG Z) a_this a_draft a_tape g_lines g_fault g_faultAt g_placesTold g_greatestPlace g_next g_kind g_start g_value (5 : Int32) g_tape_length hu1) rfl [0] rfl rfl rfl (ci := 4) rfl rfl rfl (Nat.le_of_ble_eq_true rfl) dX4_readAll_116 119 rfl (wn := [(a_this, .inr (4, [.ref a_draft, .int g_lines, .int u1.2.1, .int u1.2.2, .ref a_tape, .int g_placesTold, .int g_greatestPlace, .int g_next, .int g_kind, .int g_start, .int g_value])), (a_draft, .inr (8, [.int g_draft_places, .ref a_draft_squares])), (a_draft_squares, .inl ((zG Z).2.1 1, 49, .inl g_draft_squares)), (a_tape, .inr (9, [.int g_tape_length, .ref a_tape_bytes])), (a_tape_bytes, .inl ((zG Z).2.1 0, 320, .inl g_tape_bytes))]) rfl (S' := [.int u1.1]) rfl ⟨Nat.zero_le _, Nat.zero_le _⟩ ?_
    refine rn_pop hX dX4_readAll_119 120 rfl rfl ?_
    exact rn_vret hX hr (by rw [henc]; rfl) dX4_readAll_120
  have hJ67 : ∀ (g_fault : Int32) (g_faultAt : Int32) (g_greatestPlace : Int32) (g_kind : Int32) (g_lines : Int32) (g_next : Int32) (g_placesTold : Int32) (g_start : Int32) (g_value : Int32) (g_draft_places : Int32) (g_draft_squares : (Nat → Int32)), Rn Z 2 (Option.map enc) 0 0 67 [(0, .ref a_this)] [] [(a_this, .inr (4, [.ref a_draft, .int g_lines, .int g_fault, .int g_faultAt, .ref a_tape, .int g_placesTold, .int g_greatestPlace, .int g_next, .int g_kind, .int g_start, .int g_value])), (a_draft, .inr (8, [.int g_draft_places, .ref a_draft_squares])), (a_draft_squares, .inl ((zG Z).2.1 1, 49, .inl g_draft_squares)), (a_tape, .inr (9, [.int g_tape_length, .ref a_tape_bytes])), (a_tape_bytes, .inl ((zG Z).2.1 0, 320, .inl g_tape_bytes))] (X4_readAll_J67 g_tape_length g_fault g_faultAt g_greatestPlace g_kind g_lines g_next g_placesTold g_start g_value g_draft_places g_draft_squares) := by
    intro g_fault g_faultAt g_greatestPlace g_kind g_lines g_next g_placesTold g_start g_value g_draft_places g_draft_squares
    unfold X4_readAll_J67
    refine rn_goto hX dX4_readAll_67 86 (by decide) ?_
    exact hJ86 g_fault g_faultAt g_greatestPlace g_kind g_lines g_next g_placesTold g_start g_value g_draft_places g_draft_squares
  have hB39 : ∀ (again : Int32 → Int32 → Int32 → Int32 → Int32 → Int32 → Int32 → Int32 → Int32 → Int32 → Int32 → (Nat → Int32) → Option (Int32 × Int32 × Int32 × Int32 × Int32 × Int32 × Int32 × Int32 × Int32 × Int32 × (Nat → Int32))) (k67 : Int32 → Int32 → Int32 → Int32 → Int32 → Int32 → Int32 → Int32 → Int32 → Int32 → (Nat → Int32) → Option (Int32 × Int32 × Int32 × Int32 × Int32 × Int32 × Int32 × Int32 × Int32 × Int32 × (Nat → Int32))) (k86 : Int32 → Int32 → Int32 → Int32 → Int32 → Int32 → Int32 → Int32 → Int32 → Int32 → (Nat → Int32) → Option (Int32 × Int32 × Int32 × Int32 × Int32 × Int32 × Int32 × Int32 × Int32 × Int32 × (Nat → Int32))) (hagain : ∀ (x1 : Int32) (g_fault : Int32) (g_faultAt : Int32) (g_greatestPlace : Int32) (g_kind : Int32) (g_lines : Int32) (g_next : Int32) (g_placesTold : Int32) (g_start : Int32) (g_value : Int32) (g_draft_places : Int32) (g_draft_squares : (Nat → Int32)), Rn Z 2 (Option.map enc) 0 0 39 [(0, .ref a_this), (1, .int x1)] [] [(a_this, .inr (4, [.ref a_draft, .int g_lines, .int g_fault, .int g_faultAt, .ref a_tape, .int g_placesTold, .int g_greatestPlace, .int g_next, .int g_kind, .int g_start, .int g_value])), (a_draft, .inr (8, [.int g_draft_places, .ref a_draft_squares])), (a_draft_squares, .inl ((zG Z).2.1 1, 49, .inl g_draft_squares)), (a_tape, .inr (9, [.int g_tape_length, .ref a_tape_bytes])), (a_tape_bytes, .inl ((zG Z).2.1 0, 320, .inl g_tape_bytes))] (again x1 g_fault g_faultAt g_greatestPlace g_kind g_lines g_next g_placesTold g_start g_value g_draft_places g_draft_squares)) (hk67 : ∀ (g_fault : Int32) (g_faultAt : Int32) (g_greatestPlace : Int32) (g_kind : Int32) (g_lines : Int32) (g_next : Int32) (g_placesTold : Int32) (g_start : Int32) (g_value : Int32) (g_draft_places : Int32) (g_draft_squares : (Nat → Int32)), Rn Z 2 (Option.map enc) 0 0 67 [(0, .ref a_this)] [] [(a_this, .inr (4, [.ref a_draft, .int g_lines, .int g_fault, .int g_faultAt, .ref a_tape, .int g_placesTold, .int g_greatestPlace, .int g_next, .int g_kind, .int g_start, .int g_value])), (a_draft, .inr (8, [.int g_draft_places, .ref a_draft_squares])), (a_draft_squares, .inl ((zG Z).2.1 1, 49, .inl g_draft_squares)), (a_tape, .inr (9, [.int g_tape_length, .ref a_tape_bytes])), (a_tape_bytes, .inl ((zG Z).2.1 0, 320, .inl g_tape_bytes))] (k67 g_fault g_faultAt g_greatestPlace g_kind g_lines g_next g_placesTold g_start g_value g_draft_places g_draft_squares)) (hk86 : ∀ (g_fault : Int32) (g_faultAt : Int32) (g_greatestPlace : Int32) (g_kind : Int32) (g_lines : Int32) (g_next : Int32) (g_placesTold : Int32) (g_start : Int32) (g_value : Int32) (g_draft_places : Int32) (g_draft_squares : (Nat → Int32)), Rn Z 2 (Option.map enc) 0 0 86 [(0, .ref a_this)] [] [(a_this, .inr (4, [.ref a_draft, .int g_lines, .int g_fault, .int g_faultAt, .ref a_tape, .int g_placesTold, .int g_greatestPlace, .int g_next, .int g_kind, .int g_start, .int g_value])), (a_draft, .inr (8, [.int g_draft_places, .ref a_draft_squares])), (a_draft_squares, .inl ((zG Z).2.1 1, 49, .inl g_draft_squares)), (a_tape, .inr (9, [.int g_tape_length, .ref a_tape_bytes])), (a_tape_bytes, .inl ((zG Z).2.1 0, 320, .inl g_tape_bytes))] (k86 g_fault g_faultAt g_greatestPlace g_kind g_lines g_next g_placesTold g_start g_value g_draft_places g_draft_squares)) (x1 : Int32) (g_fault : Int32) (g_faultAt : Int32) (g_greatestPlace : Int32) (g_kind : Int32) (g_lines : Int32) (g_next : Int32) (g_placesTold : Int32) (g_start : Int32) (g_value : Int32) (g_draft_places : Int32) (g_draft_squares : (Nat → Int32)), Rn Z 2 (Option.map enc) 0 0 39 [(0, .ref a_this), (1, .int x1)] [] [(a_this, .inr (4, [.ref a_draft, .int g_lines, .int g_fault, .int g_faultAt, .ref a_tape, .int g_placesTold, .int g_greatestPlace, .int g_next, .int g_kind, .int g_start, .int g_value])), (a_draft, .inr (8, [.int g_draft_places, .ref a_draft_squares])), (a_draft_squares, .inl ((zG Z).2.1 1, 49, .inl g_draft_squares)), (a_tape, .inr (9, [.int g_tape_length, .ref a_tape_bytes])), (a_tape_bytes, .inl ((zG Z).2.1 0, 320, .inl g_tape_bytes))] (X4_readAll_B39 g_tape_length g_tape_bytes again k67 k86 x1 g_fault g_faultAt g_greatestPlace g_kind g_lines g_next g_placesTold g_start g_value g_draft_places g_draft_squares) := by
    intro again k67 k86 hagain hk67 hk86 x1 g_fault g_faultAt g_greatestPlace g_kind g_lines g_next g_placesTold g_start g_value g_draft_places g_draft_squares
    unfold X4_readAll_B39
    refine rn_iload_n hX dX4_readAll_39 1 rfl 40 rfl ?_
    refine rn_sipush hX dX4_readAll_40 43 rfl sp_320 ?_
    refine rn_icmp_ge hX dX4_readAll_43 86 (by decide) 46 rfl ?_ ?_
    · refine rn_sub [0] rfl ?_
      exact hk86 g_fault g_faultAt g_greatestPlace g_kind g_lines g_next g_placesTold g_start g_value g_draft_places g_draft_squares
    refine rn_aload_n hX dX4_readAll_46 0 rfl 47 rfl ?_
    refine rn_bind (fun u2 hu2 => ?_)
    refine rn_callV hX (gV mcC wd_421 wd_423 wd_0 wd_72 wd_424) rfl hdV_X4_readToken rfl rfl ⟨Nat.le_of_ble_eq_true rfl, Nat.le_of_ble_eq_true rfl⟩ (c_X4_readToken (zl Z) (zG Z) a_this a_tape a_tape_bytes a_draft g_lines g_fault g_faultAt g_placesTold g_greatestPlace g_next g_kind g_start g_value g_tape_length g_tape_bytes hu2) rfl [0, 3, 4] rfl rfl rfl (ci := 4) rfl rfl rfl (Nat.le_of_ble_eq_true rfl) dX4_readAll_47 50 rfl (wn := [(a_this, .inr (4, [.ref a_draft, .int g_lines, .int u2.2.1, .int u2.2.2.1, .ref a_tape, .int g_placesTold, .int g_greatestPlace, .int u2.2.2.2.2.1, .int u2.2.2.2.1, .int u2.2.2.2.2.2.1, .int u2.2.2.2.2.2.2])), (a_draft, .inr (8, [.int g_draft_places, .ref a_draft_squares])), (a_draft_squares, .inl ((zG Z).2.1 1, 49, .inl g_draft_squares)), (a_tape, .inr (9, [.int g_tape_length, .ref a_tape_bytes])), (a_tape_bytes, .inl ((zG Z).2.1 0, 320, .inl g_tape_bytes))]) rfl (S' := [.int u2.1]) rfl ⟨Nat.zero_le _, Nat.zero_le _⟩ ?_
    refine rn_if_eq hX dX4_readAll_50 86 (by decide) 53 rfl ?_ ?_
    · refine rn_sub [0] rfl ?_
      exact hk86 u2.2.1 u2.2.2.1 g_greatestPlace u2.2.2.2.1 g_lines u2.2.2.2.2.1 g_placesTold u2.2.2.2.2.2.1 u2.2.2.2.2.2.2 g_draft_places g_draft_squares
    refine rn_aload_n hX dX4_readAll_53 0 rfl 54 rfl ?_
    refine rn_get hX inX4 0 rfl rfl 8 (by decide) fl49 rfl rfl dX4_readAll_54 57 rfl ?_
    refine rn_if_eq hX dX4_readAll_57 86 (by decide) 60 rfl ?_ ?_
    · refine rn_sub [0] rfl ?_
      exact hk86 u2.2.1 u2.2.2.1 g_greatestPlace u2.2.2.2.1 g_lines u2.2.2.2.2.1 g_placesTold u2.2.2.2.2.2.1 u2.2.2.2.2.2.2 g_draft_places g_draft_squares
    refine rn_aload_n hX dX4_readAll_60 0 rfl 61 rfl ?_
    refine rn_bind (fun u3 hu3 => ?_)
    refine rn_callV hX (gV mcC wd_437 wd_439 wd_3 wd_72 wd_440) rfl hdV_X4_readLine rfl rfl ⟨Nat.le_of_ble_eq_true rfl, Nat.le_of_ble_eq_true rfl⟩ (c_X4_readLine (zl Z) (zG Z) a_this a_draft a_draft_squares a_tape a_tape_bytes g_lines u2.2.1 u2.2.2.1 g_placesTold g_greatestPlace u2.2.2.2.2.1 u2.2.2.2.1 u2.2.2.2.2.2.1 u2.2.2.2.2.2.2 g_draft_places g_draft_squares g_tape_length g_tape_bytes hu3) rfl [0, 1, 2, 3, 4] rfl rfl rfl (ci := 4) rfl rfl rfl (Nat.le_of_ble_eq_true rfl) dX4_readAll_61 64 rfl (wn := [(a_this, .inr (4, [.ref a_draft, .int g_lines, .int u3.2.1, .int u3.2.2.1, .ref a_tape, .int u3.2.2.2.2.2.2.1, .int u3.2.2.2.1, .int u3.2.2.2.2.2.1, .int u3.2.2.2.2.1, .int u3.2.2.2.2.2.2.2.1, .int u3.2.2.2.2.2.2.2.2.1])), (a_draft, .inr (8, [.int u3.2.2.2.2.2.2.2.2.2.1, .ref a_draft_squares])), (a_draft_squares, .inl ((zG Z).2.1 1, 49, .inl u3.2.2.2.2.2.2.2.2.2.2)), (a_tape, .inr (9, [.int g_tape_length, .ref a_tape_bytes])), (a_tape_bytes, .inl ((zG Z).2.1 0, 320, .inl g_tape_bytes))]) rfl (S' := [.int u3.1]) rfl ⟨Nat.zero_le _, Nat.zero_le _⟩ ?_
    refine rn_if_ne hX dX4_readAll_64 70 (by decide) 67 rfl ?_ ?_
    · refine rn_aload_n hX dX4_readAll_70 0 rfl 71 rfl ?_
      refine rn_dup hX dX4_readAll_71 72 rfl rfl ?_
      refine rn_get hX inX4 0 rfl rfl 1 (by decide) fl25 rfl rfl dX4_readAll_72 75 rfl ?_
      refine rn_iconst hX dX4_readAll_75 76 rfl ic_1 ?_
      refine rn_iadd hX dX4_readAll_76 77 rfl ?_
      refine rn_lati (fun v4 => ?_)
      refine rn_put hX inX4 tyX4_ok nmX4 0 rfl rfl 1 (by decide) fl25 rfl rfl rfl rfl (Nat.le_of_ble_eq_true rfl) dX4_readAll_77 80 rfl (w1 := [(a_this, .inr (4, [.ref a_draft, .int v4, .int u3.2.1, .int u3.2.2.1, .ref a_tape, .int u3.2.2.2.2.2.2.1, .int u3.2.2.2.1, .int u3.2.2.2.2.2.1, .int u3.2.2.2.2.1, .int u3.2.2.2.2.2.2.2.1, .int u3.2.2.2.2.2.2.2.2.1])), (a_draft, .inr (8, [.int u3.2.2.2.2.2.2.2.2.2.1, .ref a_draft_squares])), (a_draft_squares, .inl ((zG Z).2.1 1, 49, .inl u3.2.2.2.2.2.2.2.2.2.2)), (a_tape, .inr (9, [.int g_tape_length, .ref a_tape_bytes])), (a_tape_bytes, .inl ((zG Z).2.1 0, 320, .inl g_tape_bytes))]) rfl ?_
      refine rn_iinc hX dX4_readAll_80 1 rfl ic_1 (by decide) (L' := fun v5 => [(1, .int v5), (0, .ref a_this)]) (fun _ => rfl) 83 rfl (fun v5 => ?_)
      refine rn_goto hX dX4_readAll_83 39 (by decide) ?_
      refine rn_sub [1, 0] rfl ?_
      exact hagain v5 u3.2.1 u3.2.2.1 u3.2.2.2.1 u3.2.2.2.2.1 v4 u3.2.2.2.2.2.1 u3.2.2.2.2.2.2.1 u3.2.2.2.2.2.2.2.1 u3.2.2.2.2.2.2.2.2.1 u3.2.2.2.2.2.2.2.2.2.1 u3.2.2.2.2.2.2.2.2.2.2
    refine rn_sub [0] rfl ?_
    exact hk67 u3.2.1 u3.2.2.1 u3.2.2.2.1 u3.2.2.2.2.1 g_lines u3.2.2.2.2.2.1 u3.2.2.2.2.2.2.1 u3.2.2.2.2.2.2.2.1 u3.2.2.2.2.2.2.2.2.1 u3.2.2.2.2.2.2.2.2.2.1 u3.2.2.2.2.2.2.2.2.2.2
  have hL39 : ∀ (k67 : Int32 → Int32 → Int32 → Int32 → Int32 → Int32 → Int32 → Int32 → Int32 → Int32 → (Nat → Int32) → Option (Int32 × Int32 × Int32 × Int32 × Int32 × Int32 × Int32 × Int32 × Int32 × Int32 × (Nat → Int32))) (k86 : Int32 → Int32 → Int32 → Int32 → Int32 → Int32 → Int32 → Int32 → Int32 → Int32 → (Nat → Int32) → Option (Int32 × Int32 × Int32 × Int32 × Int32 × Int32 × Int32 × Int32 × Int32 × Int32 × (Nat → Int32))) (hk67 : ∀ (g_fault : Int32) (g_faultAt : Int32) (g_greatestPlace : Int32) (g_kind : Int32) (g_lines : Int32) (g_next : Int32) (g_placesTold : Int32) (g_start : Int32) (g_value : Int32) (g_draft_places : Int32) (g_draft_squares : (Nat → Int32)), Rn Z 2 (Option.map enc) 0 0 67 [(0, .ref a_this)] [] [(a_this, .inr (4, [.ref a_draft, .int g_lines, .int g_fault, .int g_faultAt, .ref a_tape, .int g_placesTold, .int g_greatestPlace, .int g_next, .int g_kind, .int g_start, .int g_value])), (a_draft, .inr (8, [.int g_draft_places, .ref a_draft_squares])), (a_draft_squares, .inl ((zG Z).2.1 1, 49, .inl g_draft_squares)), (a_tape, .inr (9, [.int g_tape_length, .ref a_tape_bytes])), (a_tape_bytes, .inl ((zG Z).2.1 0, 320, .inl g_tape_bytes))] (k67 g_fault g_faultAt g_greatestPlace g_kind g_lines g_next g_placesTold g_start g_value g_draft_places g_draft_squares)) (hk86 : ∀ (g_fault : Int32) (g_faultAt : Int32) (g_greatestPlace : Int32) (g_kind : Int32) (g_lines : Int32) (g_next : Int32) (g_placesTold : Int32) (g_start : Int32) (g_value : Int32) (g_draft_places : Int32) (g_draft_squares : (Nat → Int32)), Rn Z 2 (Option.map enc) 0 0 86 [(0, .ref a_this)] [] [(a_this, .inr (4, [.ref a_draft, .int g_lines, .int g_fault, .int g_faultAt, .ref a_tape, .int g_placesTold, .int g_greatestPlace, .int g_next, .int g_kind, .int g_start, .int g_value])), (a_draft, .inr (8, [.int g_draft_places, .ref a_draft_squares])), (a_draft_squares, .inl ((zG Z).2.1 1, 49, .inl g_draft_squares)), (a_tape, .inr (9, [.int g_tape_length, .ref a_tape_bytes])), (a_tape_bytes, .inl ((zG Z).2.1 0, 320, .inl g_tape_bytes))] (k86 g_fault g_faultAt g_greatestPlace g_kind g_lines g_next g_placesTold g_start g_value g_draft_places g_draft_squares)) (n : Nat) (x1 : Int32) (g_fault : Int32) (g_faultAt : Int32) (g_greatestPlace : Int32) (g_kind : Int32) (g_lines : Int32) (g_next : Int32) (g_placesTold : Int32) (g_start : Int32) (g_value : Int32) (g_draft_places : Int32) (g_draft_squares : (Nat → Int32)), Rn Z 2 (Option.map enc) 0 0 39 [(0, .ref a_this), (1, .int x1)] [] [(a_this, .inr (4, [.ref a_draft, .int g_lines, .int g_fault, .int g_faultAt, .ref a_tape, .int g_placesTold, .int g_greatestPlace, .int g_next, .int g_kind, .int g_start, .int g_value])), (a_draft, .inr (8, [.int g_draft_places, .ref a_draft_squares])), (a_draft_squares, .inl ((zG Z).2.1 1, 49, .inl g_draft_squares)), (a_tape, .inr (9, [.int g_tape_length, .ref a_tape_bytes])), (a_tape_bytes, .inl ((zG Z).2.1 0, 320, .inl g_tape_bytes))] (X4_readAll_L39 g_tape_length g_tape_bytes k67 k86 n x1 g_fault g_faultAt g_greatestPlace g_kind g_lines g_next g_placesTold g_start g_value g_draft_places g_draft_squares) := by
    intro k67 k86 hk67 hk86 n
    induction n with
    | zero => intros; exact rn_none
    | succ n ih => exact hB39 _ _ _ ih hk67 hk86
  unfold X4_readAll
  refine rn_aload_n hX dX4_readAll_0 0 rfl 1 rfl ?_
  refine rn_get hX inX4 0 rfl rfl 0 (by decide) fl18 rfl rfl dX4_readAll_1 4 rfl ?_
  refine rn_bind (fun u6 hu6 => ?_)
  refine rn_callV hX (gV mcC wd_414 wd_415 wd_416 wd_73 wd_417) rfl hdV_X8_reset rfl rfl ⟨Nat.le_of_ble_eq_true rfl, Nat.le_of_ble_eq_true rfl⟩ (c_X8_reset (zl Z) (zG Z) a_draft a_draft_squares g_draft_places g_draft_squares hu6) rfl [1, 2] rfl rfl rfl (ci := 8) rfl rfl rfl (Nat.le_of_ble_eq_true rfl) dX4_readAll_4 7 rfl (wn := [(a_this, .inr (4, [.ref a_draft, .int g_lines, .int g_fault, .int g_faultAt, .ref a_tape, .int g_placesTold, .int g_greatestPlace, .int g_next, .int g_kind, .int g_start, .int g_value])), (a_draft, .inr (8, [.int u6.1, .ref a_draft_squares])), (a_draft_squares, .inl ((zG Z).2.1 1, 49, .inl u6.2)), (a_tape, .inr (9, [.int g_tape_length, .ref a_tape_bytes])), (a_tape_bytes, .inl ((zG Z).2.1 0, 320, .inl g_tape_bytes))]) rfl (S' := []) rfl ⟨Nat.zero_le _, Nat.zero_le _⟩ ?_
  refine rn_aload_n hX dX4_readAll_7 0 rfl 8 rfl ?_
  refine rn_iconst hX dX4_readAll_8 9 rfl ic_0 ?_
  refine rn_put hX inX4 tyX4_ok nmX4 0 rfl rfl 1 (by decide) fl25 rfl rfl rfl rfl (Nat.le_of_ble_eq_true rfl) dX4_readAll_9 12 rfl (w1 := [(a_this, .inr (4, [.ref a_draft, .int (0 : Int32), .int g_fault, .int g_faultAt, .ref a_tape, .int g_placesTold, .int g_greatestPlace, .int g_next, .int g_kind, .int g_start, .int g_value])), (a_draft, .inr (8, [.int u6.1, .ref a_draft_squares])), (a_draft_squares, .inl ((zG Z).2.1 1, 49, .inl u6.2)), (a_tape, .inr (9, [.int g_tape_length, .ref a_tape_bytes])), (a_tape_bytes, .inl ((zG Z).2.1 0, 320, .inl g_tape_bytes))]) rfl ?_
  refine rn_aload_n hX dX4_readAll_12 0 rfl 13 rfl ?_
  refine rn_iconst hX dX4_readAll_13 14 rfl ic_0 ?_
  refine rn_put hX inX4 tyX4_ok nmX4 0 rfl rfl 2 (by decide) fl29 rfl rfl rfl rfl (Nat.le_of_ble_eq_true rfl) dX4_readAll_14 17 rfl (w1 := [(a_this, .inr (4, [.ref a_draft, .int (0 : Int32), .int (0 : Int32), .int g_faultAt, .ref a_tape, .int g_placesTold, .int g_greatestPlace, .int g_next, .int g_kind, .int g_start, .int g_value])), (a_draft, .inr (8, [.int u6.1, .ref a_draft_squares])), (a_draft_squares, .inl ((zG Z).2.1 1, 49, .inl u6.2)), (a_tape, .inr (9, [.int g_tape_length, .ref a_tape_bytes])), (a_tape_bytes, .inl ((zG Z).2.1 0, 320, .inl g_tape_bytes))]) rfl ?_
  refine rn_aload_n hX dX4_readAll_17 0 rfl 18 rfl ?_
  refine rn_iconst hX dX4_readAll_18 19 rfl ic_0 ?_
  refine rn_put hX inX4 tyX4_ok nmX4 0 rfl rfl 3 (by decide) fl32 rfl rfl rfl rfl (Nat.le_of_ble_eq_true rfl) dX4_readAll_19 22 rfl (w1 := [(a_this, .inr (4, [.ref a_draft, .int (0 : Int32), .int (0 : Int32), .int (0 : Int32), .ref a_tape, .int g_placesTold, .int g_greatestPlace, .int g_next, .int g_kind, .int g_start, .int g_value])), (a_draft, .inr (8, [.int u6.1, .ref a_draft_squares])), (a_draft_squares, .inl ((zG Z).2.1 1, 49, .inl u6.2)), (a_tape, .inr (9, [.int g_tape_length, .ref a_tape_bytes])), (a_tape_bytes, .inl ((zG Z).2.1 0, 320, .inl g_tape_bytes))]) rfl ?_
  refine rn_aload_n hX dX4_readAll_22 0 rfl 23 rfl ?_
  refine rn_iconst hX dX4_readAll_23 24 rfl ic_0 ?_
  refine rn_put hX inX4 tyX4_ok nmX4 0 rfl rfl 5 (by decide) fl35 rfl rfl rfl rfl (Nat.le_of_ble_eq_true rfl) dX4_readAll_24 27 rfl (w1 := [(a_this, .inr (4, [.ref a_draft, .int (0 : Int32), .int (0 : Int32), .int (0 : Int32), .ref a_tape, .int (0 : Int32), .int g_greatestPlace, .int g_next, .int g_kind, .int g_start, .int g_value])), (a_draft, .inr (8, [.int u6.1, .ref a_draft_squares])), (a_draft_squares, .inl ((zG Z).2.1 1, 49, .inl u6.2)), (a_tape, .inr (9, [.int g_tape_length, .ref a_tape_bytes])), (a_tape_bytes, .inl ((zG Z).2.1 0, 320, .inl g_tape_bytes))]) rfl ?_
  refine rn_aload_n hX dX4_readAll_27 0 rfl 28 rfl ?_
  refine rn_iconst hX dX4_readAll_28 29 rfl ic_0 ?_
  refine rn_put hX inX4 tyX4_ok nmX4 0 rfl rfl 6 (by decide) fl39 rfl rfl rfl rfl (Nat.le_of_ble_eq_true rfl) dX4_readAll_29 32 rfl (w1 := [(a_this, .inr (4, [.ref a_draft, .int (0 : Int32), .int (0 : Int32), .int (0 : Int32), .ref a_tape, .int (0 : Int32), .int (0 : Int32), .int g_next, .int g_kind, .int g_start, .int g_value])), (a_draft, .inr (8, [.int u6.1, .ref a_draft_squares])), (a_draft_squares, .inl ((zG Z).2.1 1, 49, .inl u6.2)), (a_tape, .inr (9, [.int g_tape_length, .ref a_tape_bytes])), (a_tape_bytes, .inl ((zG Z).2.1 0, 320, .inl g_tape_bytes))]) rfl ?_
  refine rn_aload_n hX dX4_readAll_32 0 rfl 33 rfl ?_
  refine rn_iconst hX dX4_readAll_33 34 rfl ic_0 ?_
  refine rn_put hX inX4 tyX4_ok nmX4 0 rfl rfl 7 (by decide) fl42 rfl rfl rfl rfl (Nat.le_of_ble_eq_true rfl) dX4_readAll_34 37 rfl (w1 := [(a_this, .inr (4, [.ref a_draft, .int (0 : Int32), .int (0 : Int32), .int (0 : Int32), .ref a_tape, .int (0 : Int32), .int (0 : Int32), .int (0 : Int32), .int g_kind, .int g_start, .int g_value])), (a_draft, .inr (8, [.int u6.1, .ref a_draft_squares])), (a_draft_squares, .inl ((zG Z).2.1 1, 49, .inl u6.2)), (a_tape, .inr (9, [.int g_tape_length, .ref a_tape_bytes])), (a_tape_bytes, .inl ((zG Z).2.1 0, 320, .inl g_tape_bytes))]) rfl ?_
  refine rn_iconst hX dX4_readAll_37 38 rfl ic_0 ?_
  refine rn_istore_n hX dX4_readAll_38 1 rfl (by decide) (L' := [(1, .int (0 : Int32)), (0, .ref a_this)]) rfl 39 rfl ?_
  refine rn_sub [1, 0] rfl ?_
  exact (hL39 _ _ hJ67 hJ86 1000) (0 : Int32) (0 : Int32) (0 : Int32) (0 : Int32) g_kind (0 : Int32) (0 : Int32) (0 : Int32) g_start g_value u6.1 u6.2
abbrev rmX5_copyFrom : Room := { frames := 1, cells := 0, slots := 0, locals := 60 }
theorem hdV_X5_copyFrom : yX5_copyFrom.cls = RX5 ∧ yX5_copyFrom.cls ≠ "java/lang/invoke/MethodHandle" ∧ yX5_copyFrom.cls ≠ "java/lang/invoke/VarHandle" ∧ (parseMethodDescriptor yX5_copyFrom.desc).map (fun d => d.parameters.length) = some 1 := by decide +kernel
set_option maxHeartbeats 4000000 in
set_option maxRecDepth 100000 in
theorem c_X5_copyFrom (l : Launch) (G : GT) (a_this a_lengths a_p0 a_p0_lengths : Nat) (g_parts : Int32) (g_lengths : (Nat → Int32)) (g_p0_parts : Int32) (g_p0_lengths : (Nat → Int32)) {u : Int32 × (Nat → Int32)} (hu : X5_copyFrom g_parts g_lengths g_p0_parts g_p0_lengths = u) : Ctr l G yX5_copyFrom wsX5_copyFrom rmX5_copyFrom [.ref a_this, .ref a_p0] [(a_this, .inr (5, [.int g_parts, .ref a_lengths])), (a_lengths, .inl (G.2.1 1, 8, .inl g_lengths)), (a_p0, .inr (5, [.int g_p0_parts, .ref a_p0_lengths])), (a_p0_lengths, .inl (G.2.1 1, 8, .inl g_p0_lengths))] none [(a_this, .inr (5, [.int u.1, .ref a_lengths])), (a_lengths, .inl (G.2.1 1, 8, .inl u.2)), (a_p0, .inr (5, [.int g_p0_parts, .ref a_p0_lengths])), (a_p0_lengths, .inl (G.2.1 1, 8, .inl g_p0_lengths))] := by
  obtain ⟨enc, henc⟩ : ∃ enc : (Int32 × (Nat → Int32)) → Option Value × va_W, enc = fun u => ((none : Option Value), ([(a_this, .inr (5, [.int u.1, .ref a_lengths])), (a_lengths, .inl (G.2.1 1, 8, .inl u.2)), (a_p0, .inr (5, [.int g_p0_parts, .ref a_p0_lengths])), (a_p0_lengths, .inl (G.2.1 1, 8, .inl g_p0_lengths))] : va_W)) := ⟨_, rfl⟩
  refine ctr_of (cc := cX5_copyFrom) (own := RX5) (E := fun o => some (enc o)) (o := X5_copyFrom g_parts g_lengths g_p0_parts g_p0_lengths) (by decide) rfl rfl (L := [(0, .ref a_this), (1, .ref a_p0)]) rfl (Nat.le_of_ble_eq_true rfl) (by rw [hu, henc]) ?_
  intro Z hX hl hG hr
  subst hl; subst hG
  have copyN : (Cond.native arraycopyName).before (za Z) (zs Z) = true := hX.wd (mcC _ wd_528)
  have copyS : (Cond.static arraycopyName).before (za Z) (zs Z) = true := hX.wd (mcC _ wd_527)
  have copyI : (Cond.initialized "java/lang/System").before (za Z) (zs Z) = true := hX.wd (mcC _ wd_88)
  have fl15 : (Cond.fieldLink RX5 15 "OnlyFar$Road" "lengths" "[I").before (za Z) (zs Z) = true := hX.wd (mcC _ wd_189)
  have fl9 : (Cond.fieldLink RX5 9 "OnlyFar$Road" "parts" "I").before (za Z) (zs Z) = true := hX.wd (mcC _ wd_187)
  have ml19 : (Cond.methodLink RX5 19 arraycopyName).before (za Z) (zs Z) = true := hX.wd (mcC _ wd_922)
  have inX5 : ∀ w ∈ u_ws RX5 TX5 2, w ∈ wsX5_copyFrom := fun w h => mcC w (inC_X5 w h)
  unfold X5_copyFrom
  refine rn_aload_n hX dX5_copyFrom_0 0 rfl 1 rfl ?_
  refine rn_aload_n hX dX5_copyFrom_1 1 rfl 2 rfl ?_
  refine rn_get hX inX5 2 rfl rfl 0 (by decide) fl9 rfl rfl dX5_copyFrom_2 5 rfl ?_
  refine rn_put hX inX5 tyX5_ok nmX5 0 rfl rfl 0 (by decide) fl9 rfl rfl rfl rfl (Nat.le_of_ble_eq_true rfl) dX5_copyFrom_5 8 rfl (w1 := [(a_this, .inr (5, [.int g_p0_parts, .ref a_lengths])), (a_lengths, .inl ((zG Z).2.1 1, 8, .inl g_lengths)), (a_p0, .inr (5, [.int g_p0_parts, .ref a_p0_lengths])), (a_p0_lengths, .inl ((zG Z).2.1 1, 8, .inl g_p0_lengths))]) rfl ?_
  refine rn_aload_n hX dX5_copyFrom_8 1 rfl 9 rfl ?_
  refine rn_get hX inX5 2 rfl rfl 1 (by decide) fl15 rfl rfl dX5_copyFrom_9 12 rfl ?_
  refine rn_iconst hX dX5_copyFrom_12 13 rfl ic_0 ?_
  refine rn_aload_n hX dX5_copyFrom_13 0 rfl 14 rfl ?_
  refine rn_get hX inX5 0 rfl rfl 1 (by decide) fl15 rfl rfl dX5_copyFrom_14 17 rfl ?_
  refine rn_iconst hX dX5_copyFrom_17 18 rfl ic_0 ?_
  refine rn_bipush hX dX5_copyFrom_18 20 rfl bp_8 ?_
  refine rn_copyi hX ml19 copyN copyS copyI 3 1 rfl rfl (by decide) (by decide) (by decide) (by decide) (by decide) (Nat.le_of_ble_eq_true rfl) (Nat.le_of_ble_eq_true rfl) dX5_copyFrom_20 23 rfl (w1 := fun m1 => [(a_this, .inr (5, [.int g_p0_parts, .ref a_lengths])), (a_lengths, .inl ((zG Z).2.1 1, 8, .inl m1)), (a_p0, .inr (5, [.int g_p0_parts, .ref a_p0_lengths])), (a_p0_lengths, .inl ((zG Z).2.1 1, 8, .inl g_p0_lengths))]) (fun _ => rfl) (fun m1 => ?_)
  exact rn_vret hX hr (by rw [henc]) dX5_copyFrom_23
abbrev rmX5_add : Room := { frames := 0, cells := 0, slots := 0, locals := 0 }
theorem hdV_X5_add : yX5_add.cls = RX5 ∧ yX5_add.cls ≠ "java/lang/invoke/MethodHandle" ∧ yX5_add.cls ≠ "java/lang/invoke/VarHandle" ∧ (parseMethodDescriptor yX5_add.desc).map (fun d => d.parameters.length) = some 1 := by decide +kernel
set_option maxHeartbeats 4000000 in
set_option maxRecDepth 100000 in
theorem c_X5_add (l : Launch) (G : GT) (a_this a_lengths : Nat) (g_parts : Int32) (g_lengths : (Nat → Int32)) (x1 : Int32) {u : Int32 × Int32 × (Nat → Int32)} (hu : X5_add x1 g_parts g_lengths = some u) : Ctr l G yX5_add wsX5_add rmX5_add [.ref a_this, .int x1] [(a_this, .inr (5, [.int g_parts, .ref a_lengths])), (a_lengths, .inl (G.2.1 1, 8, .inl g_lengths))] (some (.int u.1)) [(a_this, .inr (5, [.int u.2.1, .ref a_lengths])), (a_lengths, .inl (G.2.1 1, 8, .inl u.2.2))] := by
  obtain ⟨enc, henc⟩ : ∃ enc : (Int32 × Int32 × (Nat → Int32)) → Option Value × va_W, enc = fun u => (((some (.int u.1)) : Option Value), ([(a_this, .inr (5, [.int u.2.1, .ref a_lengths])), (a_lengths, .inl (G.2.1 1, 8, .inl u.2.2))] : va_W)) := ⟨_, rfl⟩
  refine ctr_of (cc := cX5_add) (own := RX5) (E := Option.map enc) (o := X5_add x1 g_parts g_lengths) (by decide) rfl rfl (L := [(0, .ref a_this), (1, .int x1)]) rfl (Nat.le_of_ble_eq_true rfl) (by rw [hu, henc]; rfl) ?_
  intro Z hX hl hG hr
  subst hl; subst hG
  have fl15 : (Cond.fieldLink RX5 15 "OnlyFar$Road" "lengths" "[I").before (za Z) (zs Z) = true := hX.wd (mcC _ wd_189)
  have fl9 : (Cond.fieldLink RX5 9 "OnlyFar$Road" "parts" "I").before (za Z) (zs Z) = true := hX.wd (mcC _ wd_187)
  have inX5 : ∀ w ∈ u_ws RX5 TX5 2, w ∈ wsX5_add := fun w h => mcC w (inC_X5 w h)
  unfold X5_add
  refine rn_aload_n hX dX5_add_0 0 rfl 1 rfl ?_
  refine rn_get hX inX5 0 rfl rfl 0 (by decide) fl9 rfl rfl dX5_add_1 4 rfl ?_
  refine rn_if_lt hX dX5_add_4 16 (by decide) 7 rfl ?_ ?_
  · refine rn_iconst hX dX5_add_16 17 rfl ic_0 ?_
    exact rn_zret hX rfl hr (by rw [henc]; rfl) dX5_add_17
  refine rn_aload_n hX dX5_add_7 0 rfl 8 rfl ?_
  refine rn_get hX inX5 0 rfl rfl 0 (by decide) fl9 rfl rfl dX5_add_8 11 rfl ?_
  refine rn_bipush hX dX5_add_11 13 rfl bp_8 ?_
  refine rn_icmp_lt hX dX5_add_13 18 (by decide) 16 rfl ?_ ?_
  · refine rn_aload_n hX dX5_add_18 0 rfl 19 rfl ?_
    refine rn_get hX inX5 0 rfl rfl 1 (by decide) fl15 rfl rfl dX5_add_19 22 rfl ?_
    refine rn_aload_n hX dX5_add_22 0 rfl 23 rfl ?_
    refine rn_get hX inX5 0 rfl rfl 0 (by decide) fl9 rfl rfl dX5_add_23 26 rfl ?_
    refine rn_iload_n hX dX5_add_26 1 rfl 27 rfl ?_
    refine rn_gd (fun hi1 => ?_)
    refine rn_iast hX 1 rfl hi1 dX5_add_27 28 rfl (w1 := fun m2 => [(a_this, .inr (5, [.int g_parts, .ref a_lengths])), (a_lengths, .inl ((zG Z).2.1 1, 8, .inl m2))]) (fun _ => rfl) (fun m2 => ?_)
    refine rn_aload_n hX dX5_add_28 0 rfl 29 rfl ?_
    refine rn_dup hX dX5_add_29 30 rfl rfl ?_
    refine rn_get hX inX5 0 rfl rfl 0 (by decide) fl9 rfl rfl dX5_add_30 33 rfl ?_
    refine rn_iconst hX dX5_add_33 34 rfl ic_1 ?_
    refine rn_iadd hX dX5_add_34 35 rfl ?_
    refine rn_lati (fun v3 => ?_)
    refine rn_put hX inX5 tyX5_ok nmX5 0 rfl rfl 0 (by decide) fl9 rfl rfl rfl rfl (Nat.le_of_ble_eq_true rfl) dX5_add_35 38 rfl (w1 := [(a_this, .inr (5, [.int v3, .ref a_lengths])), (a_lengths, .inl ((zG Z).2.1 1, 8, .inl m2))]) rfl ?_
    refine rn_iconst hX dX5_add_38 39 rfl ic_1 ?_
    exact rn_zret hX rfl hr (by rw [henc]; rfl) dX5_add_39
  refine rn_iconst hX dX5_add_16 17 rfl ic_0 ?_
  exact rn_zret hX rfl hr (by rw [henc]; rfl) dX5_add_17
abbrev rmX5_farthest : Room := { frames := 0, cells := 0, slots := 0, locals := 0 }
theorem hdV_X5_farthest : yX5_farthest.cls = RX5 ∧ yX5_farthest.cls ≠ "java/lang/invoke/MethodHandle" ∧ yX5_farthest.cls ≠ "java/lang/invoke/VarHandle" ∧ (parseMethodDescriptor yX5_farthest.desc).map (fun d => d.parameters.length) = some 0 := by decide +kernel
set_option maxHeartbeats 4000000 in
set_option maxRecDepth 100000 in
theorem c_X5_farthest (l : Launch) (G : GT) (a_this a_lengths : Nat) (g_parts : Int32) (g_lengths : (Nat → Int32)) {u : Int32} (hu : X5_farthest g_parts g_lengths = some u) : Ctr l G yX5_farthest wsX5_farthest rmX5_farthest [.ref a_this] [(a_this, .inr (5, [.int g_parts, .ref a_lengths])), (a_lengths, .inl (G.2.1 1, 8, .inl g_lengths))] (some (.int u)) [(a_this, .inr (5, [.int g_parts, .ref a_lengths])), (a_lengths, .inl (G.2.1 1, 8, .inl g_lengths))] := by
  obtain ⟨enc, henc⟩ : ∃ enc : (Int32) → Option Value × va_W, enc = fun u => (((some (.int u)) : Option Value), ([(a_this, .inr (5, [.int g_parts, .ref a_lengths])), (a_lengths, .inl (G.2.1 1, 8, .inl g_lengths))] : va_W)) := ⟨_, rfl⟩
  refine ctr_of (cc := cX5_farthest) (own := RX5) (E := Option.map enc) (o := X5_farthest g_parts g_lengths) (by decide) rfl rfl (L := [(0, .ref a_this)]) rfl (Nat.le_of_ble_eq_true rfl) (by rw [hu, henc]; rfl) ?_
  intro Z hX hl hG hr
  subst hl; subst hG
  have fl15 : (Cond.fieldLink RX5 15 "OnlyFar$Road" "lengths" "[I").before (za Z) (zs Z) = true := hX.wd (mcC _ wd_189)
  have fl9 : (Cond.fieldLink RX5 9 "OnlyFar$Road" "parts" "I").before (za Z) (zs Z) = true := hX.wd (mcC _ wd_187)
  have inX5 : ∀ w ∈ u_ws RX5 TX5 2, w ∈ wsX5_farthest := fun w h => mcC w (inC_X5 w h)
  have hB4 : ∀ (again : Int32 → Int32 → Option (Int32)) (hagain : ∀ (x1 : Int32) (x2 : Int32), Rn Z 3 (Option.map enc) 0 0 4 [(0, .ref a_this), (1, .int x1), (2, .int x2)] [] [(a_this, .inr (5, [.int g_parts, .ref a_lengths])), (a_lengths, .inl ((zG Z).2.1 1, 8, .inl g_lengths))] (again x1 x2)) (x1 : Int32) (x2 : Int32), Rn Z 3 (Option.map enc) 0 0 4 [(0, .ref a_this), (1, .int x1), (2, .int x2)] [] [(a_this, .inr (5, [.int g_parts, .ref a_lengths])), (a_lengths, .inl ((zG Z).2.1 1, 8, .inl g_lengths))] (X5_farthest_B4 g_parts g_lengths again x1 x2) := by
    intro again hagain x1 x2
    unfold X5_farthest_B4
    refine rn_iload_n hX dX5_farthest_4 2 rfl 5 rfl ?_
    refine rn_aload_n hX dX5_farthest_5 0 rfl 6 rfl ?_
    refine rn_get hX inX5 0 rfl rfl 0 (by decide) fl9 rfl rfl dX5_farthest_6 9 rfl ?_
    refine rn_icmp_ge hX dX5_farthest_9 33 (by decide) 12 rfl ?_ ?_
    · refine rn_iload_n hX dX5_farthest_33 1 rfl 34 rfl ?_
      exact rn_iret hX hr (by rw [henc]; rfl) dX5_farthest_34
    refine rn_iload_n hX dX5_farthest_12 2 rfl 13 rfl ?_
    refine rn_bipush hX dX5_farthest_13 15 rfl bp_8 ?_
    refine rn_icmp_ge hX dX5_farthest_15 33 (by decide) 18 rfl ?_ ?_
    · refine rn_iload_n hX dX5_farthest_33 1 rfl 34 rfl ?_
      exact rn_iret hX hr (by rw [henc]; rfl) dX5_farthest_34
    refine rn_iload_n hX dX5_farthest_18 1 rfl 19 rfl ?_
    refine rn_aload_n hX dX5_farthest_19 0 rfl 20 rfl ?_
    refine rn_get hX inX5 0 rfl rfl 1 (by decide) fl15 rfl rfl dX5_farthest_20 23 rfl ?_
    refine rn_iload_n hX dX5_farthest_23 2 rfl 24 rfl ?_
    refine rn_gd (fun hi1 => ?_)
    refine rn_iald hX 1 rfl hi1 dX5_farthest_24 25 rfl ?_
    refine rn_iadd hX dX5_farthest_25 26 rfl ?_
    refine rn_lati (fun v2 => ?_)
    refine rn_istore_n hX dX5_farthest_26 1 rfl (by decide) (L' := [(1, .int v2), (0, .ref a_this), (2, .int x2)]) rfl 27 rfl ?_
    refine rn_iinc hX dX5_farthest_27 2 rfl ic_1 (by decide) (L' := fun v3 => [(2, .int v3), (1, .int v2), (0, .ref a_this)]) (fun _ => rfl) 30 rfl (fun v3 => ?_)
    refine rn_goto hX dX5_farthest_30 4 (by decide) ?_
    refine rn_sub [2, 1, 0] rfl ?_
    exact hagain v2 v3
  have hL4 : ∀ (n : Nat) (x1 : Int32) (x2 : Int32), Rn Z 3 (Option.map enc) 0 0 4 [(0, .ref a_this), (1, .int x1), (2, .int x2)] [] [(a_this, .inr (5, [.int g_parts, .ref a_lengths])), (a_lengths, .inl ((zG Z).2.1 1, 8, .inl g_lengths))] (X5_farthest_L4 g_parts g_lengths n x1 x2) := by
    intro n
    induction n with
    | zero => intros; exact rn_none
    | succ n ih => exact hB4 _ ih
  unfold X5_farthest
  refine rn_iconst hX dX5_farthest_0 1 rfl ic_0 ?_
  refine rn_istore_n hX dX5_farthest_1 1 rfl (by decide) (L' := [(1, .int (0 : Int32)), (0, .ref a_this)]) rfl 2 rfl ?_
  refine rn_iconst hX dX5_farthest_2 3 rfl ic_0 ?_
  refine rn_istore_n hX dX5_farthest_3 2 rfl (by decide) (L' := [(2, .int (0 : Int32)), (1, .int (0 : Int32)), (0, .ref a_this)]) rfl 4 rfl ?_
  refine rn_sub [2, 1, 0] rfl ?_
  exact (hL4  1000) (0 : Int32) (0 : Int32)
abbrev rmX5_nearest : Room := { frames := 1, cells := 0, slots := 0, locals := 22 }
theorem hdV_X5_nearest : yX5_nearest.cls = RX5 ∧ yX5_nearest.cls ≠ "java/lang/invoke/MethodHandle" ∧ yX5_nearest.cls ≠ "java/lang/invoke/VarHandle" ∧ (parseMethodDescriptor yX5_nearest.desc).map (fun d => d.parameters.length) = some 0 := by decide +kernel
set_option maxHeartbeats 4000000 in
set_option maxRecDepth 100000 in
theorem c_X5_nearest (l : Launch) (G : GT) (a_this a_lengths : Nat) (g_parts : Int32) (g_lengths : (Nat → Int32)) {u : Int32} (hu : X5_nearest g_parts g_lengths = some u) : Ctr l G yX5_nearest wsX5_nearest rmX5_nearest [.ref a_this] [(a_this, .inr (5, [.int g_parts, .ref a_lengths])), (a_lengths, .inl (G.2.1 1, 8, .inl g_lengths))] (some (.int u)) [(a_this, .inr (5, [.int g_parts, .ref a_lengths])), (a_lengths, .inl (G.2.1 1, 8, .inl g_lengths))] := by
  obtain ⟨enc, henc⟩ : ∃ enc : (Int32) → Option Value × va_W, enc = fun u => (((some (.int u)) : Option Value), ([(a_this, .inr (5, [.int g_parts, .ref a_lengths])), (a_lengths, .inl (G.2.1 1, 8, .inl g_lengths))] : va_W)) := ⟨_, rfl⟩
  refine ctr_of (cc := cX5_nearest) (own := RX5) (E := Option.map enc) (o := X5_nearest g_parts g_lengths) (by decide) rfl rfl (L := [(0, .ref a_this)]) rfl (Nat.le_of_ble_eq_true rfl) (by rw [hu, henc]; rfl) ?_
  intro Z hX hl hG hr
  subst hl; subst hG
  have fl15 : (Cond.fieldLink RX5 15 "OnlyFar$Road" "lengths" "[I").before (za Z) (zs Z) = true := hX.wd (mcC _ wd_189)
  have fl9 : (Cond.fieldLink RX5 9 "OnlyFar$Road" "parts" "I").before (za Z) (zs Z) = true := hX.wd (mcC _ wd_187)
  have mathmaxS : (Cond.static Lib.Math.max.name).before (za Z) (zs Z) = true := hX.wd (mcC _ wd_520)
  have mathmaxI : (Cond.initialized "java/lang/Math").before (za Z) (zs Z) = true := hX.wd (mcC _ wd_87)
  have mathmaxC : (Cond.code Lib.Math.max.name Lib.Math.max.code 2 (some .int)).before (za Z) (zs Z) = true := hX.wd (mcC _ wd_521)
  have ml25 : (Cond.methodLink RX5 25 Lib.Math.max.name).before (za Z) (zs Z) = true := hX.wd (mcC _ wd_904)
  have inX5 : ∀ w ∈ u_ws RX5 TX5 2, w ∈ wsX5_nearest := fun w h => mcC w (inC_X5 w h)
  have hJ35 : ∀ (x1 : Int32), Rn Z 3 (Option.map enc) 0 0 35 [(0, .ref a_this), (1, .int x1)] [] [(a_this, .inr (5, [.int g_parts, .ref a_lengths])), (a_lengths, .inl ((zG Z).2.1 1, 8, .inl g_lengths))] (X5_nearest_J35 g_parts g_lengths x1) := by
    intro x1
    unfold X5_nearest_J35
    refine rn_iconst hX dX5_nearest_35 36 rfl ic_0 ?_
    refine rn_iconst hX dX5_nearest_36 37 rfl ic_2 ?_
    refine rn_iload_n hX dX5_nearest_37 1 rfl 38 rfl ?_
    refine rn_imul hX dX5_nearest_38 39 rfl ?_
    refine rn_aload_n hX dX5_nearest_39 0 rfl 40 rfl ?_
    refine rn_bind (fun u1 hu1 => ?_)
    refine rn_callV0 hX (gV mcC wd_905 wd_906 wd_907 wd_74 wd_908) rfl hdV_X5_farthest rfl rfl ⟨Nat.le_of_ble_eq_true rfl, Nat.le_of_ble_eq_true rfl⟩ (c_X5_farthest (zl Z) (zG Z) a_this a_lengths g_parts g_lengths hu1) rfl [0, 1] rfl rfl (ci := 5) rfl rfl rfl (Nat.le_of_ble_eq_true rfl) dX5_nearest_40 43 rfl (S' := [.int u1, .int ((2 : Int32) * x1), .int (0 : Int32)]) rfl ⟨Nat.zero_le _, Nat.zero_le _⟩ ?_
    refine rn_isub hX dX5_nearest_43 44 rfl ?_
    refine rn_mmax hX ml25 mathmaxS mathmaxI mathmaxC (Nat.le_of_ble_eq_true rfl) (Nat.le_of_ble_eq_true rfl) ⟨Nat.zero_le _, Nat.zero_le _⟩ dX5_nearest_44 47 rfl ?_
    exact rn_iret hX hr (by rw [henc]; rfl) dX5_nearest_47
  have hB4 : ∀ (again : Int32 → Int32 → Option (Int32)) (k35 : Int32 → Option (Int32)) (hagain : ∀ (x1 : Int32) (x2 : Int32), Rn Z 3 (Option.map enc) 0 0 4 [(0, .ref a_this), (1, .int x1), (2, .int x2)] [] [(a_this, .inr (5, [.int g_parts, .ref a_lengths])), (a_lengths, .inl ((zG Z).2.1 1, 8, .inl g_lengths))] (again x1 x2)) (hk35 : ∀ (x1 : Int32), Rn Z 3 (Option.map enc) 0 0 35 [(0, .ref a_this), (1, .int x1)] [] [(a_this, .inr (5, [.int g_parts, .ref a_lengths])), (a_lengths, .inl ((zG Z).2.1 1, 8, .inl g_lengths))] (k35 x1)) (x1 : Int32) (x2 : Int32), Rn Z 3 (Option.map enc) 0 0 4 [(0, .ref a_this), (1, .int x1), (2, .int x2)] [] [(a_this, .inr (5, [.int g_parts, .ref a_lengths])), (a_lengths, .inl ((zG Z).2.1 1, 8, .inl g_lengths))] (X5_nearest_B4 g_parts g_lengths again k35 x1 x2) := by
    intro again k35 hagain hk35 x1 x2
    unfold X5_nearest_B4
    refine rn_iload_n hX dX5_nearest_4 2 rfl 5 rfl ?_
    refine rn_aload_n hX dX5_nearest_5 0 rfl 6 rfl ?_
    refine rn_get hX inX5 0 rfl rfl 0 (by decide) fl9 rfl rfl dX5_nearest_6 9 rfl ?_
    refine rn_icmp_ge hX dX5_nearest_9 35 (by decide) 12 rfl ?_ ?_
    · refine rn_sub [0, 1] rfl ?_
      exact hk35 x1
    refine rn_iload_n hX dX5_nearest_12 2 rfl 13 rfl ?_
    refine rn_bipush hX dX5_nearest_13 15 rfl bp_8 ?_
    refine rn_icmp_ge hX dX5_nearest_15 35 (by decide) 18 rfl ?_ ?_
    · refine rn_sub [0, 1] rfl ?_
      exact hk35 x1
    refine rn_iload_n hX dX5_nearest_18 1 rfl 19 rfl ?_
    refine rn_aload_n hX dX5_nearest_19 0 rfl 20 rfl ?_
    refine rn_get hX inX5 0 rfl rfl 1 (by decide) fl15 rfl rfl dX5_nearest_20 23 rfl ?_
    refine rn_iload_n hX dX5_nearest_23 2 rfl 24 rfl ?_
    refine rn_gd (fun hi2 => ?_)
    refine rn_iald hX 1 rfl hi2 dX5_nearest_24 25 rfl ?_
    refine rn_mmax hX ml25 mathmaxS mathmaxI mathmaxC (Nat.le_of_ble_eq_true rfl) (Nat.le_of_ble_eq_true rfl) ⟨Nat.zero_le _, Nat.zero_le _⟩ dX5_nearest_25 28 rfl ?_
    refine rn_lati (fun v3 => ?_)
    refine rn_istore_n hX dX5_nearest_28 1 rfl (by decide) (L' := [(1, .int v3), (0, .ref a_this), (2, .int x2)]) rfl 29 rfl ?_
    refine rn_iinc hX dX5_nearest_29 2 rfl ic_1 (by decide) (L' := fun v4 => [(2, .int v4), (1, .int v3), (0, .ref a_this)]) (fun _ => rfl) 32 rfl (fun v4 => ?_)
    refine rn_goto hX dX5_nearest_32 4 (by decide) ?_
    refine rn_sub [2, 1, 0] rfl ?_
    exact hagain v3 v4
  have hL4 : ∀ (k35 : Int32 → Option (Int32)) (hk35 : ∀ (x1 : Int32), Rn Z 3 (Option.map enc) 0 0 35 [(0, .ref a_this), (1, .int x1)] [] [(a_this, .inr (5, [.int g_parts, .ref a_lengths])), (a_lengths, .inl ((zG Z).2.1 1, 8, .inl g_lengths))] (k35 x1)) (n : Nat) (x1 : Int32) (x2 : Int32), Rn Z 3 (Option.map enc) 0 0 4 [(0, .ref a_this), (1, .int x1), (2, .int x2)] [] [(a_this, .inr (5, [.int g_parts, .ref a_lengths])), (a_lengths, .inl ((zG Z).2.1 1, 8, .inl g_lengths))] (X5_nearest_L4 g_parts g_lengths k35 n x1 x2) := by
    intro k35 hk35 n
    induction n with
    | zero => intros; exact rn_none
    | succ n ih => exact hB4 _ _ ih hk35
  unfold X5_nearest
  refine rn_iconst hX dX5_nearest_0 1 rfl ic_0 ?_
  refine rn_istore_n hX dX5_nearest_1 1 rfl (by decide) (L' := [(1, .int (0 : Int32)), (0, .ref a_this)]) rfl 2 rfl ?_
  refine rn_iconst hX dX5_nearest_2 3 rfl ic_0 ?_
  refine rn_istore_n hX dX5_nearest_3 2 rfl (by decide) (L' := [(2, .int (0 : Int32)), (1, .int (0 : Int32)), (0, .ref a_this)]) rfl 4 rfl ?_
  refine rn_sub [2, 1, 0] rfl ?_
  exact (hL4 _ hJ35 1000) (0 : Int32) (0 : Int32)
abbrev rmX6_renew : Room := { frames := 1, cells := 0, slots := 0, locals := 23 }
theorem hdV_X6_renew : yX6_renew.cls = RX6 ∧ yX6_renew.cls ≠ "java/lang/invoke/MethodHandle" ∧ yX6_renew.cls ≠ "java/lang/invoke/VarHandle" ∧ (parseMethodDescriptor yX6_renew.desc).map (fun d => d.parameters.length) = some 2 := by decide +kernel
set_option maxHeartbeats 4000000 in
set_option maxRecDepth 100000 in
theorem c_X6_renew (l : Launch) (G : GT) (a_this a_cells : Nat) (g_lane : Int32) (g_size : Int32) (g_cells : (Nat → Int32)) (x1 : Int32) (x2 : Int32) {u : Int32 × Int32 × (Nat → Int32)} (hu : X6_renew x1 x2 g_lane g_size g_cells = some u) : Ctr l G yX6_renew wsX6_renew rmX6_renew [.ref a_this, .int x1, .int x2] [(a_this, .inr (6, [.int g_lane, .int g_size, .ref a_cells])), (a_cells, .inl (G.2.1 1, 40, .inl g_cells))] none [(a_this, .inr (6, [.int u.1, .int u.2.1, .ref a_cells])), (a_cells, .inl (G.2.1 1, 40, .inl u.2.2))] := by
  obtain ⟨enc, henc⟩ : ∃ enc : (Int32 × Int32 × (Nat → Int32)) → Option Value × va_W, enc = fun u => ((none : Option Value), ([(a_this, .inr (6, [.int u.1, .int u.2.1, .ref a_cells])), (a_cells, .inl (G.2.1 1, 40, .inl u.2.2))] : va_W)) := ⟨_, rfl⟩
  refine ctr_of (cc := cX6_renew) (own := RX6) (E := Option.map enc) (o := X6_renew x1 x2 g_lane g_size g_cells) (by decide) rfl rfl (L := [(0, .ref a_this), (1, .int x1), (2, .int x2)]) rfl (Nat.le_of_ble_eq_true rfl) (by rw [hu, henc]; rfl) ?_
  intro Z hX hl hG hr
  subst hl; subst hG
  have fl15 : (Cond.fieldLink RX6 15 "OnlyFar$Sheet" "size" "I").before (za Z) (zs Z) = true := hX.wd (mcC _ wd_228)
  have fl18 : (Cond.fieldLink RX6 18 "OnlyFar$Sheet" "cells" "[I").before (za Z) (zs Z) = true := hX.wd (mcC _ wd_230)
  have fl9 : (Cond.fieldLink RX6 9 "OnlyFar$Sheet" "lane" "I").before (za Z) (zs Z) = true := hX.wd (mcC _ wd_226)
  have inX6 : ∀ w ∈ u_ws RX6 TX6 3, w ∈ wsX6_renew := fun w h => mcC w (inC_X6 w h)
  unfold X6_renew
  refine rn_aload_n hX dX6_renew_0 0 rfl 1 rfl ?_
  refine rn_iload_n hX dX6_renew_1 1 rfl 2 rfl ?_
  refine rn_put hX inX6 tyX6_ok nmX6 0 rfl rfl 0 (by decide) fl9 rfl rfl rfl rfl (Nat.le_of_ble_eq_true rfl) dX6_renew_2 5 rfl (w1 := [(a_this, .inr (6, [.int x1, .int g_size, .ref a_cells])), (a_cells, .inl ((zG Z).2.1 1, 40, .inl g_cells))]) rfl ?_
  refine rn_aload_n hX dX6_renew_5 0 rfl 6 rfl ?_
  refine rn_iload_n hX dX6_renew_6 2 rfl 7 rfl ?_
  refine rn_put hX inX6 tyX6_ok nmX6 0 rfl rfl 1 (by decide) fl15 rfl rfl rfl rfl (Nat.le_of_ble_eq_true rfl) dX6_renew_7 10 rfl (w1 := [(a_this, .inr (6, [.int x1, .int x2, .ref a_cells])), (a_cells, .inl ((zG Z).2.1 1, 40, .inl g_cells))]) rfl ?_
  refine rn_aload_n hX dX6_renew_10 0 rfl 11 rfl ?_
  refine rn_get hX inX6 0 rfl rfl 2 (by decide) fl18 rfl rfl dX6_renew_11 14 rfl ?_
  refine rn_iconst hX dX6_renew_14 15 rfl ic_0 ?_
  refine rn_bind (fun u1 hu1 => ?_)
  refine rn_callS hX (gS mcC wd_946 wd_419 wd_82 wd_420) rfl hdS_J7_fill_53178_40 rfl rfl ⟨Nat.le_of_ble_eq_true rfl, Nat.le_of_ble_eq_true rfl⟩ (c_J7_fill_53178_40 (zl Z) (zG Z) a_cells g_cells (0 : Int32) hu1) rfl [1] rfl rfl rfl rfl (Nat.le_of_ble_eq_true rfl) dX6_renew_15 18 rfl (wn := [(a_this, .inr (6, [.int x1, .int x2, .ref a_cells])), (a_cells, .inl ((zG Z).2.1 1, 40, .inl u1))]) rfl (S' := []) rfl ⟨Nat.zero_le _, Nat.zero_le _⟩ ?_
  exact rn_vret hX hr (by rw [henc]; rfl) dX6_renew_18
abbrev rmX6_write : Room := { frames := 0, cells := 0, slots := 0, locals := 0 }
theorem hdV_X6_write : yX6_write.cls = RX6 ∧ yX6_write.cls ≠ "java/lang/invoke/MethodHandle" ∧ yX6_write.cls ≠ "java/lang/invoke/VarHandle" ∧ (parseMethodDescriptor yX6_write.desc).map (fun d => d.parameters.length) = some 2 := by decide +kernel
set_option maxHeartbeats 4000000 in
set_option maxRecDepth 100000 in
theorem c_X6_write (l : Launch) (G : GT) (a_this a_cells : Nat) (g_lane : Int32) (g_size : Int32) (g_cells : (Nat → Int32)) (x1 : Int32) (x2 : Int32) {u : Int32 × (Nat → Int32)} (hu : X6_write x1 x2 g_lane g_size g_cells = some u) : Ctr l G yX6_write wsX6_write rmX6_write [.ref a_this, .int x1, .int x2] [(a_this, .inr (6, [.int g_lane, .int g_size, .ref a_cells])), (a_cells, .inl (G.2.1 1, 40, .inl g_cells))] (some (.int u.1)) [(a_this, .inr (6, [.int g_lane, .int g_size, .ref a_cells])), (a_cells, .inl (G.2.1 1, 40, .inl u.2))] := by
  obtain ⟨enc, henc⟩ : ∃ enc : (Int32 × (Nat → Int32)) → Option Value × va_W, enc = fun u => (((some (.int u.1)) : Option Value), ([(a_this, .inr (6, [.int g_lane, .int g_size, .ref a_cells])), (a_cells, .inl (G.2.1 1, 40, .inl u.2))] : va_W)) := ⟨_, rfl⟩
  refine ctr_of (cc := cX6_write) (own := RX6) (E := Option.map enc) (o := X6_write x1 x2 g_lane g_size g_cells) (by decide) rfl rfl (L := [(0, .ref a_this), (1, .int x1), (2, .int x2)]) rfl (Nat.le_of_ble_eq_true rfl) (by rw [hu, henc]; rfl) ?_
  intro Z hX hl hG hr
  subst hl; subst hG
  have fl15 : (Cond.fieldLink RX6 15 "OnlyFar$Sheet" "size" "I").before (za Z) (zs Z) = true := hX.wd (mcC _ wd_228)
  have fl18 : (Cond.fieldLink RX6 18 "OnlyFar$Sheet" "cells" "[I").before (za Z) (zs Z) = true := hX.wd (mcC _ wd_230)
  have fl9 : (Cond.fieldLink RX6 9 "OnlyFar$Sheet" "lane" "I").before (za Z) (zs Z) = true := hX.wd (mcC _ wd_226)
  have inX6 : ∀ w ∈ u_ws RX6 TX6 3, w ∈ wsX6_write := fun w h => mcC w (inC_X6 w h)
  unfold X6_write
  refine rn_aload_n hX dX6_write_0 0 rfl 1 rfl ?_
  refine rn_get hX inX6 0 rfl rfl 0 (by decide) fl9 rfl rfl dX6_write_1 4 rfl ?_
  refine rn_iconst hX dX6_write_4 5 rfl ic_m1 ?_
  refine rn_icmp_ne hX dX6_write_5 10 (by decide) 8 rfl ?_ ?_
  · refine rn_iload_n hX dX6_write_10 1 rfl 11 rfl ?_
    refine rn_if_lt hX dX6_write_11 28 (by decide) 14 rfl ?_ ?_
    · refine rn_iconst hX dX6_write_28 29 rfl ic_2 ?_
      exact rn_iret hX hr (by rw [henc]; rfl) dX6_write_29
    refine rn_iload_n hX dX6_write_14 1 rfl 15 rfl ?_
    refine rn_aload_n hX dX6_write_15 0 rfl 16 rfl ?_
    refine rn_get hX inX6 0 rfl rfl 1 (by decide) fl15 rfl rfl dX6_write_16 19 rfl ?_
    refine rn_icmp_ge hX dX6_write_19 28 (by decide) 22 rfl ?_ ?_
    · refine rn_iconst hX dX6_write_28 29 rfl ic_2 ?_
      exact rn_iret hX hr (by rw [henc]; rfl) dX6_write_29
    refine rn_iload_n hX dX6_write_22 1 rfl 23 rfl ?_
    refine rn_bipush hX dX6_write_23 25 rfl bp_40 ?_
    refine rn_icmp_lt hX dX6_write_25 30 (by decide) 28 rfl ?_ ?_
    · refine rn_aload_n hX dX6_write_30 0 rfl 31 rfl ?_
      refine rn_get hX inX6 0 rfl rfl 0 (by decide) fl9 rfl rfl dX6_write_31 34 rfl ?_
      refine rn_if_ne hX dX6_write_34 48 (by decide) 37 rfl ?_ ?_
      · refine rn_aload_n hX dX6_write_48 0 rfl 49 rfl ?_
        refine rn_get hX inX6 0 rfl rfl 0 (by decide) fl9 rfl rfl dX6_write_49 52 rfl ?_
        refine rn_iconst hX dX6_write_52 53 rfl ic_1 ?_
        refine rn_icmp_ne hX dX6_write_53 67 (by decide) 56 rfl ?_ ?_
        · refine rn_aload_n hX dX6_write_67 0 rfl 68 rfl ?_
          refine rn_get hX inX6 0 rfl rfl 2 (by decide) fl18 rfl rfl dX6_write_68 71 rfl ?_
          refine rn_iload_n hX dX6_write_71 1 rfl 72 rfl ?_
          refine rn_iload_n hX dX6_write_72 2 rfl 73 rfl ?_
          refine rn_gd (fun hi1 => ?_)
          refine rn_iast hX 1 rfl hi1 dX6_write_73 74 rfl (w1 := fun m2 => [(a_this, .inr (6, [.int g_lane, .int g_size, .ref a_cells])), (a_cells, .inl ((zG Z).2.1 1, 40, .inl m2))]) (fun _ => rfl) (fun m2 => ?_)
          refine rn_iconst hX dX6_write_74 75 rfl ic_0 ?_
          exact rn_iret hX hr (by rw [henc]; rfl) dX6_write_75
        refine rn_aload_n hX dX6_write_56 0 rfl 57 rfl ?_
        refine rn_get hX inX6 0 rfl rfl 2 (by decide) fl18 rfl rfl dX6_write_57 60 rfl ?_
        refine rn_iload_n hX dX6_write_60 1 rfl 61 rfl ?_
        refine rn_iload_n hX dX6_write_61 2 rfl 62 rfl ?_
        refine rn_i2s hX dX6_write_62 63 rfl ?_
        refine rn_gd (fun hi3 => ?_)
        refine rn_iast hX 1 rfl hi3 dX6_write_63 64 rfl (w1 := fun m4 => [(a_this, .inr (6, [.int g_lane, .int g_size, .ref a_cells])), (a_cells, .inl ((zG Z).2.1 1, 40, .inl m4))]) (fun _ => rfl) (fun m4 => ?_)
        refine rn_goto hX dX6_write_64 74 (by decide) ?_
        refine rn_iconst hX dX6_write_74 75 rfl ic_0 ?_
        exact rn_iret hX hr (by rw [henc]; rfl) dX6_write_75
      refine rn_aload_n hX dX6_write_37 0 rfl 38 rfl ?_
      refine rn_get hX inX6 0 rfl rfl 2 (by decide) fl18 rfl rfl dX6_write_38 41 rfl ?_
      refine rn_iload_n hX dX6_write_41 1 rfl 42 rfl ?_
      refine rn_iload_n hX dX6_write_42 2 rfl 43 rfl ?_
      refine rn_i2b hX dX6_write_43 44 rfl ?_
      refine rn_gd (fun hi5 => ?_)
      refine rn_iast hX 1 rfl hi5 dX6_write_44 45 rfl (w1 := fun m6 => [(a_this, .inr (6, [.int g_lane, .int g_size, .ref a_cells])), (a_cells, .inl ((zG Z).2.1 1, 40, .inl m6))]) (fun _ => rfl) (fun m6 => ?_)
      refine rn_goto hX dX6_write_45 74 (by decide) ?_
      refine rn_iconst hX dX6_write_74 75 rfl ic_0 ?_
      exact rn_iret hX hr (by rw [henc]; rfl) dX6_write_75
    refine rn_iconst hX dX6_write_28 29 rfl ic_2 ?_
    exact rn_iret hX hr (by rw [henc]; rfl) dX6_write_29
  refine rn_iconst hX dX6_write_8 9 rfl ic_1 ?_
  exact rn_iret hX hr (by rw [henc]; rfl) dX6_write_9
abbrev rmX6_faultAs : Room := { frames := 0, cells := 0, slots := 0, locals := 0 }
theorem hdV_X6_faultAs : yX6_faultAs.cls = RX6 ∧ yX6_faultAs.cls ≠ "java/lang/invoke/MethodHandle" ∧ yX6_faultAs.cls ≠ "java/lang/invoke/VarHandle" ∧ (parseMethodDescriptor yX6_faultAs.desc).map (fun d => d.parameters.length) = some 1 := by decide +kernel
set_option maxHeartbeats 4000000 in
set_option maxRecDepth 100000 in
theorem c_X6_faultAs (l : Launch) (G : GT) (a_this a_cells : Nat) (g_lane : Int32) (g_size : Int32) (x1 : Int32) {u : Int32} (hu : X6_faultAs x1 g_lane = u) : Ctr l G yX6_faultAs wsX6_faultAs rmX6_faultAs [.ref a_this, .int x1] [(a_this, .inr (6, [.int g_lane, .int g_size, .ref a_cells]))] (some (.int u)) [(a_this, .inr (6, [.int g_lane, .int g_size, .ref a_cells]))] := by
  obtain ⟨enc, henc⟩ : ∃ enc : (Int32) → Option Value × va_W, enc = fun u => (((some (.int u)) : Option Value), ([(a_this, .inr (6, [.int g_lane, .int g_size, .ref a_cells]))] : va_W)) := ⟨_, rfl⟩
  refine ctr_of (cc := cX6_faultAs) (own := RX6) (E := fun o => some (enc o)) (o := X6_faultAs x1 g_lane) (by decide) rfl rfl (L := [(0, .ref a_this), (1, .int x1)]) rfl (Nat.le_of_ble_eq_true rfl) (by rw [hu, henc]) ?_
  intro Z hX hl hG hr
  subst hl; subst hG
  have fl9 : (Cond.fieldLink RX6 9 "OnlyFar$Sheet" "lane" "I").before (za Z) (zs Z) = true := hX.wd (mcC _ wd_226)
  have inX6 : ∀ w ∈ u_ws RX6 TX6 3, w ∈ wsX6_faultAs := fun w h => mcC w (inC_X6 w h)
  unfold X6_faultAs
  refine rn_aload_n hX dX6_faultAs_0 0 rfl 1 rfl ?_
  refine rn_get hX inX6 0 rfl rfl 0 (by decide) fl9 rfl rfl dX6_faultAs_1 4 rfl ?_
  refine rn_iconst hX dX6_faultAs_4 5 rfl ic_m1 ?_
  refine rn_icmp_ne hX dX6_faultAs_5 10 (by decide) 8 rfl ?_ ?_
  · refine rn_aload_n hX dX6_faultAs_10 0 rfl 11 rfl ?_
    refine rn_get hX inX6 0 rfl rfl 0 (by decide) fl9 rfl rfl dX6_faultAs_11 14 rfl ?_
    refine rn_iload_n hX dX6_faultAs_14 1 rfl 15 rfl ?_
    refine rn_icmp_ne hX dX6_faultAs_15 22 (by decide) 18 rfl ?_ ?_
    · refine rn_iconst hX dX6_faultAs_22 23 rfl ic_3 ?_
      exact rn_iret hX hr (by rw [henc]) dX6_faultAs_23
    refine rn_iconst hX dX6_faultAs_18 19 rfl ic_0 ?_
    refine rn_goto hX dX6_faultAs_19 23 (by decide) ?_
    exact rn_iret hX hr (by rw [henc]) dX6_faultAs_23
  refine rn_iconst hX dX6_faultAs_8 9 rfl ic_1 ?_
  exact rn_iret hX hr (by rw [henc]) dX6_faultAs_9
abbrev rmX6_wholeLengths : Room := { frames := 1, cells := 0, slots := 0, locals := 21 }
theorem hdV_X6_wholeLengths : yX6_wholeLengths.cls = RX6 ∧ yX6_wholeLengths.cls ≠ "java/lang/invoke/MethodHandle" ∧ yX6_wholeLengths.cls ≠ "java/lang/invoke/VarHandle" ∧ (parseMethodDescriptor yX6_wholeLengths.desc).map (fun d => d.parameters.length) = some 2 := by decide +kernel
set_option maxHeartbeats 4000000 in
set_option maxRecDepth 100000 in
theorem c_X6_wholeLengths (l : Launch) (G : GT) (a_this a_cells : Nat) (g_lane : Int32) (g_size : Int32) (x1 : Int32) (x2 : Int32) {u : Int32} (hu : X6_wholeLengths x1 x2 g_size = u) : Ctr l G yX6_wholeLengths wsX6_wholeLengths rmX6_wholeLengths [.ref a_this, .int x1, .int x2] [(a_this, .inr (6, [.int g_lane, .int g_size, .ref a_cells]))] (some (.int u)) [(a_this, .inr (6, [.int g_lane, .int g_size, .ref a_cells]))] := by
  obtain ⟨enc, henc⟩ : ∃ enc : (Int32) → Option Value × va_W, enc = fun u => (((some (.int u)) : Option Value), ([(a_this, .inr (6, [.int g_lane, .int g_size, .ref a_cells]))] : va_W)) := ⟨_, rfl⟩
  refine ctr_of (cc := cX6_wholeLengths) (own := RX6) (E := fun o => some (enc o)) (o := X6_wholeLengths x1 x2 g_size) (by decide) rfl rfl (L := [(0, .ref a_this), (1, .int x1), (2, .int x2)]) rfl (Nat.le_of_ble_eq_true rfl) (by rw [hu, henc]) ?_
  intro Z hX hl hG hr
  subst hl; subst hG
  have fl15 : (Cond.fieldLink RX6 15 "OnlyFar$Sheet" "size" "I").before (za Z) (zs Z) = true := hX.wd (mcC _ wd_228)
  have mathminS : (Cond.static Lib.Math.min.name).before (za Z) (zs Z) = true := hX.wd (mcC _ wd_567)
  have mathminI : (Cond.initialized "java/lang/Math").before (za Z) (zs Z) = true := hX.wd (mcC _ wd_87)
  have mathminC : (Cond.code Lib.Math.min.name Lib.Math.min.code 2 (some .int)).before (za Z) (zs Z) = true := hX.wd (mcC _ wd_568)
  have ml28 : (Cond.methodLink RX6 28 Lib.Math.min.name).before (za Z) (zs Z) = true := hX.wd (mcC _ wd_967)
  have inX6 : ∀ w ∈ u_ws RX6 TX6 3, w ∈ wsX6_wholeLengths := fun w h => mcC w (inC_X6 w h)
  unfold X6_wholeLengths
  refine rn_iload_n hX dX6_wholeLengths_0 1 rfl 1 rfl ?_
  refine rn_if_lt hX dX6_wholeLengths_1 12 (by decide) 4 rfl ?_ ?_
  · refine rn_iconst hX dX6_wholeLengths_12 13 rfl ic_0 ?_
    exact rn_iret hX hr (by rw [henc]) dX6_wholeLengths_13
  refine rn_iload_n hX dX6_wholeLengths_4 1 rfl 5 rfl ?_
  refine rn_aload_n hX dX6_wholeLengths_5 0 rfl 6 rfl ?_
  refine rn_get hX inX6 0 rfl rfl 1 (by decide) fl15 rfl rfl dX6_wholeLengths_6 9 rfl ?_
  refine rn_icmp_le hX dX6_wholeLengths_9 14 (by decide) 12 rfl ?_ ?_
  · refine rn_iload_n hX dX6_wholeLengths_14 2 rfl 15 rfl ?_
    refine rn_aload_n hX dX6_wholeLengths_15 0 rfl 16 rfl ?_
    refine rn_get hX inX6 0 rfl rfl 1 (by decide) fl15 rfl rfl dX6_wholeLengths_16 19 rfl ?_
    refine rn_iload_n hX dX6_wholeLengths_19 1 rfl 20 rfl ?_
    refine rn_isub hX dX6_wholeLengths_20 21 rfl ?_
    refine rn_iconst hX dX6_wholeLengths_21 22 rfl ic_3 ?_
    refine rn_idiv hX dX6_wholeLengths_22 23 rfl (by decide) ?_
    refine rn_mmin hX ml28 mathminS mathminI mathminC (Nat.le_of_ble_eq_true rfl) (Nat.le_of_ble_eq_true rfl) ⟨Nat.zero_le _, Nat.zero_le _⟩ dX6_wholeLengths_23 26 rfl ?_
    exact rn_iret hX hr (by rw [henc]) dX6_wholeLengths_26
  refine rn_iconst hX dX6_wholeLengths_12 13 rfl ic_0 ?_
  exact rn_iret hX hr (by rw [henc]) dX6_wholeLengths_13
abbrev rmX6_cell : Room := { frames := 0, cells := 0, slots := 0, locals := 0 }
theorem hdV_X6_cell : yX6_cell.cls = RX6 ∧ yX6_cell.cls ≠ "java/lang/invoke/MethodHandle" ∧ yX6_cell.cls ≠ "java/lang/invoke/VarHandle" ∧ (parseMethodDescriptor yX6_cell.desc).map (fun d => d.parameters.length) = some 1 := by decide +kernel
set_option maxHeartbeats 4000000 in
set_option maxRecDepth 100000 in
theorem c_X6_cell (l : Launch) (G : GT) (a_this a_cells : Nat) (g_lane : Int32) (g_size : Int32) (g_cells : (Nat → Int32)) (x1 : Int32) {u : Int32} (hu : X6_cell x1 g_cells = some u) : Ctr l G yX6_cell wsX6_cell rmX6_cell [.ref a_this, .int x1] [(a_this, .inr (6, [.int g_lane, .int g_size, .ref a_cells])), (a_cells, .inl (G.2.1 1, 40, .inl g_cells))] (some (.int u)) [(a_this, .inr (6, [.int g_lane, .int g_size, .ref a_cells])), (a_cells, .inl (G.2.1 1, 40, .inl g_cells))] := by
  obtain ⟨enc, henc⟩ : ∃ enc : (Int32) → Option Value × va_W, enc = fun u => (((some (.int u)) : Option Value), ([(a_this, .inr (6, [.int g_lane, .int g_size, .ref a_cells])), (a_cells, .inl (G.2.1 1, 40, .inl g_cells))] : va_W)) := ⟨_, rfl⟩
  refine ctr_of (cc := cX6_cell) (own := RX6) (E := Option.map enc) (o := X6_cell x1 g_cells) (by decide) rfl rfl (L := [(0, .ref a_this), (1, .int x1)]) rfl (Nat.le_of_ble_eq_true rfl) (by rw [hu, henc]; rfl) ?_
  intro Z hX hl hG hr
  subst hl; subst hG
  have fl18 : (Cond.fieldLink RX6 18 "OnlyFar$Sheet" "cells" "[I").before (za Z) (zs Z) = true := hX.wd (mcC _ wd_230)
  have inX6 : ∀ w ∈ u_ws RX6 TX6 3, w ∈ wsX6_cell := fun w h => mcC w (inC_X6 w h)
  unfold X6_cell
  refine rn_iload_n hX dX6_cell_0 1 rfl 1 rfl ?_
  refine rn_if_lt hX dX6_cell_1 19 (by decide) 4 rfl ?_ ?_
  · refine rn_iconst hX dX6_cell_19 20 rfl ic_0 ?_
    exact rn_iret hX hr (by rw [henc]; rfl) dX6_cell_20
  refine rn_iload_n hX dX6_cell_4 1 rfl 5 rfl ?_
  refine rn_bipush hX dX6_cell_5 7 rfl bp_40 ?_
  refine rn_icmp_ge hX dX6_cell_7 19 (by decide) 10 rfl ?_ ?_
  · refine rn_iconst hX dX6_cell_19 20 rfl ic_0 ?_
    exact rn_iret hX hr (by rw [henc]; rfl) dX6_cell_20
  refine rn_aload_n hX dX6_cell_10 0 rfl 11 rfl ?_
  refine rn_get hX inX6 0 rfl rfl 2 (by decide) fl18 rfl rfl dX6_cell_11 14 rfl ?_
  refine rn_iload_n hX dX6_cell_14 1 rfl 15 rfl ?_
  refine rn_gd (fun hi1 => ?_)
  refine rn_iald hX 1 rfl hi1 dX6_cell_15 16 rfl ?_
  refine rn_goto hX dX6_cell_16 20 (by decide) ?_
  exact rn_iret hX hr (by rw [henc]; rfl) dX6_cell_20
abbrev rmX10_rootOf : Room := { frames := 0, cells := 0, slots := 0, locals := 0 }
theorem hdS_X10_rootOf : yX10_rootOf.cls ≠ "java/lang/invoke/MethodHandle" ∧ yX10_rootOf.cls ≠ "java/lang/invoke/VarHandle" ∧ (parseMethodDescriptor yX10_rootOf.desc).map (fun d => d.parameters.length) = some 1 := by decide +kernel
set_option maxHeartbeats 4000000 in
set_option maxRecDepth 100000 in
theorem c_X10_rootOf (l : Launch) (G : GT) (x0 : Int64) {u : Int64} (hu : X10_rootOf x0 = some u) : Ctr l G yX10_rootOf wsX10_rootOf rmX10_rootOf [.long x0] [] (some (.long u)) [] := by
  obtain ⟨enc, henc⟩ : ∃ enc : (Int64) → Option Value × va_W, enc = fun u => (((some (.long u)) : Option Value), ([] : va_W)) := ⟨_, rfl⟩
  refine ctr_of (cc := cX10_rootOf) (own := RX10) (E := Option.map enc) (o := X10_rootOf x0) (by decide) rfl rfl (L := [(0, .long x0)]) rfl (Nat.le_of_ble_eq_true rfl) (by rw [hu, henc]; rfl) ?_
  intro Z hX hl hG hr
  subst hl; subst hG
  have hJ32 : ∀ (again : Int64 → Int64 → Int32 → Option (Int64)) (hagain : ∀ (x0 : Int64) (x2 : Int64) (x4 : Int32), Rn Z 7 (Option.map enc) 0 0 6 [(0, .long x0), (2, .long x2), (4, .int x4)] [] [] (again x0 x2 x4)) (x0 : Int64) (x2 : Int64) (x4 : Int32), Rn Z 7 (Option.map enc) 0 0 32 [(0, .long x0), (2, .long x2), (4, .int x4)] [] [] (X10_rootOf_J32 again x0 x2 x4) := by
    intro again hagain x0 x2 x4
    unfold X10_rootOf_J32
    refine rn_iinc hX dX10_rootOf_32 2 rfl ic_m1 (by decide) (L' := fun v1 => [(4, .int v1), (0, .long x0), (2, .long x2)]) (fun _ => rfl) 35 rfl (fun v1 => ?_)
    refine rn_goto hX dX10_rootOf_35 6 (by decide) ?_
    refine rn_sub [1, 2, 0] rfl ?_
    exact hagain x0 x2 v1
  have hB6 : ∀ (again : Int64 → Int64 → Int32 → Option (Int64)) (hagain : ∀ (x0 : Int64) (x2 : Int64) (x4 : Int32), Rn Z 7 (Option.map enc) 0 0 6 [(0, .long x0), (2, .long x2), (4, .int x4)] [] [] (again x0 x2 x4)) (x0 : Int64) (x2 : Int64) (x4 : Int32), Rn Z 7 (Option.map enc) 0 0 6 [(0, .long x0), (2, .long x2), (4, .int x4)] [] [] (X10_rootOf_B6 again x0 x2 x4) := by
    intro again hagain x0 x2 x4
    unfold X10_rootOf_B6
    refine rn_iload hX dX10_rootOf_6 2 rfl 8 rfl ?_
    refine rn_if_lt hX dX10_rootOf_8 38 (by decide) 11 rfl ?_ ?_
    · refine rn_lload_n hX dX10_rootOf_38 1 rfl 39 rfl ?_
      exact rn_lret hX hr (by rw [henc]; rfl) dX10_rootOf_39
    refine rn_lload_n hX dX10_rootOf_11 1 rfl 12 rfl ?_
    refine rn_lconst hX dX10_rootOf_12 13 rfl lc_1 ?_
    refine rn_iload hX dX10_rootOf_13 2 rfl 15 rfl ?_
    refine rn_lshl hX dX10_rootOf_15 16 rfl ?_
    refine rn_lor hX dX10_rootOf_16 17 rfl ?_
    refine rn_latl (fun v2 => ?_)
    refine rn_lstore hX dX10_rootOf_17 (by decide) (L' := [(5, .long v2), (0, .long x0), (2, .long x2), (4, .int x4)]) rfl 19 rfl ?_
    refine rn_lload hX dX10_rootOf_19 0 rfl 21 rfl ?_
    refine rn_lload hX dX10_rootOf_21 0 rfl 23 rfl ?_
    refine rn_lmul hX dX10_rootOf_23 24 rfl ?_
    refine rn_lload_n hX dX10_rootOf_24 1 rfl 25 rfl ?_
    refine rn_lcmp_gt hX dX10_rootOf_25 26 rfl dX10_rootOf_26 32 (by decide) 29 rfl ?_ ?_
    · refine rn_sub [1, 2, 3] rfl ?_
      exact (hJ32 _ hagain) x0 x2 x4
    refine rn_lload hX dX10_rootOf_29 0 rfl 31 rfl ?_
    refine rn_lstore_n hX dX10_rootOf_31 2 rfl (by decide) (L' := [(2, .long v2), (5, .long v2), (0, .long x0), (4, .int x4)]) rfl 32 rfl ?_
    refine rn_sub [2, 0, 3] rfl ?_
    exact (hJ32 _ hagain) x0 v2 x4
  have hL6 : ∀ (n : Nat) (x0 : Int64) (x2 : Int64) (x4 : Int32), Rn Z 7 (Option.map enc) 0 0 6 [(0, .long x0), (2, .long x2), (4, .int x4)] [] [] (X10_rootOf_L6 n x0 x2 x4) := by
    intro n
    induction n with
    | zero => intros; exact rn_none
    | succ n ih => exact hB6 _ ih
  unfold X10_rootOf
  refine rn_lconst hX dX10_rootOf_0 1 rfl lc_0 ?_
  refine rn_lstore_n hX dX10_rootOf_1 2 rfl (by decide) (L' := [(2, .long (0 : Int64)), (0, .long x0)]) rfl 2 rfl ?_
  refine rn_bipush hX dX10_rootOf_2 4 rfl bp_30 ?_
  refine rn_istore hX dX10_rootOf_4 (by decide) (L' := [(4, .int (30 : Int32)), (2, .long (0 : Int64)), (0, .long x0)]) rfl 6 rfl ?_
  refine rn_sub [2, 1, 0] rfl ?_
  exact (hL6  1000) x0 (0 : Int64) (30 : Int32)
abbrev rmX7_wholeLength : Room := { frames := 1, cells := 0, slots := 0, locals := 26 }
theorem hdV_X7_wholeLength : yX7_wholeLength.cls = RX7 ∧ yX7_wholeLength.cls ≠ "java/lang/invoke/MethodHandle" ∧ yX7_wholeLength.cls ≠ "java/lang/invoke/VarHandle" ∧ (parseMethodDescriptor yX7_wholeLength.desc).map (fun d => d.parameters.length) = some 1 := by decide +kernel
set_option maxHeartbeats 4000000 in
set_option maxRecDepth 100000 in
theorem c_X7_wholeLength (l : Launch) (G : GT) (a_this : Nat) (g_middle : Int64) (g_spread : Int64) (g_divisor : Int64) (x1 : Int32) {u : Int64} (hu : X7_wholeLength x1 g_divisor g_middle g_spread = some u) : Ctr l G yX7_wholeLength wsX7_wholeLength rmX7_wholeLength [.ref a_this, .int x1] [(a_this, .inr (7, [.long g_middle, .long g_spread, .long g_divisor]))] (some (.long u)) [(a_this, .inr (7, [.long g_middle, .long g_spread, .long g_divisor]))] := by
  obtain ⟨enc, henc⟩ : ∃ enc : (Int64) → Option Value × va_W, enc = fun u => (((some (.long u)) : Option Value), ([(a_this, .inr (7, [.long g_middle, .long g_spread, .long g_divisor]))] : va_W)) := ⟨_, rfl⟩
  refine ctr_of (cc := cX7_wholeLength) (own := RX7) (E := Option.map enc) (o := X7_wholeLength x1 g_divisor g_middle g_spread) (by decide) rfl rfl (L := [(0, .ref a_this), (1, .int x1)]) rfl (Nat.le_of_ble_eq_true rfl) (by rw [hu, henc]; rfl) ?_
  intro Z hX hl hG hr
  subst hl; subst hG
  have fl17 : (Cond.fieldLink RX7 17 "OnlyFar$Sixth" "divisor" "J").before (za Z) (zs Z) = true := hX.wd (mcC _ wd_282)
  have fl27 : (Cond.fieldLink RX7 27 "OnlyFar$Sixth" "middle" "J").before (za Z) (zs Z) = true := hX.wd (mcC _ wd_276)
  have fl33 : (Cond.fieldLink RX7 33 "OnlyFar$Sixth" "spread" "J").before (za Z) (zs Z) = true := hX.wd (mcC _ wd_279)
  have kl40 : (Cond.constantLong RX7 40 (-4)).before (za Z) (zs Z) = true := hX.wd (mcC _ wd_766)
  have inX7 : ∀ w ∈ u_ws RX7 TX7 3, w ∈ wsX7_wholeLength := fun w h => mcC w (inC_X7 w h)
  have hJ42 : ∀ (s0 : Int64), Rn Z 6 (Option.map enc) 0 0 42 [(0, .ref a_this)] [.long s0] [(a_this, .inr (7, [.long g_middle, .long g_spread, .long g_divisor]))] (X7_wholeLength_J42 g_divisor s0) := by
    intro s0
    unfold X7_wholeLength_J42
    refine rn_lstore hX dX7_wholeLength_42 (by decide) (L' := [(4, .long s0), (0, .ref a_this)]) rfl 44 rfl ?_
    refine rn_aload_n hX dX7_wholeLength_44 1 rfl 45 rfl ?_
    refine rn_get hX inX7 0 rfl rfl 2 (by decide) fl17 rfl rfl dX7_wholeLength_45 48 rfl ?_
    refine rn_lconst hX dX7_wholeLength_48 49 rfl lc_0 ?_
    refine rn_lcmp_le hX dX7_wholeLength_49 50 rfl dX7_wholeLength_50 65 (by decide) 53 rfl ?_ ?_
    · refine rn_ldc2 hX kl40 dX7_wholeLength_65 68 rfl ?_
      exact rn_lret hX hr (by rw [henc]; rfl) dX7_wholeLength_68
    refine rn_lload hX dX7_wholeLength_53 0 rfl 55 rfl ?_
    refine rn_aload_n hX dX7_wholeLength_55 1 rfl 56 rfl ?_
    refine rn_get hX inX7 0 rfl rfl 2 (by decide) fl17 rfl rfl dX7_wholeLength_56 59 rfl ?_
    refine rn_gdl (fun hd1 => ?_)
    refine rn_lrem hX dX7_wholeLength_59 60 rfl hd1 ?_
    refine rn_lconst hX dX7_wholeLength_60 61 rfl lc_0 ?_
    refine rn_lcmp_eq hX dX7_wholeLength_61 62 rfl dX7_wholeLength_62 69 (by decide) 65 rfl ?_ ?_
    · refine rn_lload hX dX7_wholeLength_69 0 rfl 71 rfl ?_
      refine rn_aload_n hX dX7_wholeLength_71 1 rfl 72 rfl ?_
      refine rn_get hX inX7 0 rfl rfl 2 (by decide) fl17 rfl rfl dX7_wholeLength_72 75 rfl ?_
      refine rn_gdl (fun hd2 => ?_)
      refine rn_ldiv hX dX7_wholeLength_75 76 rfl hd2 ?_
      exact rn_lret hX hr (by rw [henc]; rfl) dX7_wholeLength_76
    refine rn_ldc2 hX kl40 dX7_wholeLength_65 68 rfl ?_
    exact rn_lret hX hr (by rw [henc]; rfl) dX7_wholeLength_68
  unfold X7_wholeLength
  refine rn_aload_n hX dX7_wholeLength_0 0 rfl 1 rfl ?_
  refine rn_get hX inX7 0 rfl rfl 1 (by decide) fl33 rfl rfl dX7_wholeLength_1 4 rfl ?_
  refine rn_bind (fun u3 hu3 => ?_)
  refine rn_callSN0 hX (goodK mcC wd_765) rfl (host := "OnlyFar") hn_X7_36 (hX.wd (mcC _ wd_70)) (hX.wd (mcC _ wd_764)) hdS_X10_rootOf rfl rfl ⟨Nat.le_of_ble_eq_true rfl, Nat.le_of_ble_eq_true rfl⟩ (c_X10_rootOf (zl Z) (zG Z) g_spread hu3) rfl [] rfl rfl rfl (Nat.le_of_ble_eq_true rfl) dX7_wholeLength_4 7 rfl (S' := [.long u3]) rfl ⟨Nat.zero_le _, Nat.zero_le _⟩ ?_
  refine rn_lstore_n hX dX7_wholeLength_7 2 rfl (by decide) (L' := [(2, .long u3), (0, .ref a_this), (1, .int x1)]) rfl 8 rfl ?_
  refine rn_lload_n hX dX7_wholeLength_8 0 rfl 9 rfl ?_
  refine rn_lload_n hX dX7_wholeLength_9 0 rfl 10 rfl ?_
  refine rn_lmul hX dX7_wholeLength_10 11 rfl ?_
  refine rn_aload_n hX dX7_wholeLength_11 1 rfl 12 rfl ?_
  refine rn_get hX inX7 0 rfl rfl 1 (by decide) fl33 rfl rfl dX7_wholeLength_12 15 rfl ?_
  refine rn_lcmp_eq hX dX7_wholeLength_15 16 rfl dX7_wholeLength_16 23 (by decide) 19 rfl ?_ ?_
  · refine rn_iload_n hX dX7_wholeLength_23 2 rfl 24 rfl ?_
    refine rn_if_eq hX dX7_wholeLength_24 36 (by decide) 27 rfl ?_ ?_
    · refine rn_aload_n hX dX7_wholeLength_36 1 rfl 37 rfl ?_
      refine rn_get hX inX7 0 rfl rfl 0 (by decide) fl27 rfl rfl dX7_wholeLength_37 40 rfl ?_
      refine rn_lload_n hX dX7_wholeLength_40 0 rfl 41 rfl ?_
      refine rn_ladd hX dX7_wholeLength_41 42 rfl ?_
      refine rn_sub [1] rfl ?_
      exact hJ42 (g_middle + u3)
    refine rn_aload_n hX dX7_wholeLength_27 1 rfl 28 rfl ?_
    refine rn_get hX inX7 0 rfl rfl 0 (by decide) fl27 rfl rfl dX7_wholeLength_28 31 rfl ?_
    refine rn_lload_n hX dX7_wholeLength_31 0 rfl 32 rfl ?_
    refine rn_lsub hX dX7_wholeLength_32 33 rfl ?_
    refine rn_goto hX dX7_wholeLength_33 42 (by decide) ?_
    refine rn_sub [1] rfl ?_
    exact hJ42 (g_middle - u3)
  refine rn_ldc2 hX kl40 dX7_wholeLength_19 22 rfl ?_
  exact rn_lret hX hr (by rw [henc]; rfl) dX7_wholeLength_22
abbrev rmX8_copyFrom : Room := { frames := 1, cells := 0, slots := 0, locals := 60 }
theorem hdV_X8_copyFrom : yX8_copyFrom.cls = RX8 ∧ yX8_copyFrom.cls ≠ "java/lang/invoke/MethodHandle" ∧ yX8_copyFrom.cls ≠ "java/lang/invoke/VarHandle" ∧ (parseMethodDescriptor yX8_copyFrom.desc).map (fun d => d.parameters.length) = some 1 := by decide +kernel
set_option maxHeartbeats 4000000 in
set_option maxRecDepth 100000 in
theorem c_X8_copyFrom (l : Launch) (G : GT) (a_this a_squares a_p0 a_p0_squares : Nat) (g_places : Int32) (g_squares : (Nat → Int32)) (g_p0_places : Int32) (g_p0_squares : (Nat → Int32)) {u : Int32 × (Nat → Int32)} (hu : X8_copyFrom g_places g_squares g_p0_places g_p0_squares = u) : Ctr l G yX8_copyFrom wsX8_copyFrom rmX8_copyFrom [.ref a_this, .ref a_p0] [(a_this, .inr (8, [.int g_places, .ref a_squares])), (a_squares, .inl (G.2.1 1, 49, .inl g_squares)), (a_p0, .inr (8, [.int g_p0_places, .ref a_p0_squares])), (a_p0_squares, .inl (G.2.1 1, 49, .inl g_p0_squares))] none [(a_this, .inr (8, [.int u.1, .ref a_squares])), (a_squares, .inl (G.2.1 1, 49, .inl u.2)), (a_p0, .inr (8, [.int g_p0_places, .ref a_p0_squares])), (a_p0_squares, .inl (G.2.1 1, 49, .inl g_p0_squares))] := by
  obtain ⟨enc, henc⟩ : ∃ enc : (Int32 × (Nat → Int32)) → Option Value × va_W, enc = fun u => ((none : Option Value), ([(a_this, .inr (8, [.int u.1, .ref a_squares])), (a_squares, .inl (G.2.1 1, 49, .inl u.2)), (a_p0, .inr (8, [.int g_p0_places, .ref a_p0_squares])), (a_p0_squares, .inl (G.2.1 1, 49, .inl g_p0_squares))] : va_W)) := ⟨_, rfl⟩
  refine ctr_of (cc := cX8_copyFrom) (own := RX8) (E := fun o => some (enc o)) (o := X8_copyFrom g_places g_squares g_p0_places g_p0_squares) (by decide) rfl rfl (L := [(0, .ref a_this), (1, .ref a_p0)]) rfl (Nat.le_of_ble_eq_true rfl) (by rw [hu, henc]) ?_
  intro Z hX hl hG hr
  subst hl; subst hG
  have copyN : (Cond.native arraycopyName).before (za Z) (zs Z) = true := hX.wd (mcC _ wd_528)
  have copyS : (Cond.static arraycopyName).before (za Z) (zs Z) = true := hX.wd (mcC _ wd_527)
  have copyI : (Cond.initialized "java/lang/System").before (za Z) (zs Z) = true := hX.wd (mcC _ wd_88)
  have fl15 : (Cond.fieldLink RX8 15 "OnlyFar$Table" "squares" "[I").before (za Z) (zs Z) = true := hX.wd (mcC _ wd_134)
  have fl9 : (Cond.fieldLink RX8 9 "OnlyFar$Table" "places" "I").before (za Z) (zs Z) = true := hX.wd (mcC _ wd_128)
  have ml25 : (Cond.methodLink RX8 25 arraycopyName).before (za Z) (zs Z) = true := hX.wd (mcC _ wd_526)
  have inX8 : ∀ w ∈ u_ws RX8 TX8 2, w ∈ wsX8_copyFrom := fun w h => mcC w (inC_X8 w h)
  unfold X8_copyFrom
  refine rn_aload_n hX dX8_copyFrom_0 0 rfl 1 rfl ?_
  refine rn_aload_n hX dX8_copyFrom_1 1 rfl 2 rfl ?_
  refine rn_get hX inX8 2 rfl rfl 0 (by decide) fl9 rfl rfl dX8_copyFrom_2 5 rfl ?_
  refine rn_put hX inX8 tyX8_ok nmX8 0 rfl rfl 0 (by decide) fl9 rfl rfl rfl rfl (Nat.le_of_ble_eq_true rfl) dX8_copyFrom_5 8 rfl (w1 := [(a_this, .inr (8, [.int g_p0_places, .ref a_squares])), (a_squares, .inl ((zG Z).2.1 1, 49, .inl g_squares)), (a_p0, .inr (8, [.int g_p0_places, .ref a_p0_squares])), (a_p0_squares, .inl ((zG Z).2.1 1, 49, .inl g_p0_squares))]) rfl ?_
  refine rn_aload_n hX dX8_copyFrom_8 1 rfl 9 rfl ?_
  refine rn_get hX inX8 2 rfl rfl 1 (by decide) fl15 rfl rfl dX8_copyFrom_9 12 rfl ?_
  refine rn_iconst hX dX8_copyFrom_12 13 rfl ic_0 ?_
  refine rn_aload_n hX dX8_copyFrom_13 0 rfl 14 rfl ?_
  refine rn_get hX inX8 0 rfl rfl 1 (by decide) fl15 rfl rfl dX8_copyFrom_14 17 rfl ?_
  refine rn_iconst hX dX8_copyFrom_17 18 rfl ic_0 ?_
  refine rn_aload_n hX dX8_copyFrom_18 0 rfl 19 rfl ?_
  refine rn_get hX inX8 0 rfl rfl 1 (by decide) fl15 rfl rfl dX8_copyFrom_19 22 rfl ?_
  refine rn_alen hX (t0 := 1) 1 rfl rfl (v := (49 : Int32)) rfl dX8_copyFrom_22 23 rfl ?_
  refine rn_copyi hX ml25 copyN copyS copyI 3 1 rfl rfl (by decide) (by decide) (by decide) (by decide) (by decide) (Nat.le_of_ble_eq_true rfl) (Nat.le_of_ble_eq_true rfl) dX8_copyFrom_23 26 rfl (w1 := fun m1 => [(a_this, .inr (8, [.int g_p0_places, .ref a_squares])), (a_squares, .inl ((zG Z).2.1 1, 49, .inl m1)), (a_p0, .inr (8, [.int g_p0_places, .ref a_p0_squares])), (a_p0_squares, .inl ((zG Z).2.1 1, 49, .inl g_p0_squares))]) (fun _ => rfl) (fun m1 => ?_)
  exact rn_vret hX hr (by rw [henc]) dX8_copyFrom_26
abbrev rmX8_isPlace : Room := { frames := 0, cells := 0, slots := 0, locals := 0 }
theorem hdV_X8_isPlace : yX8_isPlace.cls = RX8 ∧ yX8_isPlace.cls ≠ "java/lang/invoke/MethodHandle" ∧ yX8_isPlace.cls ≠ "java/lang/invoke/VarHandle" ∧ (parseMethodDescriptor yX8_isPlace.desc).map (fun d => d.parameters.length) = some 1 := by decide +kernel
set_option maxHeartbeats 4000000 in
set_option maxRecDepth 100000 in
theorem c_X8_isPlace (l : Launch) (G : GT) (a_this a_squares : Nat) (g_places : Int32) (x1 : Int32) {u : Int32} (hu : X8_isPlace x1 g_places = u) : Ctr l G yX8_isPlace wsX8_isPlace rmX8_isPlace [.ref a_this, .int x1] [(a_this, .inr (8, [.int g_places, .ref a_squares]))] (some (.int u)) [(a_this, .inr (8, [.int g_places, .ref a_squares]))] := by
  obtain ⟨enc, henc⟩ : ∃ enc : (Int32) → Option Value × va_W, enc = fun u => (((some (.int u)) : Option Value), ([(a_this, .inr (8, [.int g_places, .ref a_squares]))] : va_W)) := ⟨_, rfl⟩
  refine ctr_of (cc := cX8_isPlace) (own := RX8) (E := fun o => some (enc o)) (o := X8_isPlace x1 g_places) (by decide) rfl rfl (L := [(0, .ref a_this), (1, .int x1)]) rfl (Nat.le_of_ble_eq_true rfl) (by rw [hu, henc]) ?_
  intro Z hX hl hG hr
  subst hl; subst hG
  have fl9 : (Cond.fieldLink RX8 9 "OnlyFar$Table" "places" "I").before (za Z) (zs Z) = true := hX.wd (mcC _ wd_128)
  have inX8 : ∀ w ∈ u_ws RX8 TX8 2, w ∈ wsX8_isPlace := fun w h => mcC w (inC_X8 w h)
  unfold X8_isPlace
  refine rn_iload_n hX dX8_isPlace_0 1 rfl 1 rfl ?_
  refine rn_if_lt hX dX8_isPlace_1 16 (by decide) 4 rfl ?_ ?_
  · refine rn_iconst hX dX8_isPlace_16 17 rfl ic_0 ?_
    exact rn_zret hX rfl hr (by rw [henc]) dX8_isPlace_17
  refine rn_iload_n hX dX8_isPlace_4 1 rfl 5 rfl ?_
  refine rn_aload_n hX dX8_isPlace_5 0 rfl 6 rfl ?_
  refine rn_get hX inX8 0 rfl rfl 0 (by decide) fl9 rfl rfl dX8_isPlace_6 9 rfl ?_
  refine rn_icmp_ge hX dX8_isPlace_9 16 (by decide) 12 rfl ?_ ?_
  · refine rn_iconst hX dX8_isPlace_16 17 rfl ic_0 ?_
    exact rn_zret hX rfl hr (by rw [henc]) dX8_isPlace_17
  refine rn_iconst hX dX8_isPlace_12 13 rfl ic_1 ?_
  refine rn_goto hX dX8_isPlace_13 17 (by decide) ?_
  exact rn_zret hX rfl hr (by rw [henc]) dX8_isPlace_17
abbrev rmX8_areTwo : Room := { frames := 1, cells := 0, slots := 0, locals := 21 }
theorem hdV_X8_areTwo : yX8_areTwo.cls = RX8 ∧ yX8_areTwo.cls ≠ "java/lang/invoke/MethodHandle" ∧ yX8_areTwo.cls ≠ "java/lang/invoke/VarHandle" ∧ (parseMethodDescriptor yX8_areTwo.desc).map (fun d => d.parameters.length) = some 2 := by decide +kernel
set_option maxHeartbeats 4000000 in
set_option maxRecDepth 100000 in
theorem c_X8_areTwo (l : Launch) (G : GT) (a_this a_squares : Nat) (g_places : Int32) (x1 : Int32) (x2 : Int32) {u : Int32} (hu : X8_areTwo x1 x2 g_places = u) : Ctr l G yX8_areTwo wsX8_areTwo rmX8_areTwo [.ref a_this, .int x1, .int x2] [(a_this, .inr (8, [.int g_places, .ref a_squares]))] (some (.int u)) [(a_this, .inr (8, [.int g_places, .ref a_squares]))] := by
  obtain ⟨enc, henc⟩ : ∃ enc : (Int32) → Option Value × va_W, enc = fun u => (((some (.int u)) : Option Value), ([(a_this, .inr (8, [.int g_places, .ref a_squares]))] : va_W)) := ⟨_, rfl⟩
  refine ctr_of (cc := cX8_areTwo) (own := RX8) (E := fun o => some (enc o)) (o := X8_areTwo x1 x2 g_places) (by decide) rfl rfl (L := [(0, .ref a_this), (1, .int x1), (2, .int x2)]) rfl (Nat.le_of_ble_eq_true rfl) (by rw [hu, henc]) ?_
  intro Z hX hl hG hr
  subst hl; subst hG
  unfold X8_areTwo
  refine rn_aload_n hX dX8_areTwo_0 0 rfl 1 rfl ?_
  refine rn_iload_n hX dX8_areTwo_1 1 rfl 2 rfl ?_
  refine rn_callV0 hX (gV mcC wd_541 wd_542 wd_543 wd_73 wd_544) rfl hdV_X8_isPlace rfl rfl ⟨Nat.le_of_ble_eq_true rfl, Nat.le_of_ble_eq_true rfl⟩ (c_X8_isPlace (zl Z) (zG Z) a_this a_squares g_places x1 rfl) rfl [0] rfl rfl (ci := 8) rfl rfl rfl (Nat.le_of_ble_eq_true rfl) dX8_areTwo_2 5 rfl (S' := [.int (X8_isPlace x1 g_places)]) rfl ⟨Nat.zero_le _, Nat.zero_le _⟩ ?_
  refine rn_if_eq hX dX8_areTwo_5 25 (by decide) 8 rfl ?_ ?_
  · refine rn_iconst hX dX8_areTwo_25 26 rfl ic_0 ?_
    exact rn_zret hX rfl hr (by rw [henc]) dX8_areTwo_26
  refine rn_aload_n hX dX8_areTwo_8 0 rfl 9 rfl ?_
  refine rn_iload_n hX dX8_areTwo_9 2 rfl 10 rfl ?_
  refine rn_callV0 hX (gV mcC wd_541 wd_542 wd_543 wd_73 wd_544) rfl hdV_X8_isPlace rfl rfl ⟨Nat.le_of_ble_eq_true rfl, Nat.le_of_ble_eq_true rfl⟩ (c_X8_isPlace (zl Z) (zG Z) a_this a_squares g_places x2 rfl) rfl [0] rfl rfl (ci := 8) rfl rfl rfl (Nat.le_of_ble_eq_true rfl) dX8_areTwo_10 13 rfl (S' := [.int (X8_isPlace x2 g_places)]) rfl ⟨Nat.zero_le _, Nat.zero_le _⟩ ?_
  refine rn_if_eq hX dX8_areTwo_13 25 (by decide) 16 rfl ?_ ?_
  · refine rn_iconst hX dX8_areTwo_25 26 rfl ic_0 ?_
    exact rn_zret hX rfl hr (by rw [henc]) dX8_areTwo_26
  refine rn_iload_n hX dX8_areTwo_16 1 rfl 17 rfl ?_
  refine rn_iload_n hX dX8_areTwo_17 2 rfl 18 rfl ?_
  refine rn_icmp_eq hX dX8_areTwo_18 25 (by decide) 21 rfl ?_ ?_
  · refine rn_iconst hX dX8_areTwo_25 26 rfl ic_0 ?_
    exact rn_zret hX rfl hr (by rw [henc]) dX8_areTwo_26
  refine rn_iconst hX dX8_areTwo_21 22 rfl ic_1 ?_
  refine rn_goto hX dX8_areTwo_22 26 (by decide) ?_
  exact rn_zret hX rfl hr (by rw [henc]) dX8_areTwo_26
abbrev rmX8_areThree : Room := { frames := 2, cells := 0, slots := 0, locals := 43 }
theorem hdV_X8_areThree : yX8_areThree.cls = RX8 ∧ yX8_areThree.cls ≠ "java/lang/invoke/MethodHandle" ∧ yX8_areThree.cls ≠ "java/lang/invoke/VarHandle" ∧ (parseMethodDescriptor yX8_areThree.desc).map (fun d => d.parameters.length) = some 3 := by decide +kernel
set_option maxHeartbeats 4000000 in
set_option maxRecDepth 100000 in
theorem c_X8_areThree (l : Launch) (G : GT) (a_this a_squares : Nat) (g_places : Int32) (x1 : Int32) (x2 : Int32) (x3 : Int32) {u : Int32} (hu : X8_areThree x1 x2 x3 g_places = u) : Ctr l G yX8_areThree wsX8_areThree rmX8_areThree [.ref a_this, .int x1, .int x2, .int x3] [(a_this, .inr (8, [.int g_places, .ref a_squares]))] (some (.int u)) [(a_this, .inr (8, [.int g_places, .ref a_squares]))] := by
  obtain ⟨enc, henc⟩ : ∃ enc : (Int32) → Option Value × va_W, enc = fun u => (((some (.int u)) : Option Value), ([(a_this, .inr (8, [.int g_places, .ref a_squares]))] : va_W)) := ⟨_, rfl⟩
  refine ctr_of (cc := cX8_areThree) (own := RX8) (E := fun o => some (enc o)) (o := X8_areThree x1 x2 x3 g_places) (by decide) rfl rfl (L := [(0, .ref a_this), (1, .int x1), (2, .int x2), (3, .int x3)]) rfl (Nat.le_of_ble_eq_true rfl) (by rw [hu, henc]) ?_
  intro Z hX hl hG hr
  subst hl; subst hG
  unfold X8_areThree
  refine rn_aload_n hX dX8_areThree_0 0 rfl 1 rfl ?_
  refine rn_iload_n hX dX8_areThree_1 1 rfl 2 rfl ?_
  refine rn_iload_n hX dX8_areThree_2 2 rfl 3 rfl ?_
  refine rn_callV0 hX (gV mcC wd_577 wd_538 wd_539 wd_73 wd_540) rfl hdV_X8_areTwo rfl rfl ⟨Nat.le_of_ble_eq_true rfl, Nat.le_of_ble_eq_true rfl⟩ (c_X8_areTwo (zl Z) (zG Z) a_this a_squares g_places x1 x2 rfl) rfl [0] rfl rfl (ci := 8) rfl rfl rfl (Nat.le_of_ble_eq_true rfl) dX8_areThree_3 6 rfl (S' := [.int (X8_areTwo x1 x2 g_places)]) rfl ⟨Nat.zero_le _, Nat.zero_le _⟩ ?_
  refine rn_if_eq hX dX8_areThree_6 27 (by decide) 9 rfl ?_ ?_
  · refine rn_iconst hX dX8_areThree_27 28 rfl ic_0 ?_
    exact rn_zret hX rfl hr (by rw [henc]) dX8_areThree_28
  refine rn_aload_n hX dX8_areThree_9 0 rfl 10 rfl ?_
  refine rn_iload_n hX dX8_areThree_10 1 rfl 11 rfl ?_
  refine rn_iload_n hX dX8_areThree_11 3 rfl 12 rfl ?_
  refine rn_callV0 hX (gV mcC wd_577 wd_538 wd_539 wd_73 wd_540) rfl hdV_X8_areTwo rfl rfl ⟨Nat.le_of_ble_eq_true rfl, Nat.le_of_ble_eq_true rfl⟩ (c_X8_areTwo (zl Z) (zG Z) a_this a_squares g_places x1 x3 rfl) rfl [0] rfl rfl (ci := 8) rfl rfl rfl (Nat.le_of_ble_eq_true rfl) dX8_areThree_12 15 rfl (S' := [.int (X8_areTwo x1 x3 g_places)]) rfl ⟨Nat.zero_le _, Nat.zero_le _⟩ ?_
  refine rn_if_eq hX dX8_areThree_15 27 (by decide) 18 rfl ?_ ?_
  · refine rn_iconst hX dX8_areThree_27 28 rfl ic_0 ?_
    exact rn_zret hX rfl hr (by rw [henc]) dX8_areThree_28
  refine rn_iload_n hX dX8_areThree_18 2 rfl 19 rfl ?_
  refine rn_iload_n hX dX8_areThree_19 3 rfl 20 rfl ?_
  refine rn_icmp_eq hX dX8_areThree_20 27 (by decide) 23 rfl ?_ ?_
  · refine rn_iconst hX dX8_areThree_27 28 rfl ic_0 ?_
    exact rn_zret hX rfl hr (by rw [henc]) dX8_areThree_28
  refine rn_iconst hX dX8_areThree_23 24 rfl ic_1 ?_
  refine rn_goto hX dX8_areThree_24 28 (by decide) ?_
  exact rn_zret hX rfl hr (by rw [henc]) dX8_areThree_28
abbrev rmX8_areFour : Room := { frames := 3, cells := 0, slots := 0, locals := 66 }
theorem hdV_X8_areFour : yX8_areFour.cls = RX8 ∧ yX8_areFour.cls ≠ "java/lang/invoke/MethodHandle" ∧ yX8_areFour.cls ≠ "java/lang/invoke/VarHandle" ∧ (parseMethodDescriptor yX8_areFour.desc).map (fun d => d.parameters.length) = some 4 := by decide +kernel
set_option maxHeartbeats 4000000 in
set_option maxRecDepth 100000 in
theorem c_X8_areFour (l : Launch) (G : GT) (a_this a_squares : Nat) (g_places : Int32) (x1 : Int32) (x2 : Int32) (x3 : Int32) (x4 : Int32) {u : Int32} (hu : X8_areFour x1 x2 x3 x4 g_places = u) : Ctr l G yX8_areFour wsX8_areFour rmX8_areFour [.ref a_this, .int x1, .int x2, .int x3, .int x4] [(a_this, .inr (8, [.int g_places, .ref a_squares]))] (some (.int u)) [(a_this, .inr (8, [.int g_places, .ref a_squares]))] := by
  obtain ⟨enc, henc⟩ : ∃ enc : (Int32) → Option Value × va_W, enc = fun u => (((some (.int u)) : Option Value), ([(a_this, .inr (8, [.int g_places, .ref a_squares]))] : va_W)) := ⟨_, rfl⟩
  refine ctr_of (cc := cX8_areFour) (own := RX8) (E := fun o => some (enc o)) (o := X8_areFour x1 x2 x3 x4 g_places) (by decide) rfl rfl (L := [(0, .ref a_this), (1, .int x1), (2, .int x2), (3, .int x3), (4, .int x4)]) rfl (Nat.le_of_ble_eq_true rfl) (by rw [hu, henc]) ?_
  intro Z hX hl hG hr
  subst hl; subst hG
  unfold X8_areFour
  refine rn_aload_n hX dX8_areFour_0 0 rfl 1 rfl ?_
  refine rn_iload_n hX dX8_areFour_1 1 rfl 2 rfl ?_
  refine rn_iload_n hX dX8_areFour_2 2 rfl 3 rfl ?_
  refine rn_iload_n hX dX8_areFour_3 3 rfl 4 rfl ?_
  refine rn_callV0 hX (gV mcC wd_612 wd_574 wd_575 wd_73 wd_576) rfl hdV_X8_areThree rfl rfl ⟨Nat.le_of_ble_eq_true rfl, Nat.le_of_ble_eq_true rfl⟩ (c_X8_areThree (zl Z) (zG Z) a_this a_squares g_places x1 x2 x3 rfl) rfl [0] rfl rfl (ci := 8) rfl rfl rfl (Nat.le_of_ble_eq_true rfl) dX8_areFour_4 7 rfl (S' := [.int (X8_areThree x1 x2 x3 g_places)]) rfl ⟨Nat.zero_le _, Nat.zero_le _⟩ ?_
  refine rn_if_eq hX dX8_areFour_7 31 (by decide) 10 rfl ?_ ?_
  · refine rn_iconst hX dX8_areFour_31 32 rfl ic_0 ?_
    exact rn_zret hX rfl hr (by rw [henc]) dX8_areFour_32
  refine rn_aload_n hX dX8_areFour_10 0 rfl 11 rfl ?_
  refine rn_iload_n hX dX8_areFour_11 1 rfl 12 rfl ?_
  refine rn_iload_n hX dX8_areFour_12 2 rfl 13 rfl ?_
  refine rn_iload hX dX8_areFour_13 4 rfl 15 rfl ?_
  refine rn_callV0 hX (gV mcC wd_612 wd_574 wd_575 wd_73 wd_576) rfl hdV_X8_areThree rfl rfl ⟨Nat.le_of_ble_eq_true rfl, Nat.le_of_ble_eq_true rfl⟩ (c_X8_areThree (zl Z) (zG Z) a_this a_squares g_places x1 x2 x4 rfl) rfl [0] rfl rfl (ci := 8) rfl rfl rfl (Nat.le_of_ble_eq_true rfl) dX8_areFour_15 18 rfl (S' := [.int (X8_areThree x1 x2 x4 g_places)]) rfl ⟨Nat.zero_le _, Nat.zero_le _⟩ ?_
  refine rn_if_eq hX dX8_areFour_18 31 (by decide) 21 rfl ?_ ?_
  · refine rn_iconst hX dX8_areFour_31 32 rfl ic_0 ?_
    exact rn_zret hX rfl hr (by rw [henc]) dX8_areFour_32
  refine rn_iload_n hX dX8_areFour_21 3 rfl 22 rfl ?_
  refine rn_iload hX dX8_areFour_22 4 rfl 24 rfl ?_
  refine rn_icmp_eq hX dX8_areFour_24 31 (by decide) 27 rfl ?_ ?_
  · refine rn_iconst hX dX8_areFour_31 32 rfl ic_0 ?_
    exact rn_zret hX rfl hr (by rw [henc]) dX8_areFour_32
  refine rn_iconst hX dX8_areFour_27 28 rfl ic_1 ?_
  refine rn_goto hX dX8_areFour_28 32 (by decide) ?_
  exact rn_zret hX rfl hr (by rw [henc]) dX8_areFour_32
abbrev rmX8_toldOrNone : Room := { frames := 1, cells := 0, slots := 0, locals := 22 }
theorem hdV_X8_toldOrNone : yX8_toldOrNone.cls = RX8 ∧ yX8_toldOrNone.cls ≠ "java/lang/invoke/MethodHandle" ∧ yX8_toldOrNone.cls ≠ "java/lang/invoke/VarHandle" ∧ (parseMethodDescriptor yX8_toldOrNone.desc).map (fun d => d.parameters.length) = some 2 := by decide +kernel
set_option maxHeartbeats 4000000 in
set_option maxRecDepth 100000 in
theorem c_X8_toldOrNone (l : Launch) (G : GT) (a_this a_squares : Nat) (g_places : Int32) (g_squares : (Nat → Int32)) (x1 : Int32) (x2 : Int32) {u : Int32} (hu : X8_toldOrNone x1 x2 g_squares = some u) : Ctr l G yX8_toldOrNone wsX8_toldOrNone rmX8_toldOrNone [.ref a_this, .int x1, .int x2] [(a_this, .inr (8, [.int g_places, .ref a_squares])), (a_squares, .inl (G.2.1 1, 49, .inl g_squares))] (some (.int u)) [(a_this, .inr (8, [.int g_places, .ref a_squares])), (a_squares, .inl (G.2.1 1, 49, .inl g_squares))] := by
  obtain ⟨enc, henc⟩ : ∃ enc : (Int32) → Option Value × va_W, enc = fun u => (((some (.int u)) : Option Value), ([(a_this, .inr (8, [.int g_places, .ref a_squares])), (a_squares, .inl (G.2.1 1, 49, .inl g_squares))] : va_W)) := ⟨_, rfl⟩
  refine ctr_of (cc := cX8_toldOrNone) (own := RX8) (E := Option.map enc) (o := X8_toldOrNone x1 x2 g_squares) (by decide) rfl rfl (L := [(0, .ref a_this), (1, .int x1), (2, .int x2)]) rfl (Nat.le_of_ble_eq_true rfl) (by rw [hu, henc]; rfl) ?_
  intro Z hX hl hG hr
  subst hl; subst hG
  unfold X8_toldOrNone
  refine rn_aload_n hX dX8_toldOrNone_0 0 rfl 1 rfl ?_
  refine rn_iload_n hX dX8_toldOrNone_1 1 rfl 2 rfl ?_
  refine rn_iload_n hX dX8_toldOrNone_2 2 rfl 3 rfl ?_
  refine rn_bind (fun u1 hu1 => ?_)
  refine rn_callV0 hX (gV mcC wd_549 wd_512 wd_513 wd_73 wd_514) rfl hdV_X8_square rfl rfl ⟨Nat.le_of_ble_eq_true rfl, Nat.le_of_ble_eq_true rfl⟩ (c_X8_square (zl Z) (zG Z) a_this a_squares g_places g_squares x1 x2 hu1) rfl [0, 1] rfl rfl (ci := 8) rfl rfl rfl (Nat.le_of_ble_eq_true rfl) dX8_toldOrNone_3 6 rfl (S' := [.int u1]) rfl ⟨Nat.zero_le _, Nat.zero_le _⟩ ?_
  refine rn_istore_n hX dX8_toldOrNone_6 3 rfl (by decide) (L' := [(3, .int u1), (0, .ref a_this), (1, .int x1), (2, .int x2)]) rfl 7 rfl ?_
  refine rn_iload_n hX dX8_toldOrNone_7 0 rfl 8 rfl ?_
  refine rn_if_ne hX dX8_toldOrNone_8 16 (by decide) 11 rfl ?_ ?_
  · refine rn_iload_n hX dX8_toldOrNone_16 0 rfl 17 rfl ?_
    exact rn_iret hX hr (by rw [henc]; rfl) dX8_toldOrNone_17
  refine rn_bipush hX dX8_toldOrNone_11 13 rfl bp_m4 ?_
  refine rn_goto hX dX8_toldOrNone_13 17 (by decide) ?_
  exact rn_iret hX hr (by rw [henc]; rfl) dX8_toldOrNone_17
