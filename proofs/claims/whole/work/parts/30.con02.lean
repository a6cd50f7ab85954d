abbrev rmX1_lookAtThree : Room := { frames := 4, cells := 0, slots := 0, locals := 105 }
theorem hdV_X1_lookAtThree : yX1_lookAtThree.cls = RX1 ∧ yX1_lookAtThree.cls ≠ "java/lang/invoke/MethodHandle" ∧ yX1_lookAtThree.cls ≠ "java/lang/invoke/VarHandle" ∧ (parseMethodDescriptor yX1_lookAtThree.desc).map (fun d => d.parameters.length) = some 4 := by decide +kernel
set_option maxHeartbeats 4000000 in
set_option maxRecDepth 100000 in
theorem c_X1_lookAtThree (l : Launch) (G : GT) (a_this a_flaws a_p0 a_p0_squares : Nat) (g_badThrees : Int32) (g_badFours : Int32) (g_flatThrees : Int32) (g_toldThrees : Int32) (g_size : Int32) (g_fewest : Int32) (g_flaws : (Nat → Int32)) (g_p0_places : Int32) (g_p0_squares : (Nat → Int32)) (x2 : Int32) (x3 : Int32) (x4 : Int32) {u : Int32 × Int32 × Int32 × Int32 × Int32 × (Nat → Int32)} (hu : X1_lookAtThree x2 x3 x4 g_badFours g_badThrees g_flatThrees g_size g_toldThrees g_flaws g_p0_places g_p0_squares = some u) : Ctr l G yX1_lookAtThree wsX1_lookAtThree rmX1_lookAtThree [.ref a_this, .ref a_p0, .int x2, .int x3, .int x4] [(a_this, .inr (1, [.int g_badThrees, .int g_badFours, .int g_flatThrees, .int g_toldThrees, .ref a_flaws, .int g_size, .int g_fewest])), (a_flaws, .inl (G.2.1 1, 70, .inl g_flaws)), (a_p0, .inr (8, [.int g_p0_places, .ref a_p0_squares])), (a_p0_squares, .inl (G.2.1 1, 49, .inl g_p0_squares))] none [(a_this, .inr (1, [.int u.2.1, .int u.1, .int u.2.2.1, .int u.2.2.2.2.1, .ref a_flaws, .int u.2.2.2.1, .int g_fewest])), (a_flaws, .inl (G.2.1 1, 70, .inl u.2.2.2.2.2)), (a_p0, .inr (8, [.int g_p0_places, .ref a_p0_squares])), (a_p0_squares, .inl (G.2.1 1, 49, .inl g_p0_squares))] := by
  obtain ⟨enc, henc⟩ : ∃ enc : (Int32 × Int32 × Int32 × Int32 × Int32 × (Nat → Int32)) → Option Value × va_W, enc = fun u => ((none : Option Value), ([(a_this, .inr (1, [.int u.2.1, .int u.1, .int u.2.2.1, .int u.2.2.2.2.1, .ref a_flaws, .int u.2.2.2.1, .int g_fewest])), (a_flaws, .inl (G.2.1 1, 70, .inl u.2.2.2.2.2)), (a_p0, .inr (8, [.int g_p0_places, .ref a_p0_squares])), (a_p0_squares, .inl (G.2.1 1, 49, .inl g_p0_squares))] : va_W)) := ⟨_, rfl⟩
  refine ctr_of (cc := cX1_lookAtThree) (own := RX1) (E := Option.map enc) (o := X1_lookAtThree x2 x3 x4 g_badFours g_badThrees g_flatThrees g_size g_toldThrees g_flaws g_p0_places g_p0_squares) (by decide) rfl rfl (L := [(0, .ref a_this), (1, .ref a_p0), (2, .int x2), (3, .int x3), (4, .int x4)]) rfl (Nat.le_of_ble_eq_true rfl) (by rw [hu, henc]; rfl) ?_
  intro Z hX hl hG hr
  subst hl; subst hG
  have fl15 : (Cond.fieldLink RX1 15 "OnlyFar$Flaws" "badThrees" "I").before (za Z) (zs Z) = true := hX.wd (mcC _ wd_244)
  have fl19 : (Cond.fieldLink RX1 19 "OnlyFar$Flaws" "badFours" "I").before (za Z) (zs Z) = true := hX.wd (mcC _ wd_246)
  have fl22 : (Cond.fieldLink RX1 22 "OnlyFar$Flaws" "flatThrees" "I").before (za Z) (zs Z) = true := hX.wd (mcC _ wd_248)
  have fl25 : (Cond.fieldLink RX1 25 "OnlyFar$Flaws" "toldThrees" "I").before (za Z) (zs Z) = true := hX.wd (mcC _ wd_250)
  have fl31 : (Cond.fieldLink RX1 31 "OnlyFar$Table" "places" "I").before (za Z) (zs Z) = true := hX.wd (mcC _ wd_130)
  have inX1 : ∀ w ∈ u_ws RX1 TX1 7, w ∈ wsX1_lookAtThree := fun w h => mcC w (inC_X1 w h)
  have inX8 : ∀ w ∈ u_ws RX8 TX8 2, w ∈ wsX1_lookAtThree := fun w h => mcC w (inC_X8 w h)
  have hJ160 : ∀ (again : Int32 → Int32 → Int32 → Int32 → Int32 → Int32 → Int32 → Int32 → Int32 → (Nat → Int32) → Option (Int32 × Int32 × Int32 × Int32 × Int32 × (Nat → Int32))) (hagain : ∀ (x2 : Int32) (x3 : Int32) (x4 : Int32) (x7 : Int32) (g_badFours : Int32) (g_badThrees : Int32) (g_flatThrees : Int32) (g_size : Int32) (g_toldThrees : Int32) (g_flaws : (Nat → Int32)), Rn Z 8 (Option.map enc) 0 0 86 [(0, .ref a_this), (1, .ref a_p0), (2, .int x2), (3, .int x3), (4, .int x4), (7, .int x7)] [] [(a_this, .inr (1, [.int g_badThrees, .int g_badFours, .int g_flatThrees, .int g_toldThrees, .ref a_flaws, .int g_size, .int g_fewest])), (a_flaws, .inl ((zG Z).2.1 1, 70, .inl g_flaws)), (a_p0, .inr (8, [.int g_p0_places, .ref a_p0_squares])), (a_p0_squares, .inl ((zG Z).2.1 1, 49, .inl g_p0_squares))] (again x2 x3 x4 x7 g_badFours g_badThrees g_flatThrees g_size g_toldThrees g_flaws)) (x2 : Int32) (x3 : Int32) (x4 : Int32) (x7 : Int32) (g_badFours : Int32) (g_badThrees : Int32) (g_flatThrees : Int32) (g_size : Int32) (g_toldThrees : Int32) (g_flaws : (Nat → Int32)), Rn Z 8 (Option.map enc) 0 0 160 [(0, .ref a_this), (1, .ref a_p0), (2, .int x2), (3, .int x3), (4, .int x4), (7, .int x7)] [] [(a_this, .inr (1, [.int g_badThrees, .int g_badFours, .int g_flatThrees, .int g_toldThrees, .ref a_flaws, .int g_size, .int g_fewest])), (a_flaws, .inl ((zG Z).2.1 1, 70, .inl g_flaws)), (a_p0, .inr (8, [.int g_p0_places, .ref a_p0_squares])), (a_p0_squares, .inl ((zG Z).2.1 1, 49, .inl g_p0_squares))] (X1_lookAtThree_J160 again x2 x3 x4 x7 g_badFours g_badThrees g_flatThrees g_size g_toldThrees g_flaws) := by
    intro again hagain x2 x3 x4 x7 g_badFours g_badThrees g_flatThrees g_size g_toldThrees g_flaws
    unfold X1_lookAtThree_J160
    refine rn_iinc hX dX1_lookAtThree_160 5 rfl ic_1 (by decide) (L' := fun v1 => [(7, .int v1), (0, .ref a_this), (1, .ref a_p0), (2, .int x2), (3, .int x3), (4, .int x4)]) (fun _ => rfl) 163 rfl (fun v1 => ?_)
    refine rn_goto hX dX1_lookAtThree_163 86 (by decide) ?_
    refine rn_sub [1, 2, 3, 4, 5, 0] rfl ?_
    exact hagain x2 x3 x4 v1 g_badFours g_badThrees g_flatThrees g_size g_toldThrees g_flaws
  have hB86 : ∀ (again : Int32 → Int32 → Int32 → Int32 → Int32 → Int32 → Int32 → Int32 → Int32 → (Nat → Int32) → Option (Int32 × Int32 × Int32 × Int32 × Int32 × (Nat → Int32))) (hagain : ∀ (x2 : Int32) (x3 : Int32) (x4 : Int32) (x7 : Int32) (g_badFours : Int32) (g_badThrees : Int32) (g_flatThrees : Int32) (g_size : Int32) (g_toldThrees : Int32) (g_flaws : (Nat → Int32)), Rn Z 8 (Option.map enc) 0 0 86 [(0, .ref a_this), (1, .ref a_p0), (2, .int x2), (3, .int x3), (4, .int x4), (7, .int x7)] [] [(a_this, .inr (1, [.int g_badThrees, .int g_badFours, .int g_flatThrees, .int g_toldThrees, .ref a_flaws, .int g_size, .int g_fewest])), (a_flaws, .inl ((zG Z).2.1 1, 70, .inl g_flaws)), (a_p0, .inr (8, [.int g_p0_places, .ref a_p0_squares])), (a_p0_squares, .inl ((zG Z).2.1 1, 49, .inl g_p0_squares))] (again x2 x3 x4 x7 g_badFours g_badThrees g_flatThrees g_size g_toldThrees g_flaws)) (x2 : Int32) (x3 : Int32) (x4 : Int32) (x7 : Int32) (g_badFours : Int32) (g_badThrees : Int32) (g_flatThrees : Int32) (g_size : Int32) (g_toldThrees : Int32) (g_flaws : (Nat → Int32)), Rn Z 8 (Option.map enc) 0 0 86 [(0, .ref a_this), (1, .ref a_p0), (2, .int x2), (3, .int x3), (4, .int x4), (7, .int x7)] [] [(a_this, .inr (1, [.int g_badThrees, .int g_badFours, .int g_flatThrees, .int g_toldThrees, .ref a_flaws, .int g_size, .int g_fewest])), (a_flaws, .inl ((zG Z).2.1 1, 70, .inl g_flaws)), (a_p0, .inr (8, [.int g_p0_places, .ref a_p0_squares])), (a_p0_squares, .inl ((zG Z).2.1 1, 49, .inl g_p0_squares))] (X1_lookAtThree_B86 g_p0_places g_p0_squares again x2 x3 x4 x7 g_badFours g_badThrees g_flatThrees g_size g_toldThrees g_flaws) := by
    intro again hagain x2 x3 x4 x7 g_badFours g_badThrees g_flatThrees g_size g_toldThrees g_flaws
    unfold X1_lookAtThree_B86
    refine rn_iload hX dX1_lookAtThree_86 5 rfl 88 rfl ?_
    refine rn_aload_n hX dX1_lookAtThree_88 1 rfl 89 rfl ?_
    refine rn_get hX inX8 2 rfl rfl 0 (by decide) fl31 rfl rfl dX1_lookAtThree_89 92 rfl ?_
    refine rn_icmp_ge hX dX1_lookAtThree_92 166 (by decide) 95 rfl ?_ ?_
    · exact rn_vret hX hr (by rw [henc]; rfl) dX1_lookAtThree_166
    refine rn_aload_n hX dX1_lookAtThree_95 1 rfl 96 rfl ?_
    refine rn_iload_n hX dX1_lookAtThree_96 2 rfl 97 rfl ?_
    refine rn_iload_n hX dX1_lookAtThree_97 3 rfl 98 rfl ?_
    refine rn_iload hX dX1_lookAtThree_98 4 rfl 100 rfl ?_
    refine rn_iload hX dX1_lookAtThree_100 5 rfl 102 rfl ?_
    refine rn_bind (fun u2 hu2 => ?_)
    refine rn_callV0 hX (gV mcC wd_654 wd_614 wd_615 wd_73 wd_616) rfl hdV_X8_isToldFour rfl rfl ⟨Nat.le_of_ble_eq_true rfl, Nat.le_of_ble_eq_true rfl⟩ (c_X8_isToldFour (zl Z) (zG Z) a_p0 a_p0_squares g_p0_places g_p0_squares x2 x3 x4 x7 hu2) rfl [2, 3] rfl rfl (ci := 8) rfl rfl rfl (Nat.le_of_ble_eq_true rfl) dX1_lookAtThree_102 105 rfl (S' := [.int u2]) rfl ⟨Nat.zero_le _, Nat.zero_le _⟩ ?_
    refine rn_if_eq hX dX1_lookAtThree_105 160 (by decide) 108 rfl ?_ ?_
    · exact (hJ160 _ hagain) x2 x3 x4 x7 g_badFours g_badThrees g_flatThrees g_size g_toldThrees g_flaws
    refine rn_aload_n hX dX1_lookAtThree_108 1 rfl 109 rfl ?_
    refine rn_iload_n hX dX1_lookAtThree_109 2 rfl 110 rfl ?_
    refine rn_iload_n hX dX1_lookAtThree_110 3 rfl 111 rfl ?_
    refine rn_iload hX dX1_lookAtThree_111 4 rfl 113 rfl ?_
    refine rn_iload hX dX1_lookAtThree_113 5 rfl 115 rfl ?_
    refine rn_bind (fun u3 hu3 => ?_)
    refine rn_callV0 hX (gV mcC wd_655 wd_619 wd_620 wd_73 wd_621) rfl hdV_X8_canBeFour rfl rfl ⟨Nat.le_of_ble_eq_true rfl, Nat.le_of_ble_eq_true rfl⟩ (c_X8_canBeFour (zl Z) (zG Z) a_p0 a_p0_squares g_p0_places g_p0_squares x2 x3 x4 x7 hu3) rfl [2, 3] rfl rfl (ci := 8) rfl rfl rfl (Nat.le_of_ble_eq_true rfl) dX1_lookAtThree_115 118 rfl (S' := [.int u3]) rfl ⟨Nat.zero_le _, Nat.zero_le _⟩ ?_
    refine rn_if_ne hX dX1_lookAtThree_118 160 (by decide) 121 rfl ?_ ?_
    · exact (hJ160 _ hagain) x2 x3 x4 x7 g_badFours g_badThrees g_flatThrees g_size g_toldThrees g_flaws
    refine rn_aload_n hX dX1_lookAtThree_121 0 rfl 122 rfl ?_
    refine rn_dup hX dX1_lookAtThree_122 123 rfl rfl ?_
    refine rn_get hX inX1 0 rfl rfl 1 (by decide) fl19 rfl rfl dX1_lookAtThree_123 126 rfl ?_
    refine rn_iconst hX dX1_lookAtThree_126 127 rfl ic_1 ?_
    refine rn_iadd hX dX1_lookAtThree_127 128 rfl ?_
    refine rn_lati (fun v4 => ?_)
    refine rn_put hX inX1 tyX1_ok nmX1 0 rfl rfl 1 (by decide) fl19 rfl rfl rfl rfl (Nat.le_of_ble_eq_true rfl) dX1_lookAtThree_128 131 rfl (w1 := [(a_this, .inr (1, [.int g_badThrees, .int v4, .int g_flatThrees, .int g_toldThrees, .ref a_flaws, .int g_size, .int g_fewest])), (a_flaws, .inl ((zG Z).2.1 1, 70, .inl g_flaws)), (a_p0, .inr (8, [.int g_p0_places, .ref a_p0_squares])), (a_p0_squares, .inl ((zG Z).2.1 1, 49, .inl g_p0_squares))]) rfl ?_
    refine rn_aload_n hX dX1_lookAtThree_131 0 rfl 132 rfl ?_
    refine rn_iload_n hX dX1_lookAtThree_132 2 rfl 133 rfl ?_
    refine rn_iload_n hX dX1_lookAtThree_133 3 rfl 134 rfl ?_
    refine rn_iload hX dX1_lookAtThree_134 4 rfl 136 rfl ?_
    refine rn_callS0 hX (gS mcC wd_646 wd_647 wd_77 wd_648) rfl hdS_X1_pairsOfThree rfl rfl ⟨Nat.le_of_ble_eq_true rfl, Nat.le_of_ble_eq_true rfl⟩ (c_X1_pairsOfThree (zl Z) (zG Z) x2 x3 x4 rfl) rfl [] rfl rfl rfl (Nat.le_of_ble_eq_true rfl) dX1_lookAtThree_136 139 rfl (S' := [.int (X1_pairsOfThree x2 x3 x4), .ref a_this]) rfl ⟨Nat.zero_le _, Nat.zero_le _⟩ ?_
    refine rn_iload_n hX dX1_lookAtThree_139 2 rfl 140 rfl ?_
    refine rn_iload_n hX dX1_lookAtThree_140 3 rfl 141 rfl ?_
    refine rn_iload hX dX1_lookAtThree_141 5 rfl 143 rfl ?_
    refine rn_callS0 hX (gS mcC wd_646 wd_647 wd_77 wd_648) rfl hdS_X1_pairsOfThree rfl rfl ⟨Nat.le_of_ble_eq_true rfl, Nat.le_of_ble_eq_true rfl⟩ (c_X1_pairsOfThree (zl Z) (zG Z) x2 x3 x7 rfl) rfl [] rfl rfl rfl (Nat.le_of_ble_eq_true rfl) dX1_lookAtThree_143 146 rfl (S' := [.int (X1_pairsOfThree x2 x3 x7), .int (X1_pairsOfThree x2 x3 x4), .ref a_this]) rfl ⟨Nat.zero_le _, Nat.zero_le _⟩ ?_
    refine rn_ior hX dX1_lookAtThree_146 147 rfl ?_
    refine rn_iconst hX dX1_lookAtThree_147 148 rfl ic_1 ?_
    refine rn_iload hX dX1_lookAtThree_148 4 rfl 150 rfl ?_
    refine rn_iload hX dX1_lookAtThree_150 5 rfl 152 rfl ?_
    refine rn_callSN0 hX (goodK mcC wd_564) rfl (host := "OnlyFar") hn_X1_63 (hX.wd (mcC _ wd_70)) (hX.wd (mcC _ wd_563)) hdS_X10_pairOf rfl rfl ⟨Nat.le_of_ble_eq_true rfl, Nat.le_of_ble_eq_true rfl⟩ (c_X10_pairOf (zl Z) (zG Z) x4 x7 rfl) rfl [] rfl rfl rfl (Nat.le_of_ble_eq_true rfl) dX1_lookAtThree_152 155 rfl (S' := [.int (X10_pairOf x4 x7), .int (1 : Int32), .int ((X1_pairsOfThree x2 x3 x4) ||| (X1_pairsOfThree x2 x3 x7)), .ref a_this]) rfl ⟨Nat.zero_le _, Nat.zero_le _⟩ ?_
    refine rn_ishl hX dX1_lookAtThree_155 156 rfl ?_
    refine rn_ior hX dX1_lookAtThree_156 157 rfl ?_
    refine rn_bind (fun u5 hu5 => ?_)
    refine rn_callV hX (gV mcC wd_650 wd_652 wd_11 wd_77 wd_653) rfl hdV_X1_add rfl rfl ⟨Nat.le_of_ble_eq_true rfl, Nat.le_of_ble_eq_true rfl⟩ (c_X1_add (zl Z) (zG Z) a_this a_flaws g_badThrees v4 g_flatThrees g_toldThrees g_size g_fewest g_flaws (((X1_pairsOfThree x2 x3 x4) ||| (X1_pairsOfThree x2 x3 x7)) ||| ((1 : Int32) <<< ((X10_pairOf x4 x7) &&& 31))) hu5) rfl [0, 1] rfl rfl rfl (ci := 1) rfl rfl rfl (Nat.le_of_ble_eq_true rfl) dX1_lookAtThree_157 160 rfl (wn := [(a_this, .inr (1, [.int g_badThrees, .int v4, .int g_flatThrees, .int g_toldThrees, .ref a_flaws, .int u5.1, .int g_fewest])), (a_flaws, .inl ((zG Z).2.1 1, 70, .inl u5.2)), (a_p0, .inr (8, [.int g_p0_places, .ref a_p0_squares])), (a_p0_squares, .inl ((zG Z).2.1 1, 49, .inl g_p0_squares))]) rfl (S' := []) rfl ⟨Nat.zero_le _, Nat.zero_le _⟩ ?_
    exact (hJ160 _ hagain) x2 x3 x4 x7 v4 g_badThrees g_flatThrees u5.1 g_toldThrees u5.2
  have hL86 : ∀ (n : Nat) (x2 : Int32) (x3 : Int32) (x4 : Int32) (x7 : Int32) (g_badFours : Int32) (g_badThrees : Int32) (g_flatThrees : Int32) (g_size : Int32) (g_toldThrees : Int32) (g_flaws : (Nat → Int32)), Rn Z 8 (Option.map enc) 0 0 86 [(0, .ref a_this), (1, .ref a_p0), (2, .int x2), (3, .int x3), (4, .int x4), (7, .int x7)] [] [(a_this, .inr (1, [.int g_badThrees, .int g_badFours, .int g_flatThrees, .int g_toldThrees, .ref a_flaws, .int g_size, .int g_fewest])), (a_flaws, .inl ((zG Z).2.1 1, 70, .inl g_flaws)), (a_p0, .inr (8, [.int g_p0_places, .ref a_p0_squares])), (a_p0_squares, .inl ((zG Z).2.1 1, 49, .inl g_p0_squares))] (X1_lookAtThree_L86 g_p0_places g_p0_squares n x2 x3 x4 x7 g_badFours g_badThrees g_flatThrees g_size g_toldThrees g_flaws) := by
    intro n
    induction n with
    | zero => intros; exact rn_none
    | succ n ih => exact hB86 _ ih
  have hJ80 : ∀ (x2 : Int32) (x3 : Int32) (x4 : Int32) (g_badFours : Int32) (g_badThrees : Int32) (g_flatThrees : Int32) (g_size : Int32) (g_toldThrees : Int32) (g_flaws : (Nat → Int32)), Rn Z 8 (Option.map enc) 0 0 80 [(0, .ref a_this), (1, .ref a_p0), (2, .int x2), (3, .int x3), (4, .int x4)] [] [(a_this, .inr (1, [.int g_badThrees, .int g_badFours, .int g_flatThrees, .int g_toldThrees, .ref a_flaws, .int g_size, .int g_fewest])), (a_flaws, .inl ((zG Z).2.1 1, 70, .inl g_flaws)), (a_p0, .inr (8, [.int g_p0_places, .ref a_p0_squares])), (a_p0_squares, .inl ((zG Z).2.1 1, 49, .inl g_p0_squares))] (X1_lookAtThree_J80 g_p0_places g_p0_squares x2 x3 x4 g_badFours g_badThrees g_flatThrees g_size g_toldThrees g_flaws) := by
    intro x2 x3 x4 g_badFours g_badThrees g_flatThrees g_size g_toldThrees g_flaws
    unfold X1_lookAtThree_J80
    refine rn_iload hX dX1_lookAtThree_80 4 rfl 82 rfl ?_
    refine rn_iconst hX dX1_lookAtThree_82 83 rfl ic_1 ?_
    refine rn_iadd hX dX1_lookAtThree_83 84 rfl ?_
    refine rn_lati (fun v6 => ?_)
    refine rn_istore hX dX1_lookAtThree_84 (by decide) (L' := [(7, .int v6), (0, .ref a_this), (1, .ref a_p0), (2, .int x2), (3, .int x3), (4, .int x4)]) rfl 86 rfl ?_
    refine rn_sub [1, 2, 3, 4, 5, 0] rfl ?_
    exact (hL86  1000) x2 x3 x4 v6 g_badFours g_badThrees g_flatThrees g_size g_toldThrees g_flaws
  unfold X1_lookAtThree
  refine rn_aload_n hX dX1_lookAtThree_0 1 rfl 1 rfl ?_
  refine rn_iload_n hX dX1_lookAtThree_1 2 rfl 2 rfl ?_
  refine rn_iload_n hX dX1_lookAtThree_2 3 rfl 3 rfl ?_
  refine rn_iload hX dX1_lookAtThree_3 4 rfl 5 rfl ?_
  refine rn_bind (fun u7 hu7 => ?_)
  refine rn_callV0 hX (gV mcC wd_644 wd_580 wd_581 wd_73 wd_582) rfl hdV_X8_isToldThree rfl rfl ⟨Nat.le_of_ble_eq_true rfl, Nat.le_of_ble_eq_true rfl⟩ (c_X8_isToldThree (zl Z) (zG Z) a_p0 a_p0_squares g_p0_places g_p0_squares x2 x3 x4 hu7) rfl [2, 3] rfl rfl (ci := 8) rfl rfl rfl (Nat.le_of_ble_eq_true rfl) dX1_lookAtThree_5 8 rfl (S' := [.int u7]) rfl ⟨Nat.zero_le _, Nat.zero_le _⟩ ?_
  refine rn_if_ne hX dX1_lookAtThree_8 12 (by decide) 11 rfl ?_ ?_
  · refine rn_aload_n hX dX1_lookAtThree_12 0 rfl 13 rfl ?_
    refine rn_dup hX dX1_lookAtThree_13 14 rfl rfl ?_
    refine rn_get hX inX1 0 rfl rfl 3 (by decide) fl25 rfl rfl dX1_lookAtThree_14 17 rfl ?_
    refine rn_iconst hX dX1_lookAtThree_17 18 rfl ic_1 ?_
    refine rn_iadd hX dX1_lookAtThree_18 19 rfl ?_
    refine rn_lati (fun v8 => ?_)
    refine rn_put hX inX1 tyX1_ok nmX1 0 rfl rfl 3 (by decide) fl25 rfl rfl rfl rfl (Nat.le_of_ble_eq_true rfl) dX1_lookAtThree_19 22 rfl (w1 := [(a_this, .inr (1, [.int g_badThrees, .int g_badFours, .int g_flatThrees, .int v8, .ref a_flaws, .int g_size, .int g_fewest])), (a_flaws, .inl ((zG Z).2.1 1, 70, .inl g_flaws)), (a_p0, .inr (8, [.int g_p0_places, .ref a_p0_squares])), (a_p0_squares, .inl ((zG Z).2.1 1, 49, .inl g_p0_squares))]) rfl ?_
    refine rn_aload_n hX dX1_lookAtThree_22 1 rfl 23 rfl ?_
    refine rn_iload_n hX dX1_lookAtThree_23 2 rfl 24 rfl ?_
    refine rn_iload_n hX dX1_lookAtThree_24 3 rfl 25 rfl ?_
    refine rn_iload hX dX1_lookAtThree_25 4 rfl 27 rfl ?_
    refine rn_bind (fun u9 hu9 => ?_)
    refine rn_callV0 hX (gV mcC wd_645 wd_584 wd_585 wd_73 wd_586) rfl hdV_X8_wideOf rfl rfl ⟨Nat.le_of_ble_eq_true rfl, Nat.le_of_ble_eq_true rfl⟩ (c_X8_wideOf (zl Z) (zG Z) a_p0 a_p0_squares g_p0_places g_p0_squares x2 x3 x4 hu9) rfl [2, 3] rfl rfl (ci := 8) rfl rfl rfl (Nat.le_of_ble_eq_true rfl) dX1_lookAtThree_27 30 rfl (S' := [.long u9]) rfl ⟨Nat.zero_le _, Nat.zero_le _⟩ ?_
    refine rn_lstore hX dX1_lookAtThree_30 (by decide) (L' := [(5, .long u9), (0, .ref a_this), (1, .ref a_p0), (2, .int x2), (3, .int x3), (4, .int x4)]) rfl 32 rfl ?_
    refine rn_lload hX dX1_lookAtThree_32 0 rfl 34 rfl ?_
    refine rn_lconst hX dX1_lookAtThree_34 35 rfl lc_0 ?_
    refine rn_lcmp_ne hX dX1_lookAtThree_35 36 rfl dX1_lookAtThree_36 52 (by decide) 39 rfl ?_ ?_
    · refine rn_lload hX dX1_lookAtThree_52 0 rfl 54 rfl ?_
      refine rn_lconst hX dX1_lookAtThree_54 55 rfl lc_0 ?_
      refine rn_lcmp_ge hX dX1_lookAtThree_55 56 rfl dX1_lookAtThree_56 80 (by decide) 59 rfl ?_ ?_
      · refine rn_sub [1, 2, 3, 4, 5] rfl ?_
        exact hJ80 x2 x3 x4 g_badFours g_badThrees g_flatThrees g_size v8 g_flaws
      refine rn_aload_n hX dX1_lookAtThree_59 1 rfl 60 rfl ?_
      refine rn_dup hX dX1_lookAtThree_60 61 rfl rfl ?_
      refine rn_get hX inX1 0 rfl rfl 0 (by decide) fl15 rfl rfl dX1_lookAtThree_61 64 rfl ?_
      refine rn_iconst hX dX1_lookAtThree_64 65 rfl ic_1 ?_
      refine rn_iadd hX dX1_lookAtThree_65 66 rfl ?_
      refine rn_lati (fun v10 => ?_)
      refine rn_put hX inX1 tyX1_ok nmX1 0 rfl rfl 0 (by decide) fl15 rfl rfl rfl rfl (Nat.le_of_ble_eq_true rfl) dX1_lookAtThree_66 69 rfl (w1 := [(a_this, .inr (1, [.int v10, .int g_badFours, .int g_flatThrees, .int v8, .ref a_flaws, .int g_size, .int g_fewest])), (a_flaws, .inl ((zG Z).2.1 1, 70, .inl g_flaws)), (a_p0, .inr (8, [.int g_p0_places, .ref a_p0_squares])), (a_p0_squares, .inl ((zG Z).2.1 1, 49, .inl g_p0_squares))]) rfl ?_
      refine rn_aload_n hX dX1_lookAtThree_69 1 rfl 70 rfl ?_
      refine rn_iload_n hX dX1_lookAtThree_70 3 rfl 71 rfl ?_
      refine rn_iload_n hX dX1_lookAtThree_71 4 rfl 72 rfl ?_
      refine rn_iload hX dX1_lookAtThree_72 5 rfl 74 rfl ?_
      refine rn_callS0 hX (gS mcC wd_646 wd_647 wd_77 wd_648) rfl hdS_X1_pairsOfThree rfl rfl ⟨Nat.le_of_ble_eq_true rfl, Nat.le_of_ble_eq_true rfl⟩ (c_X1_pairsOfThree (zl Z) (zG Z) x2 x3 x4 rfl) rfl [] rfl rfl rfl (Nat.le_of_ble_eq_true rfl) dX1_lookAtThree_74 77 rfl (S' := [.int (X1_pairsOfThree x2 x3 x4), .ref a_this]) rfl ⟨Nat.zero_le _, Nat.zero_le _⟩ ?_
      refine rn_bind (fun u11 hu11 => ?_)
      refine rn_callV hX (gV mcC wd_650 wd_652 wd_11 wd_77 wd_653) rfl hdV_X1_add rfl rfl ⟨Nat.le_of_ble_eq_true rfl, Nat.le_of_ble_eq_true rfl⟩ (c_X1_add (zl Z) (zG Z) a_this a_flaws v10 g_badFours g_flatThrees v8 g_size g_fewest g_flaws (X1_pairsOfThree x2 x3 x4) hu11) rfl [0, 1] rfl rfl rfl (ci := 1) rfl rfl rfl (Nat.le_of_ble_eq_true rfl) dX1_lookAtThree_77 80 rfl (wn := [(a_this, .inr (1, [.int v10, .int g_badFours, .int g_flatThrees, .int v8, .ref a_flaws, .int u11.1, .int g_fewest])), (a_flaws, .inl ((zG Z).2.1 1, 70, .inl u11.2)), (a_p0, .inr (8, [.int g_p0_places, .ref a_p0_squares])), (a_p0_squares, .inl ((zG Z).2.1 1, 49, .inl g_p0_squares))]) rfl (S' := []) rfl ⟨Nat.zero_le _, Nat.zero_le _⟩ ?_
      refine rn_sub [1, 2, 3, 4, 5] rfl ?_
      exact hJ80 x2 x3 x4 g_badFours v10 g_flatThrees u11.1 v8 u11.2
    refine rn_aload_n hX dX1_lookAtThree_39 1 rfl 40 rfl ?_
    refine rn_dup hX dX1_lookAtThree_40 41 rfl rfl ?_
    refine rn_get hX inX1 0 rfl rfl 2 (by decide) fl22 rfl rfl dX1_lookAtThree_41 44 rfl ?_
    refine rn_iconst hX dX1_lookAtThree_44 45 rfl ic_1 ?_
    refine rn_iadd hX dX1_lookAtThree_45 46 rfl ?_
    refine rn_lati (fun v12 => ?_)
    refine rn_put hX inX1 tyX1_ok nmX1 0 rfl rfl 2 (by decide) fl22 rfl rfl rfl rfl (Nat.le_of_ble_eq_true rfl) dX1_lookAtThree_46 49 rfl (w1 := [(a_this, .inr (1, [.int g_badThrees, .int g_badFours, .int v12, .int v8, .ref a_flaws, .int g_size, .int g_fewest])), (a_flaws, .inl ((zG Z).2.1 1, 70, .inl g_flaws)), (a_p0, .inr (8, [.int g_p0_places, .ref a_p0_squares])), (a_p0_squares, .inl ((zG Z).2.1 1, 49, .inl g_p0_squares))]) rfl ?_
    refine rn_goto hX dX1_lookAtThree_49 80 (by decide) ?_
    refine rn_sub [1, 2, 3, 4, 5] rfl ?_
    exact hJ80 x2 x3 x4 g_badFours g_badThrees v12 g_size v8 g_flaws
  exact rn_vret hX hr (by rw [henc]; rfl) dX1_lookAtThree_11
abbrev rmX1_lookAt : Room := { frames := 5, cells := 0, slots := 0, locals := 132 }
theorem hdV_X1_lookAt : yX1_lookAt.cls = RX1 ∧ yX1_lookAt.cls ≠ "java/lang/invoke/MethodHandle" ∧ yX1_lookAt.cls ≠ "java/lang/invoke/VarHandle" ∧ (parseMethodDescriptor yX1_lookAt.desc).map (fun d => d.parameters.length) = some 1 := by decide +kernel
set_option maxHeartbeats 4000000 in
set_option maxRecDepth 100000 in
theorem c_X1_lookAt (l : Launch) (G : GT) (a_this a_flaws a_p0 a_p0_squares : Nat) (g_badThrees : Int32) (g_badFours : Int32) (g_flatThrees : Int32) (g_toldThrees : Int32) (g_size : Int32) (g_fewest : Int32) (g_flaws : (Nat → Int32)) (g_p0_places : Int32) (g_p0_squares : (Nat → Int32)) {u : Int32 × Int32 × Int32 × Int32 × Int32 × (Nat → Int32)} (hu : X1_lookAt g_badFours g_badThrees g_flatThrees g_size g_toldThrees g_flaws g_p0_places g_p0_squares = some u) : Ctr l G yX1_lookAt wsX1_lookAt rmX1_lookAt [.ref a_this, .ref a_p0] [(a_this, .inr (1, [.int g_badThrees, .int g_badFours, .int g_flatThrees, .int g_toldThrees, .ref a_flaws, .int g_size, .int g_fewest])), (a_flaws, .inl (G.2.1 1, 70, .inl g_flaws)), (a_p0, .inr (8, [.int g_p0_places, .ref a_p0_squares])), (a_p0_squares, .inl (G.2.1 1, 49, .inl g_p0_squares))] none [(a_this, .inr (1, [.int u.2.1, .int u.1, .int u.2.2.1, .int u.2.2.2.2.1, .ref a_flaws, .int u.2.2.2.1, .int g_fewest])), (a_flaws, .inl (G.2.1 1, 70, .inl u.2.2.2.2.2)), (a_p0, .inr (8, [.int g_p0_places, .ref a_p0_squares])), (a_p0_squares, .inl (G.2.1 1, 49, .inl g_p0_squares))] := by
  obtain ⟨enc, henc⟩ : ∃ enc : (Int32 × Int32 × Int32 × Int32 × Int32 × (Nat → Int32)) → Option Value × va_W, enc = fun u => ((none : Option Value), ([(a_this, .inr (1, [.int u.2.1, .int u.1, .int u.2.2.1, .int u.2.2.2.2.1, .ref a_flaws, .int u.2.2.2.1, .int g_fewest])), (a_flaws, .inl (G.2.1 1, 70, .inl u.2.2.2.2.2)), (a_p0, .inr (8, [.int g_p0_places, .ref a_p0_squares])), (a_p0_squares, .inl (G.2.1 1, 49, .inl g_p0_squares))] : va_W)) := ⟨_, rfl⟩
  refine ctr_of (cc := cX1_lookAt) (own := RX1) (E := Option.map enc) (o := X1_lookAt g_badFours g_badThrees g_flatThrees g_size g_toldThrees g_flaws g_p0_places g_p0_squares) (by decide) rfl rfl (L := [(0, .ref a_this), (1, .ref a_p0)]) rfl (Nat.le_of_ble_eq_true rfl) (by rw [hu, henc]; rfl) ?_
  intro Z hX hl hG hr
  subst hl; subst hG
  have fl15 : (Cond.fieldLink RX1 15 "OnlyFar$Flaws" "badThrees" "I").before (za Z) (zs Z) = true := hX.wd (mcC _ wd_244)
  have fl19 : (Cond.fieldLink RX1 19 "OnlyFar$Flaws" "badFours" "I").before (za Z) (zs Z) = true := hX.wd (mcC _ wd_246)
  have fl22 : (Cond.fieldLink RX1 22 "OnlyFar$Flaws" "flatThrees" "I").before (za Z) (zs Z) = true := hX.wd (mcC _ wd_248)
  have fl25 : (Cond.fieldLink RX1 25 "OnlyFar$Flaws" "toldThrees" "I").before (za Z) (zs Z) = true := hX.wd (mcC _ wd_250)
  have fl28 : (Cond.fieldLink RX1 28 "OnlyFar$Flaws" "size" "I").before (za Z) (zs Z) = true := hX.wd (mcC _ wd_253)
  have fl31 : (Cond.fieldLink RX1 31 "OnlyFar$Table" "places" "I").before (za Z) (zs Z) = true := hX.wd (mcC _ wd_130)
  have inX1 : ∀ w ∈ u_ws RX1 TX1 7, w ∈ wsX1_lookAt := fun w h => mcC w (inC_X1 w h)
  have inX8 : ∀ w ∈ u_ws RX8 TX8 2, w ∈ wsX1_lookAt := fun w h => mcC w (inC_X8 w h)
  have hJ72 : ∀ (again : Int32 → Int32 → Int32 → Int32 → Int32 → Int32 → (Nat → Int32) → Option (Int32 × Int32 × Int32 × Int32 × Int32 × (Nat → Int32))) (hagain : ∀ (x2 : Int32) (g_badFours : Int32) (g_badThrees : Int32) (g_flatThrees : Int32) (g_size : Int32) (g_toldThrees : Int32) (g_flaws : (Nat → Int32)), Rn Z 5 (Option.map enc) 0 0 27 [(0, .ref a_this), (1, .ref a_p0), (2, .int x2)] [] [(a_this, .inr (1, [.int g_badThrees, .int g_badFours, .int g_flatThrees, .int g_toldThrees, .ref a_flaws, .int g_size, .int g_fewest])), (a_flaws, .inl ((zG Z).2.1 1, 70, .inl g_flaws)), (a_p0, .inr (8, [.int g_p0_places, .ref a_p0_squares])), (a_p0_squares, .inl ((zG Z).2.1 1, 49, .inl g_p0_squares))] (again x2 g_badFours g_badThrees g_flatThrees g_size g_toldThrees g_flaws)) (x2 : Int32) (g_badFours : Int32) (g_badThrees : Int32) (g_flatThrees : Int32) (g_size : Int32) (g_toldThrees : Int32) (g_flaws : (Nat → Int32)), Rn Z 5 (Option.map enc) 0 0 72 [(0, .ref a_this), (1, .ref a_p0), (2, .int x2)] [] [(a_this, .inr (1, [.int g_badThrees, .int g_badFours, .int g_flatThrees, .int g_toldThrees, .ref a_flaws, .int g_size, .int g_fewest])), (a_flaws, .inl ((zG Z).2.1 1, 70, .inl g_flaws)), (a_p0, .inr (8, [.int g_p0_places, .ref a_p0_squares])), (a_p0_squares, .inl ((zG Z).2.1 1, 49, .inl g_p0_squares))] (X1_lookAt_J72 again x2 g_badFours g_badThrees g_flatThrees g_size g_toldThrees g_flaws) := by
    intro again hagain x2 g_badFours g_badThrees g_flatThrees g_size g_toldThrees g_flaws
    unfold X1_lookAt_J72
    refine rn_iinc hX dX1_lookAt_72 2 rfl ic_1 (by decide) (L' := fun v1 => [(2, .int v1), (0, .ref a_this), (1, .ref a_p0)]) (fun _ => rfl) 75 rfl (fun v1 => ?_)
    refine rn_goto hX dX1_lookAt_75 27 (by decide) ?_
    refine rn_sub [1, 2, 0] rfl ?_
    exact hagain v1 g_badFours g_badThrees g_flatThrees g_size g_toldThrees g_flaws
  have hJ66 : ∀ (again : Int32 → Int32 → Int32 → Int32 → Int32 → Int32 → Int32 → (Nat → Int32) → Option (Int32 × Int32 × Int32 × Int32 × Int32 × (Nat → Int32))) (k72 : Int32 → Int32 → Int32 → Int32 → Int32 → Int32 → (Nat → Int32) → Option (Int32 × Int32 × Int32 × Int32 × Int32 × (Nat → Int32))) (hagain : ∀ (x2 : Int32) (x3 : Int32) (g_badFours : Int32) (g_badThrees : Int32) (g_flatThrees : Int32) (g_size : Int32) (g_toldThrees : Int32) (g_flaws : (Nat → Int32)), Rn Z 5 (Option.map enc) 0 0 37 [(0, .ref a_this), (1, .ref a_p0), (2, .int x2), (3, .int x3)] [] [(a_this, .inr (1, [.int g_badThrees, .int g_badFours, .int g_flatThrees, .int g_toldThrees, .ref a_flaws, .int g_size, .int g_fewest])), (a_flaws, .inl ((zG Z).2.1 1, 70, .inl g_flaws)), (a_p0, .inr (8, [.int g_p0_places, .ref a_p0_squares])), (a_p0_squares, .inl ((zG Z).2.1 1, 49, .inl g_p0_squares))] (again x2 x3 g_badFours g_badThrees g_flatThrees g_size g_toldThrees g_flaws)) (hk72 : ∀ (x2 : Int32) (g_badFours : Int32) (g_badThrees : Int32) (g_flatThrees : Int32) (g_size : Int32) (g_toldThrees : Int32) (g_flaws : (Nat → Int32)), Rn Z 5 (Option.map enc) 0 0 72 [(0, .ref a_this), (1, .ref a_p0), (2, .int x2)] [] [(a_this, .inr (1, [.int g_badThrees, .int g_badFours, .int g_flatThrees, .int g_toldThrees, .ref a_flaws, .int g_size, .int g_fewest])), (a_flaws, .inl ((zG Z).2.1 1, 70, .inl g_flaws)), (a_p0, .inr (8, [.int g_p0_places, .ref a_p0_squares])), (a_p0_squares, .inl ((zG Z).2.1 1, 49, .inl g_p0_squares))] (k72 x2 g_badFours g_badThrees g_flatThrees g_size g_toldThrees g_flaws)) (x2 : Int32) (x3 : Int32) (g_badFours : Int32) (g_badThrees : Int32) (g_flatThrees : Int32) (g_size : Int32) (g_toldThrees : Int32) (g_flaws : (Nat → Int32)), Rn Z 5 (Option.map enc) 0 0 66 [(0, .ref a_this), (1, .ref a_p0), (2, .int x2), (3, .int x3)] [] [(a_this, .inr (1, [.int g_badThrees, .int g_badFours, .int g_flatThrees, .int g_toldThrees, .ref a_flaws, .int g_size, .int g_fewest])), (a_flaws, .inl ((zG Z).2.1 1, 70, .inl g_flaws)), (a_p0, .inr (8, [.int g_p0_places, .ref a_p0_squares])), (a_p0_squares, .inl ((zG Z).2.1 1, 49, .inl g_p0_squares))] (X1_lookAt_J66 again k72 x2 x3 g_badFours g_badThrees g_flatThrees g_size g_toldThrees g_flaws) := by
    intro again k72 hagain hk72 x2 x3 g_badFours g_badThrees g_flatThrees g_size g_toldThrees g_flaws
    unfold X1_lookAt_J66
    refine rn_iinc hX dX1_lookAt_66 3 rfl ic_1 (by decide) (L' := fun v2 => [(3, .int v2), (0, .ref a_this), (1, .ref a_p0), (2, .int x2)]) (fun _ => rfl) 69 rfl (fun v2 => ?_)
    refine rn_goto hX dX1_lookAt_69 37 (by decide) ?_
    refine rn_sub [1, 2, 3, 0] rfl ?_
    exact hagain x2 v2 g_badFours g_badThrees g_flatThrees g_size g_toldThrees g_flaws
  have hB45 : ∀ (again : Int32 → Int32 → Int32 → Int32 → Int32 → Int32 → Int32 → Int32 → (Nat → Int32) → Option (Int32 × Int32 × Int32 × Int32 × Int32 × (Nat → Int32))) (k66 : Int32 → Int32 → Int32 → Int32 → Int32 → Int32 → Int32 → (Nat → Int32) → Option (Int32 × Int32 × Int32 × Int32 × Int32 × (Nat → Int32))) (hagain : ∀ (x2 : Int32) (x3 : Int32) (x4 : Int32) (g_badFours : Int32) (g_badThrees : Int32) (g_flatThrees : Int32) (g_size : Int32) (g_toldThrees : Int32) (g_flaws : (Nat → Int32)), Rn Z 5 (Option.map enc) 0 0 45 [(0, .ref a_this), (1, .ref a_p0), (2, .int x2), (3, .int x3), (4, .int x4)] [] [(a_this, .inr (1, [.int g_badThrees, .int g_badFours, .int g_flatThrees, .int g_toldThrees, .ref a_flaws, .int g_size, .int g_fewest])), (a_flaws, .inl ((zG Z).2.1 1, 70, .inl g_flaws)), (a_p0, .inr (8, [.int g_p0_places, .ref a_p0_squares])), (a_p0_squares, .inl ((zG Z).2.1 1, 49, .inl g_p0_squares))] (again x2 x3 x4 g_badFours g_badThrees g_flatThrees g_size g_toldThrees g_flaws)) (hk66 : ∀ (x2 : Int32) (x3 : Int32) (g_badFours : Int32) (g_badThrees : Int32) (g_flatThrees : Int32) (g_size : Int32) (g_toldThrees : Int32) (g_flaws : (Nat → Int32)), Rn Z 5 (Option.map enc) 0 0 66 [(0, .ref a_this), (1, .ref a_p0), (2, .int x2), (3, .int x3)] [] [(a_this, .inr (1, [.int g_badThrees, .int g_badFours, .int g_flatThrees, .int g_toldThrees, .ref a_flaws, .int g_size, .int g_fewest])), (a_flaws, .inl ((zG Z).2.1 1, 70, .inl g_flaws)), (a_p0, .inr (8, [.int g_p0_places, .ref a_p0_squares])), (a_p0_squares, .inl ((zG Z).2.1 1, 49, .inl g_p0_squares))] (k66 x2 x3 g_badFours g_badThrees g_flatThrees g_size g_toldThrees g_flaws)) (x2 : Int32) (x3 : Int32) (x4 : Int32) (g_badFours : Int32) (g_badThrees : Int32) (g_flatThrees : Int32) (g_size : Int32) (g_toldThrees : Int32) (g_flaws : (Nat → Int32)), Rn Z 5 (Option.map enc) 0 0 45 [(0, .ref a_this), (1, .ref a_p0), (2, .int x2), (3, .int x3), (4, .int x4)] [] [(a_this, .inr (1, [.int g_badThrees, .int g_badFours, .int g_flatThrees, .int g_toldThrees, .ref a_flaws, .int g_size, .int g_fewest])), (a_flaws, .inl ((zG Z).2.1 1, 70, .inl g_flaws)), (a_p0, .inr (8, [.int g_p0_places, .ref a_p0_squares])), (a_p0_squares, .inl ((zG Z).2.1 1, 49, .inl g_p0_squares))] (X1_lookAt_B45 g_p0_places g_p0_squares again k66 x2 x3 x4 g_badFours g_badThrees g_flatThrees g_size g_toldThrees g_flaws) := by
    intro again k66 hagain hk66 x2 x3 x4 g_badFours g_badThrees g_flatThrees g_size g_toldThrees g_flaws
    unfold X1_lookAt_B45
    refine rn_iload hX dX1_lookAt_45 4 rfl 47 rfl ?_
    refine rn_iload_n hX dX1_lookAt_47 3 rfl 48 rfl ?_
    refine rn_icmp_ge hX dX1_lookAt_48 66 (by decide) 51 rfl ?_ ?_
    · refine rn_sub [0, 1, 2, 3] rfl ?_
      exact hk66 x2 x3 g_badFours g_badThrees g_flatThrees g_size g_toldThrees g_flaws
    refine rn_aload_n hX dX1_lookAt_51 0 rfl 52 rfl ?_
    refine rn_aload_n hX dX1_lookAt_52 1 rfl 53 rfl ?_
    refine rn_iload hX dX1_lookAt_53 4 rfl 55 rfl ?_
    refine rn_iload_n hX dX1_lookAt_55 3 rfl 56 rfl ?_
    refine rn_iload_n hX dX1_lookAt_56 2 rfl 57 rfl ?_
    refine rn_bind (fun u3 hu3 => ?_)
    refine rn_callV hX (gV mcC wd_640 wd_642 wd_10 wd_77 wd_643) rfl hdV_X1_lookAtThree rfl rfl ⟨Nat.le_of_ble_eq_true rfl, Nat.le_of_ble_eq_true rfl⟩ (c_X1_lookAtThree (zl Z) (zG Z) a_this a_flaws a_p0 a_p0_squares g_badThrees g_badFours g_flatThrees g_toldThrees g_size g_fewest g_flaws g_p0_places g_p0_squares x4 x3 x2 hu3) rfl [0, 1, 2, 3] rfl rfl rfl (ci := 1) rfl rfl rfl (Nat.le_of_ble_eq_true rfl) dX1_lookAt_57 60 rfl (wn := [(a_this, .inr (1, [.int u3.2.1, .int u3.1, .int u3.2.2.1, .int u3.2.2.2.2.1, .ref a_flaws, .int u3.2.2.2.1, .int g_fewest])), (a_flaws, .inl ((zG Z).2.1 1, 70, .inl u3.2.2.2.2.2)), (a_p0, .inr (8, [.int g_p0_places, .ref a_p0_squares])), (a_p0_squares, .inl ((zG Z).2.1 1, 49, .inl g_p0_squares))]) rfl (S' := []) rfl ⟨Nat.zero_le _, Nat.zero_le _⟩ ?_
    refine rn_iinc hX dX1_lookAt_60 4 rfl ic_1 (by decide) (L' := fun v4 => [(4, .int v4), (0, .ref a_this), (1, .ref a_p0), (2, .int x2), (3, .int x3)]) (fun _ => rfl) 63 rfl (fun v4 => ?_)
    refine rn_goto hX dX1_lookAt_63 45 (by decide) ?_
    refine rn_sub [1, 2, 3, 4, 0] rfl ?_
    exact hagain x2 x3 v4 u3.1 u3.2.1 u3.2.2.1 u3.2.2.2.1 u3.2.2.2.2.1 u3.2.2.2.2.2
  have hL45 : ∀ (k66 : Int32 → Int32 → Int32 → Int32 → Int32 → Int32 → Int32 → (Nat → Int32) → Option (Int32 × Int32 × Int32 × Int32 × Int32 × (Nat → Int32))) (hk66 : ∀ (x2 : Int32) (x3 : Int32) (g_badFours : Int32) (g_badThrees : Int32) (g_flatThrees : Int32) (g_size : Int32) (g_toldThrees : Int32) (g_flaws : (Nat → Int32)), Rn Z 5 (Option.map enc) 0 0 66 [(0, .ref a_this), (1, .ref a_p0), (2, .int x2), (3, .int x3)] [] [(a_this, .inr (1, [.int g_badThrees, .int g_badFours, .int g_flatThrees, .int g_toldThrees, .ref a_flaws, .int g_size, .int g_fewest])), (a_flaws, .inl ((zG Z).2.1 1, 70, .inl g_flaws)), (a_p0, .inr (8, [.int g_p0_places, .ref a_p0_squares])), (a_p0_squares, .inl ((zG Z).2.1 1, 49, .inl g_p0_squares))] (k66 x2 x3 g_badFours g_badThrees g_flatThrees g_size g_toldThrees g_flaws)) (n : Nat) (x2 : Int32) (x3 : Int32) (x4 : Int32) (g_badFours : Int32) (g_badThrees : Int32) (g_flatThrees : Int32) (g_size : Int32) (g_toldThrees : Int32) (g_flaws : (Nat → Int32)), Rn Z 5 (Option.map enc) 0 0 45 [(0, .ref a_this), (1, .ref a_p0), (2, .int x2), (3, .int x3), (4, .int x4)] [] [(a_this, .inr (1, [.int g_badThrees, .int g_badFours, .int g_flatThrees, .int g_toldThrees, .ref a_flaws, .int g_size, .int g_fewest])), (a_flaws, .inl ((zG Z).2.1 1, 70, .inl g_flaws)), (a_p0, .inr (8, [.int g_p0_places, .ref a_p0_squares])), (a_p0_squares, .inl ((zG Z).2.1 1, 49, .inl g_p0_squares))] (X1_lookAt_L45 g_p0_places g_p0_squares k66 n x2 x3 x4 g_badFours g_badThrees g_flatThrees g_size g_toldThrees g_flaws) := by
    intro k66 hk66 n
    induction n with
    | zero => intros; exact rn_none
    | succ n ih => exact hB45 _ _ ih hk66
  have hB37 : ∀ (again : Int32 → Int32 → Int32 → Int32 → Int32 → Int32 → Int32 → (Nat → Int32) → Option (Int32 × Int32 × Int32 × Int32 × Int32 × (Nat → Int32))) (k72 : Int32 → Int32 → Int32 → Int32 → Int32 → Int32 → (Nat → Int32) → Option (Int32 × Int32 × Int32 × Int32 × Int32 × (Nat → Int32))) (hagain : ∀ (x2 : Int32) (x3 : Int32) (g_badFours : Int32) (g_badThrees : Int32) (g_flatThrees : Int32) (g_size : Int32) (g_toldThrees : Int32) (g_flaws : (Nat → Int32)), Rn Z 5 (Option.map enc) 0 0 37 [(0, .ref a_this), (1, .ref a_p0), (2, .int x2), (3, .int x3)] [] [(a_this, .inr (1, [.int g_badThrees, .int g_badFours, .int g_flatThrees, .int g_toldThrees, .ref a_flaws, .int g_size, .int g_fewest])), (a_flaws, .inl ((zG Z).2.1 1, 70, .inl g_flaws)), (a_p0, .inr (8, [.int g_p0_places, .ref a_p0_squares])), (a_p0_squares, .inl ((zG Z).2.1 1, 49, .inl g_p0_squares))] (again x2 x3 g_badFours g_badThrees g_flatThrees g_size g_toldThrees g_flaws)) (hk72 : ∀ (x2 : Int32) (g_badFours : Int32) (g_badThrees : Int32) (g_flatThrees : Int32) (g_size : Int32) (g_toldThrees : Int32) (g_flaws : (Nat → Int32)), Rn Z 5 (Option.map enc) 0 0 72 [(0, .ref a_this), (1, .ref a_p0), (2, .int x2)] [] [(a_this, .inr (1, [.int g_badThrees, .int g_badFours, .int g_flatThrees, .int g_toldThrees, .ref a_flaws, .int g_size, .int g_fewest])), (a_flaws, .inl ((zG Z).2.1 1, 70, .inl g_flaws)), (a_p0, .inr (8, [.int g_p0_places, .ref a_p0_squares])), (a_p0_squares, .inl ((zG Z).2.1 1, 49, .inl g_p0_squares))] (k72 x2 g_badFours g_badThrees g_flatThrees g_size g_toldThrees g_flaws)) (x2 : Int32) (x3 : Int32) (g_badFours : Int32) (g_badThrees : Int32) (g_flatThrees : Int32) (g_size : Int32) (g_toldThrees : Int32) (g_flaws : (Nat → Int32)), Rn Z 5 (Option.map enc) 0 0 37 [(0, .ref a_this), (1, .ref a_p0), (2, .int x2), (3, .int x3)] [] [(a_this, .inr (1, [.int g_badThrees, .int g_badFours, .int g_flatThrees, .int g_toldThrees, .ref a_flaws, .int g_size, .int g_fewest])), (a_flaws, .inl ((zG Z).2.1 1, 70, .inl g_flaws)), (a_p0, .inr (8, [.int g_p0_places, .ref a_p0_squares])), (a_p0_squares, .inl ((zG Z).2.1 1, 49, .inl g_p0_squares))] (X1_lookAt_B37 g_p0_places g_p0_squares again k72 x2 x3 g_badFours g_badThrees g_flatThrees g_size g_toldThrees g_flaws) := by
    intro again k72 hagain hk72 x2 x3 g_badFours g_badThrees g_flatThrees g_size g_toldThrees g_flaws
    unfold X1_lookAt_B37
    refine rn_iload_n hX dX1_lookAt_37 3 rfl 38 rfl ?_
    refine rn_iload_n hX dX1_lookAt_38 2 rfl 39 rfl ?_
    refine rn_icmp_ge hX dX1_lookAt_39 72 (by decide) 42 rfl ?_ ?_
    · refine rn_sub [0, 1, 2] rfl ?_
      exact hk72 x2 g_badFours g_badThrees g_flatThrees g_size g_toldThrees g_flaws
    refine rn_iconst hX dX1_lookAt_42 43 rfl ic_0 ?_
    refine rn_istore hX dX1_lookAt_43 (by decide) (L' := [(4, .int (0 : Int32)), (0, .ref a_this), (1, .ref a_p0), (2, .int x2), (3, .int x3)]) rfl 45 rfl ?_
    refine rn_sub [1, 2, 3, 4, 0] rfl ?_
    exact (hL45 _ (hJ66 _ _ hagain hk72) 1000) x2 x3 (0 : Int32) g_badFours g_badThrees g_flatThrees g_size g_toldThrees g_flaws
  have hL37 : ∀ (k72 : Int32 → Int32 → Int32 → Int32 → Int32 → Int32 → (Nat → Int32) → Option (Int32 × Int32 × Int32 × Int32 × Int32 × (Nat → Int32))) (hk72 : ∀ (x2 : Int32) (g_badFours : Int32) (g_badThrees : Int32) (g_flatThrees : Int32) (g_size : Int32) (g_toldThrees : Int32) (g_flaws : (Nat → Int32)), Rn Z 5 (Option.map enc) 0 0 72 [(0, .ref a_this), (1, .ref a_p0), (2, .int x2)] [] [(a_this, .inr (1, [.int g_badThrees, .int g_badFours, .int g_flatThrees, .int g_toldThrees, .ref a_flaws, .int g_size, .int g_fewest])), (a_flaws, .inl ((zG Z).2.1 1, 70, .inl g_flaws)), (a_p0, .inr (8, [.int g_p0_places, .ref a_p0_squares])), (a_p0_squares, .inl ((zG Z).2.1 1, 49, .inl g_p0_squares))] (k72 x2 g_badFours g_badThrees g_flatThrees g_size g_toldThrees g_flaws)) (n : Nat) (x2 : Int32) (x3 : Int32) (g_badFours : Int32) (g_badThrees : Int32) (g_flatThrees : Int32) (g_size : Int32) (g_toldThrees : Int32) (g_flaws : (Nat → Int32)), Rn Z 5 (Option.map enc) 0 0 37 [(0, .ref a_this), (1, .ref a_p0), (2, .int x2), (3, .int x3)] [] [(a_this, .inr (1, [.int g_badThrees, .int g_badFours, .int g_flatThrees, .int g_toldThrees, .ref a_flaws, .int g_size, .int g_fewest])), (a_flaws, .inl ((zG Z).2.1 1, 70, .inl g_flaws)), (a_p0, .inr (8, [.int g_p0_places, .ref a_p0_squares])), (a_p0_squares, .inl ((zG Z).2.1 1, 49, .inl g_p0_squares))] (X1_lookAt_L37 g_p0_places g_p0_squares k72 n x2 x3 g_badFours g_badThrees g_flatThrees g_size g_toldThrees g_flaws) := by
    intro k72 hk72 n
    induction n with
    | zero => intros; exact rn_none
    | succ n ih => exact hB37 _ _ ih hk72
  have hB27 : ∀ (again : Int32 → Int32 → Int32 → Int32 → Int32 → Int32 → (Nat → Int32) → Option (Int32 × Int32 × Int32 × Int32 × Int32 × (Nat → Int32))) (hagain : ∀ (x2 : Int32) (g_badFours : Int32) (g_badThrees : Int32) (g_flatThrees : Int32) (g_size : Int32) (g_toldThrees : Int32) (g_flaws : (Nat → Int32)), Rn Z 5 (Option.map enc) 0 0 27 [(0, .ref a_this), (1, .ref a_p0), (2, .int x2)] [] [(a_this, .inr (1, [.int g_badThrees, .int g_badFours, .int g_flatThrees, .int g_toldThrees, .ref a_flaws, .int g_size, .int g_fewest])), (a_flaws, .inl ((zG Z).2.1 1, 70, .inl g_flaws)), (a_p0, .inr (8, [.int g_p0_places, .ref a_p0_squares])), (a_p0_squares, .inl ((zG Z).2.1 1, 49, .inl g_p0_squares))] (again x2 g_badFours g_badThrees g_flatThrees g_size g_toldThrees g_flaws)) (x2 : Int32) (g_badFours : Int32) (g_badThrees : Int32) (g_flatThrees : Int32) (g_size : Int32) (g_toldThrees : Int32) (g_flaws : (Nat → Int32)), Rn Z 5 (Option.map enc) 0 0 27 [(0, .ref a_this), (1, .ref a_p0), (2, .int x2)] [] [(a_this, .inr (1, [.int g_badThrees, .int g_badFours, .int g_flatThrees, .int g_toldThrees, .ref a_flaws, .int g_size, .int g_fewest])), (a_flaws, .inl ((zG Z).2.1 1, 70, .inl g_flaws)), (a_p0, .inr (8, [.int g_p0_places, .ref a_p0_squares])), (a_p0_squares, .inl ((zG Z).2.1 1, 49, .inl g_p0_squares))] (X1_lookAt_B27 g_p0_places g_p0_squares again x2 g_badFours g_badThrees g_flatThrees g_size g_toldThrees g_flaws) := by
    intro again hagain x2 g_badFours g_badThrees g_flatThrees g_size g_toldThrees g_flaws
    unfold X1_lookAt_B27
    refine rn_iload_n hX dX1_lookAt_27 2 rfl 28 rfl ?_
    refine rn_aload_n hX dX1_lookAt_28 1 rfl 29 rfl ?_
    refine rn_get hX inX8 2 rfl rfl 0 (by decide) fl31 rfl rfl dX1_lookAt_29 32 rfl ?_
    refine rn_icmp_ge hX dX1_lookAt_32 78 (by decide) 35 rfl ?_ ?_
    · exact rn_vret hX hr (by rw [henc]; rfl) dX1_lookAt_78
    refine rn_iconst hX dX1_lookAt_35 36 rfl ic_1 ?_
    refine rn_istore_n hX dX1_lookAt_36 3 rfl (by decide) (L' := [(3, .int (1 : Int32)), (0, .ref a_this), (1, .ref a_p0), (2, .int x2)]) rfl 37 rfl ?_
    refine rn_sub [1, 2, 3, 0] rfl ?_
    exact (hL37 _ (hJ72 _ hagain) 1000) x2 (1 : Int32) g_badFours g_badThrees g_flatThrees g_size g_toldThrees g_flaws
  have hL27 : ∀ (n : Nat) (x2 : Int32) (g_badFours : Int32) (g_badThrees : Int32) (g_flatThrees : Int32) (g_size : Int32) (g_toldThrees : Int32) (g_flaws : (Nat → Int32)), Rn Z 5 (Option.map enc) 0 0 27 [(0, .ref a_this), (1, .ref a_p0), (2, .int x2)] [] [(a_this, .inr (1, [.int g_badThrees, .int g_badFours, .int g_flatThrees, .int g_toldThrees, .ref a_flaws, .int g_size, .int g_fewest])), (a_flaws, .inl ((zG Z).2.1 1, 70, .inl g_flaws)), (a_p0, .inr (8, [.int g_p0_places, .ref a_p0_squares])), (a_p0_squares, .inl ((zG Z).2.1 1, 49, .inl g_p0_squares))] (X1_lookAt_L27 g_p0_places g_p0_squares n x2 g_badFours g_badThrees g_flatThrees g_size g_toldThrees g_flaws) := by
    intro n
    induction n with
    | zero => intros; exact rn_none
    | succ n ih => exact hB27 _ ih
  unfold X1_lookAt
  refine rn_aload_n hX dX1_lookAt_0 0 rfl 1 rfl ?_
  refine rn_iconst hX dX1_lookAt_1 2 rfl ic_0 ?_
  refine rn_put hX inX1 tyX1_ok nmX1 0 rfl rfl 0 (by decide) fl15 rfl rfl rfl rfl (Nat.le_of_ble_eq_true rfl) dX1_lookAt_2 5 rfl (w1 := [(a_this, .inr (1, [.int (0 : Int32), .int g_badFours, .int g_flatThrees, .int g_toldThrees, .ref a_flaws, .int g_size, .int g_fewest])), (a_flaws, .inl ((zG Z).2.1 1, 70, .inl g_flaws)), (a_p0, .inr (8, [.int g_p0_places, .ref a_p0_squares])), (a_p0_squares, .inl ((zG Z).2.1 1, 49, .inl g_p0_squares))]) rfl ?_
  refine rn_aload_n hX dX1_lookAt_5 0 rfl 6 rfl ?_
  refine rn_iconst hX dX1_lookAt_6 7 rfl ic_0 ?_
  refine rn_put hX inX1 tyX1_ok nmX1 0 rfl rfl 1 (by decide) fl19 rfl rfl rfl rfl (Nat.le_of_ble_eq_true rfl) dX1_lookAt_7 10 rfl (w1 := [(a_this, .inr (1, [.int (0 : Int32), .int (0 : Int32), .int g_flatThrees, .int g_toldThrees, .ref a_flaws, .int g_size, .int g_fewest])), (a_flaws, .inl ((zG Z).2.1 1, 70, .inl g_flaws)), (a_p0, .inr (8, [.int g_p0_places, .ref a_p0_squares])), (a_p0_squares, .inl ((zG Z).2.1 1, 49, .inl g_p0_squares))]) rfl ?_
  refine rn_aload_n hX dX1_lookAt_10 0 rfl 11 rfl ?_
  refine rn_iconst hX dX1_lookAt_11 12 rfl ic_0 ?_
  refine rn_put hX inX1 tyX1_ok nmX1 0 rfl rfl 2 (by decide) fl22 rfl rfl rfl rfl (Nat.le_of_ble_eq_true rfl) dX1_lookAt_12 15 rfl (w1 := [(a_this, .inr (1, [.int (0 : Int32), .int (0 : Int32), .int (0 : Int32), .int g_toldThrees, .ref a_flaws, .int g_size, .int g_fewest])), (a_flaws, .inl ((zG Z).2.1 1, 70, .inl g_flaws)), (a_p0, .inr (8, [.int g_p0_places, .ref a_p0_squares])), (a_p0_squares, .inl ((zG Z).2.1 1, 49, .inl g_p0_squares))]) rfl ?_
  refine rn_aload_n hX dX1_lookAt_15 0 rfl 16 rfl ?_
  refine rn_iconst hX dX1_lookAt_16 17 rfl ic_0 ?_
  refine rn_put hX inX1 tyX1_ok nmX1 0 rfl rfl 3 (by decide) fl25 rfl rfl rfl rfl (Nat.le_of_ble_eq_true rfl) dX1_lookAt_17 20 rfl (w1 := [(a_this, .inr (1, [.int (0 : Int32), .int (0 : Int32), .int (0 : Int32), .int (0 : Int32), .ref a_flaws, .int g_size, .int g_fewest])), (a_flaws, .inl ((zG Z).2.1 1, 70, .inl g_flaws)), (a_p0, .inr (8, [.int g_p0_places, .ref a_p0_squares])), (a_p0_squares, .inl ((zG Z).2.1 1, 49, .inl g_p0_squares))]) rfl ?_
  refine rn_aload_n hX dX1_lookAt_20 0 rfl 21 rfl ?_
  refine rn_iconst hX dX1_lookAt_21 22 rfl ic_0 ?_
  refine rn_put hX inX1 tyX1_ok nmX1 0 rfl rfl 5 (by decide) fl28 rfl rfl rfl rfl (Nat.le_of_ble_eq_true rfl) dX1_lookAt_22 25 rfl (w1 := [(a_this, .inr (1, [.int (0 : Int32), .int (0 : Int32), .int (0 : Int32), .int (0 : Int32), .ref a_flaws, .int (0 : Int32), .int g_fewest])), (a_flaws, .inl ((zG Z).2.1 1, 70, .inl g_flaws)), (a_p0, .inr (8, [.int g_p0_places, .ref a_p0_squares])), (a_p0_squares, .inl ((zG Z).2.1 1, 49, .inl g_p0_squares))]) rfl ?_
  refine rn_iconst hX dX1_lookAt_25 26 rfl ic_2 ?_
  refine rn_istore_n hX dX1_lookAt_26 2 rfl (by decide) (L' := [(2, .int (2 : Int32)), (0, .ref a_this), (1, .ref a_p0)]) rfl 27 rfl ?_
  refine rn_sub [1, 2, 0] rfl ?_
  exact (hL27  1000) (2 : Int32) (0 : Int32) (0 : Int32) (0 : Int32) (0 : Int32) (0 : Int32) g_flaws
abbrev rmX10_bit : Room := { frames := 0, cells := 0, slots := 0, locals := 0 }
theorem hdS_X10_bit : yX10_bit.cls ≠ "java/lang/invoke/MethodHandle" ∧ yX10_bit.cls ≠ "java/lang/invoke/VarHandle" ∧ (parseMethodDescriptor yX10_bit.desc).map (fun d => d.parameters.length) = some 1 := by decide +kernel
set_option maxHeartbeats 4000000 in
set_option maxRecDepth 100000 in
theorem c_X10_bit (l : Launch) (G : GT) (x0 : Int32) {u : Int32} (hu : X10_bit x0 = u) : Ctr l G yX10_bit wsX10_bit rmX10_bit [.int x0] [] (some (.int u)) [] := by
  obtain ⟨enc, henc⟩ : ∃ enc : (Int32) → Option Value × va_W, enc = fun u => (((some (.int u)) : Option Value), ([] : va_W)) := ⟨_, rfl⟩
  refine ctr_of (cc := cX10_bit) (own := RX10) (E := fun o => some (enc o)) (o := X10_bit x0) (by decide) rfl rfl (L := [(0, .int x0)]) rfl (Nat.le_of_ble_eq_true rfl) (by rw [hu, henc]) ?_
  intro Z hX hl hG hr
  subst hl; subst hG
  unfold X10_bit
  refine rn_iload_n hX dX10_bit_0 0 rfl 1 rfl ?_
  refine rn_if_eq hX dX10_bit_1 8 (by decide) 4 rfl ?_ ?_
  · refine rn_iconst hX dX10_bit_8 9 rfl ic_0 ?_
    exact rn_iret hX hr (by rw [henc]) dX10_bit_9
  refine rn_iconst hX dX10_bit_4 5 rfl ic_1 ?_
  refine rn_goto hX dX10_bit_5 9 (by decide) ?_
  exact rn_iret hX hr (by rw [henc]) dX10_bit_9
abbrev rmX1_flawsWith : Room := { frames := 1, cells := 0, slots := 0, locals := 21 }
theorem hdV_X1_flawsWith : yX1_flawsWith.cls = RX1 ∧ yX1_flawsWith.cls ≠ "java/lang/invoke/MethodHandle" ∧ yX1_flawsWith.cls ≠ "java/lang/invoke/VarHandle" ∧ (parseMethodDescriptor yX1_flawsWith.desc).map (fun d => d.parameters.length) = some 1 := by decide +kernel
set_option maxHeartbeats 4000000 in
set_option maxRecDepth 100000 in
theorem c_X1_flawsWith (l : Launch) (G : GT) (a_this a_flaws : Nat) (g_badThrees : Int32) (g_badFours : Int32) (g_flatThrees : Int32) (g_toldThrees : Int32) (g_size : Int32) (g_fewest : Int32) (g_flaws : (Nat → Int32)) (x1 : Int32) {u : Int32} (hu : X1_flawsWith x1 g_size g_flaws = some u) : Ctr l G yX1_flawsWith wsX1_flawsWith rmX1_flawsWith [.ref a_this, .int x1] [(a_this, .inr (1, [.int g_badThrees, .int g_badFours, .int g_flatThrees, .int g_toldThrees, .ref a_flaws, .int g_size, .int g_fewest])), (a_flaws, .inl (G.2.1 1, 70, .inl g_flaws))] (some (.int u)) [(a_this, .inr (1, [.int g_badThrees, .int g_badFours, .int g_flatThrees, .int g_toldThrees, .ref a_flaws, .int g_size, .int g_fewest])), (a_flaws, .inl (G.2.1 1, 70, .inl g_flaws))] := by
  obtain ⟨enc, henc⟩ : ∃ enc : (Int32) → Option Value × va_W, enc = fun u => (((some (.int u)) : Option Value), ([(a_this, .inr (1, [.int g_badThrees, .int g_badFours, .int g_flatThrees, .int g_toldThrees, .ref a_flaws, .int g_size, .int g_fewest])), (a_flaws, .inl (G.2.1 1, 70, .inl g_flaws))] : va_W)) := ⟨_, rfl⟩
  refine ctr_of (cc := cX1_flawsWith) (own := RX1) (E := Option.map enc) (o := X1_flawsWith x1 g_size g_flaws) (by decide) rfl rfl (L := [(0, .ref a_this), (1, .int x1)]) rfl (Nat.le_of_ble_eq_true rfl) (by rw [hu, henc]; rfl) ?_
  intro Z hX hl hG hr
  subst hl; subst hG
  have fl11 : (Cond.fieldLink RX1 11 "OnlyFar$Flaws" "flaws" "[I").before (za Z) (zs Z) = true := hX.wd (mcC _ wd_252)
  have fl28 : (Cond.fieldLink RX1 28 "OnlyFar$Flaws" "size" "I").before (za Z) (zs Z) = true := hX.wd (mcC _ wd_253)
  have inX1 : ∀ w ∈ u_ws RX1 TX1 7, w ∈ wsX1_flawsWith := fun w h => mcC w (inC_X1 w h)
  have hB4 : ∀ (again : Int32 → Int32 → Int32 → Option (Int32)) (hagain : ∀ (x1 : Int32) (x2 : Int32) (x3 : Int32), Rn Z 4 (Option.map enc) 0 0 4 [(0, .ref a_this), (1, .int x1), (2, .int x2), (3, .int x3)] [] [(a_this, .inr (1, [.int g_badThrees, .int g_badFours, .int g_flatThrees, .int g_toldThrees, .ref a_flaws, .int g_size, .int g_fewest])), (a_flaws, .inl ((zG Z).2.1 1, 70, .inl g_flaws))] (again x1 x2 x3)) (x1 : Int32) (x2 : Int32) (x3 : Int32), Rn Z 4 (Option.map enc) 0 0 4 [(0, .ref a_this), (1, .int x1), (2, .int x2), (3, .int x3)] [] [(a_this, .inr (1, [.int g_badThrees, .int g_badFours, .int g_flatThrees, .int g_toldThrees, .ref a_flaws, .int g_size, .int g_fewest])), (a_flaws, .inl ((zG Z).2.1 1, 70, .inl g_flaws))] (X1_flawsWith_B4 g_size g_flaws again x1 x2 x3) := by
    intro again hagain x1 x2 x3
    unfold X1_flawsWith_B4
    refine rn_iload_n hX dX1_flawsWith_4 3 rfl 5 rfl ?_
    refine rn_aload_n hX dX1_flawsWith_5 0 rfl 6 rfl ?_
    refine rn_get hX inX1 0 rfl rfl 5 (by decide) fl28 rfl rfl dX1_flawsWith_6 9 rfl ?_
    refine rn_icmp_ge hX dX1_flawsWith_9 40 (by decide) 12 rfl ?_ ?_
    · refine rn_iload_n hX dX1_flawsWith_40 2 rfl 41 rfl ?_
      exact rn_iret hX hr (by rw [henc]; rfl) dX1_flawsWith_41
    refine rn_iload_n hX dX1_flawsWith_12 3 rfl 13 rfl ?_
    refine rn_bipush hX dX1_flawsWith_13 15 rfl bp_70 ?_
    refine rn_icmp_ge hX dX1_flawsWith_15 40 (by decide) 18 rfl ?_ ?_
    · refine rn_iload_n hX dX1_flawsWith_40 2 rfl 41 rfl ?_
      exact rn_iret hX hr (by rw [henc]; rfl) dX1_flawsWith_41
    refine rn_iload_n hX dX1_flawsWith_18 2 rfl 19 rfl ?_
    refine rn_aload_n hX dX1_flawsWith_19 0 rfl 20 rfl ?_
    refine rn_get hX inX1 0 rfl rfl 4 (by decide) fl11 rfl rfl dX1_flawsWith_20 23 rfl ?_
    refine rn_iload_n hX dX1_flawsWith_23 3 rfl 24 rfl ?_
    refine rn_gd (fun hi1 => ?_)
    refine rn_iald hX 1 rfl hi1 dX1_flawsWith_24 25 rfl ?_
    refine rn_iload_n hX dX1_flawsWith_25 1 rfl 26 rfl ?_
    refine rn_callSN0 hX (goodK mcC wd_684) rfl (host := "OnlyFar") hn_X1_67 (hX.wd (mcC _ wd_70)) (hX.wd (mcC _ wd_683)) hdS_X10_hasBit rfl rfl ⟨Nat.le_of_ble_eq_true rfl, Nat.le_of_ble_eq_true rfl⟩ (c_X10_hasBit (zl Z) (zG Z) (g_flaws x3.toNatClampNeg) x1 rfl) rfl [] rfl rfl rfl (Nat.le_of_ble_eq_true rfl) dX1_flawsWith_26 29 rfl (S' := [.int (X10_hasBit (g_flaws x3.toNatClampNeg) x1), .int x2]) rfl ⟨Nat.zero_le _, Nat.zero_le _⟩ ?_
    refine rn_callSN0 hX (goodK mcC wd_603) rfl (host := "OnlyFar") hn_X1_71 (hX.wd (mcC _ wd_70)) (hX.wd (mcC _ wd_602)) hdS_X10_bit rfl rfl ⟨Nat.le_of_ble_eq_true rfl, Nat.le_of_ble_eq_true rfl⟩ (c_X10_bit (zl Z) (zG Z) (X10_hasBit (g_flaws x3.toNatClampNeg) x1) rfl) rfl [] rfl rfl rfl (Nat.le_of_ble_eq_true rfl) dX1_flawsWith_29 32 rfl (S' := [.int (X10_bit (X10_hasBit (g_flaws x3.toNatClampNeg) x1)), .int x2]) rfl ⟨Nat.zero_le _, Nat.zero_le _⟩ ?_
    refine rn_iadd hX dX1_flawsWith_32 33 rfl ?_
    refine rn_lati (fun v2 => ?_)
    refine rn_istore_n hX dX1_flawsWith_33 2 rfl (by decide) (L' := [(2, .int v2), (0, .ref a_this), (1, .int x1), (3, .int x3)]) rfl 34 rfl ?_
    refine rn_iinc hX dX1_flawsWith_34 3 rfl ic_1 (by decide) (L' := fun v3 => [(3, .int v3), (2, .int v2), (0, .ref a_this), (1, .int x1)]) (fun _ => rfl) 37 rfl (fun v3 => ?_)
    refine rn_goto hX dX1_flawsWith_37 4 (by decide) ?_
    refine rn_sub [2, 3, 1, 0] rfl ?_
    exact hagain x1 v2 v3
  have hL4 : ∀ (n : Nat) (x1 : Int32) (x2 : Int32) (x3 : Int32), Rn Z 4 (Option.map enc) 0 0 4 [(0, .ref a_this), (1, .int x1), (2, .int x2), (3, .int x3)] [] [(a_this, .inr (1, [.int g_badThrees, .int g_badFours, .int g_flatThrees, .int g_toldThrees, .ref a_flaws, .int g_size, .int g_fewest])), (a_flaws, .inl ((zG Z).2.1 1, 70, .inl g_flaws))] (X1_flawsWith_L4 g_size g_flaws n x1 x2 x3) := by
    intro n
    induction n with
    | zero => intros; exact rn_none
    | succ n ih => exact hB4 _ ih
  unfold X1_flawsWith
  refine rn_iconst hX dX1_flawsWith_0 1 rfl ic_0 ?_
  refine rn_istore_n hX dX1_flawsWith_1 2 rfl (by decide) (L' := [(2, .int (0 : Int32)), (0, .ref a_this), (1, .int x1)]) rfl 2 rfl ?_
  refine rn_iconst hX dX1_flawsWith_2 3 rfl ic_0 ?_
  refine rn_istore_n hX dX1_flawsWith_3 3 rfl (by decide) (L' := [(3, .int (0 : Int32)), (2, .int (0 : Int32)), (0, .ref a_this), (1, .int x1)]) rfl 4 rfl ?_
  refine rn_sub [2, 3, 1, 0] rfl ?_
  exact (hL4  1000) x1 (0 : Int32) (0 : Int32)
abbrev rmX1_mostDoubted : Room := { frames := 2, cells := 0, slots := 0, locals := 44 }
theorem hdV_X1_mostDoubted : yX1_mostDoubted.cls = RX1 ∧ yX1_mostDoubted.cls ≠ "java/lang/invoke/MethodHandle" ∧ yX1_mostDoubted.cls ≠ "java/lang/invoke/VarHandle" ∧ (parseMethodDescriptor yX1_mostDoubted.desc).map (fun d => d.parameters.length) = some 0 := by decide +kernel
set_option maxHeartbeats 4000000 in
set_option maxRecDepth 100000 in
theorem c_X1_mostDoubted (l : Launch) (G : GT) (a_this a_flaws : Nat) (g_badThrees : Int32) (g_badFours : Int32) (g_flatThrees : Int32) (g_toldThrees : Int32) (g_size : Int32) (g_fewest : Int32) (g_flaws : (Nat → Int32)) {u : Int32} (hu : X1_mostDoubted g_size g_flaws = some u) : Ctr l G yX1_mostDoubted wsX1_mostDoubted rmX1_mostDoubted [.ref a_this] [(a_this, .inr (1, [.int g_badThrees, .int g_badFours, .int g_flatThrees, .int g_toldThrees, .ref a_flaws, .int g_size, .int g_fewest])), (a_flaws, .inl (G.2.1 1, 70, .inl g_flaws))] (some (.int u)) [(a_this, .inr (1, [.int g_badThrees, .int g_badFours, .int g_flatThrees, .int g_toldThrees, .ref a_flaws, .int g_size, .int g_fewest])), (a_flaws, .inl (G.2.1 1, 70, .inl g_flaws))] := by
  obtain ⟨enc, henc⟩ : ∃ enc : (Int32) → Option Value × va_W, enc = fun u => (((some (.int u)) : Option Value), ([(a_this, .inr (1, [.int g_badThrees, .int g_badFours, .int g_flatThrees, .int g_toldThrees, .ref a_flaws, .int g_size, .int g_fewest])), (a_flaws, .inl (G.2.1 1, 70, .inl g_flaws))] : va_W)) := ⟨_, rfl⟩
  refine ctr_of (cc := cX1_mostDoubted) (own := RX1) (E := Option.map enc) (o := X1_mostDoubted g_size g_flaws) (by decide) rfl rfl (L := [(0, .ref a_this)]) rfl (Nat.le_of_ble_eq_true rfl) (by rw [hu, henc]; rfl) ?_
  intro Z hX hl hG hr
  subst hl; subst hG
  have hJ30 : ∀ (again : Int32 → Int32 → Int32 → Option (Int32)) (hagain : ∀ (x1 : Int32) (x2 : Int32) (x3 : Int32), Rn Z 5 (Option.map enc) 0 0 6 [(0, .ref a_this), (1, .int x1), (2, .int x2), (3, .int x3)] [] [(a_this, .inr (1, [.int g_badThrees, .int g_badFours, .int g_flatThrees, .int g_toldThrees, .ref a_flaws, .int g_size, .int g_fewest])), (a_flaws, .inl ((zG Z).2.1 1, 70, .inl g_flaws))] (again x1 x2 x3)) (x1 : Int32) (x2 : Int32) (x3 : Int32), Rn Z 5 (Option.map enc) 0 0 30 [(0, .ref a_this), (1, .int x1), (2, .int x2), (3, .int x3)] [] [(a_this, .inr (1, [.int g_badThrees, .int g_badFours, .int g_flatThrees, .int g_toldThrees, .ref a_flaws, .int g_size, .int g_fewest])), (a_flaws, .inl ((zG Z).2.1 1, 70, .inl g_flaws))] (X1_mostDoubted_J30 again x1 x2 x3) := by
    intro again hagain x1 x2 x3
    unfold X1_mostDoubted_J30
    refine rn_iinc hX dX1_mostDoubted_30 3 rfl ic_1 (by decide) (L' := fun v1 => [(3, .int v1), (0, .ref a_this), (1, .int x1), (2, .int x2)]) (fun _ => rfl) 33 rfl (fun v1 => ?_)
    refine rn_goto hX dX1_mostDoubted_33 6 (by decide) ?_
    refine rn_sub [1, 2, 3, 0] rfl ?_
    exact hagain x1 x2 v1
  have hB6 : ∀ (again : Int32 → Int32 → Int32 → Option (Int32)) (hagain : ∀ (x1 : Int32) (x2 : Int32) (x3 : Int32), Rn Z 5 (Option.map enc) 0 0 6 [(0, .ref a_this), (1, .int x1), (2, .int x2), (3, .int x3)] [] [(a_this, .inr (1, [.int g_badThrees, .int g_badFours, .int g_flatThrees, .int g_toldThrees, .ref a_flaws, .int g_size, .int g_fewest])), (a_flaws, .inl ((zG Z).2.1 1, 70, .inl g_flaws))] (again x1 x2 x3)) (x1 : Int32) (x2 : Int32) (x3 : Int32), Rn Z 5 (Option.map enc) 0 0 6 [(0, .ref a_this), (1, .int x1), (2, .int x2), (3, .int x3)] [] [(a_this, .inr (1, [.int g_badThrees, .int g_badFours, .int g_flatThrees, .int g_toldThrees, .ref a_flaws, .int g_size, .int g_fewest])), (a_flaws, .inl ((zG Z).2.1 1, 70, .inl g_flaws))] (X1_mostDoubted_B6 g_size g_flaws again x1 x2 x3) := by
    intro again hagain x1 x2 x3
    unfold X1_mostDoubted_B6
    refine rn_iload_n hX dX1_mostDoubted_6 3 rfl 7 rfl ?_
    refine rn_bipush hX dX1_mostDoubted_7 9 rfl bp_21 ?_
    refine rn_icmp_ge hX dX1_mostDoubted_9 36 (by decide) 12 rfl ?_ ?_
    · refine rn_iload_n hX dX1_mostDoubted_36 1 rfl 37 rfl ?_
      exact rn_iret hX hr (by rw [henc]; rfl) dX1_mostDoubted_37
    refine rn_aload_n hX dX1_mostDoubted_12 0 rfl 13 rfl ?_
    refine rn_iload_n hX dX1_mostDoubted_13 3 rfl 14 rfl ?_
    refine rn_bind (fun u2 hu2 => ?_)
    refine rn_callV0 hX (gV mcC wd_694 wd_695 wd_696 wd_77 wd_697) rfl hdV_X1_flawsWith rfl rfl ⟨Nat.le_of_ble_eq_true rfl, Nat.le_of_ble_eq_true rfl⟩ (c_X1_flawsWith (zl Z) (zG Z) a_this a_flaws g_badThrees g_badFours g_flatThrees g_toldThrees g_size g_fewest g_flaws x3 hu2) rfl [0, 1] rfl rfl (ci := 1) rfl rfl rfl (Nat.le_of_ble_eq_true rfl) dX1_mostDoubted_14 17 rfl (S' := [.int u2]) rfl ⟨Nat.zero_le _, Nat.zero_le _⟩ ?_
    refine rn_istore hX dX1_mostDoubted_17 (by decide) (L' := [(4, .int u2), (0, .ref a_this), (1, .int x1), (2, .int x2), (3, .int x3)]) rfl 19 rfl ?_
    refine rn_iload hX dX1_mostDoubted_19 0 rfl 21 rfl ?_
    refine rn_iload_n hX dX1_mostDoubted_21 3 rfl 22 rfl ?_
    refine rn_icmp_le hX dX1_mostDoubted_22 30 (by decide) 25 rfl ?_ ?_
    · refine rn_sub [1, 2, 3, 4] rfl ?_
      exact (hJ30 _ hagain) x1 x2 x3
    refine rn_iload_n hX dX1_mostDoubted_25 4 rfl 26 rfl ?_
    refine rn_istore_n hX dX1_mostDoubted_26 1 rfl (by decide) (L' := [(1, .int x3), (4, .int u2), (0, .ref a_this), (2, .int x2), (3, .int x3)]) rfl 27 rfl ?_
    refine rn_iload hX dX1_mostDoubted_27 1 rfl 29 rfl ?_
    refine rn_istore_n hX dX1_mostDoubted_29 2 rfl (by decide) (L' := [(2, .int u2), (1, .int x3), (4, .int u2), (0, .ref a_this), (3, .int x3)]) rfl 30 rfl ?_
    refine rn_sub [3, 1, 0, 4] rfl ?_
    exact (hJ30 _ hagain) x3 u2 x3
  have hL6 : ∀ (n : Nat) (x1 : Int32) (x2 : Int32) (x3 : Int32), Rn Z 5 (Option.map enc) 0 0 6 [(0, .ref a_this), (1, .int x1), (2, .int x2), (3, .int x3)] [] [(a_this, .inr (1, [.int g_badThrees, .int g_badFours, .int g_flatThrees, .int g_toldThrees, .ref a_flaws, .int g_size, .int g_fewest])), (a_flaws, .inl ((zG Z).2.1 1, 70, .inl g_flaws))] (X1_mostDoubted_L6 g_size g_flaws n x1 x2 x3) := by
    intro n
    induction n with
    | zero => intros; exact rn_none
    | succ n ih => exact hB6 _ ih
  unfold X1_mostDoubted
  refine rn_iconst hX dX1_mostDoubted_0 1 rfl ic_m1 ?_
  refine rn_istore_n hX dX1_mostDoubted_1 1 rfl (by decide) (L' := [(1, .int (-1 : Int32)), (0, .ref a_this)]) rfl 2 rfl ?_
  refine rn_iconst hX dX1_mostDoubted_2 3 rfl ic_0 ?_
  refine rn_istore_n hX dX1_mostDoubted_3 2 rfl (by decide) (L' := [(2, .int (0 : Int32)), (1, .int (-1 : Int32)), (0, .ref a_this)]) rfl 4 rfl ?_
  refine rn_iconst hX dX1_mostDoubted_4 5 rfl ic_0 ?_
  refine rn_istore_n hX dX1_mostDoubted_5 3 rfl (by decide) (L' := [(3, .int (0 : Int32)), (2, .int (0 : Int32)), (1, .int (-1 : Int32)), (0, .ref a_this)]) rfl 6 rfl ?_
  refine rn_sub [3, 2, 1, 0] rfl ?_
  exact (hL6  1000) (-1 : Int32) (0 : Int32) (0 : Int32)
abbrev rmX1_firstFlawWithout : Room := { frames := 0, cells := 0, slots := 0, locals := 0 }
theorem hdV_X1_firstFlawWithout : yX1_firstFlawWithout.cls = RX1 ∧ yX1_firstFlawWithout.cls ≠ "java/lang/invoke/MethodHandle" ∧ yX1_firstFlawWithout.cls ≠ "java/lang/invoke/VarHandle" ∧ (parseMethodDescriptor yX1_firstFlawWithout.desc).map (fun d => d.parameters.length) = some 1 := by decide +kernel
set_option maxHeartbeats 4000000 in
set_option maxRecDepth 100000 in
theorem c_X1_firstFlawWithout (l : Launch) (G : GT) (a_this a_flaws : Nat) (g_badThrees : Int32) (g_badFours : Int32) (g_flatThrees : Int32) (g_toldThrees : Int32) (g_size : Int32) (g_fewest : Int32) (g_flaws : (Nat → Int32)) (x1 : Int32) {u : Int32} (hu : X1_firstFlawWithout x1 g_size g_flaws = some u) : Ctr l G yX1_firstFlawWithout wsX1_firstFlawWithout rmX1_firstFlawWithout [.ref a_this, .int x1] [(a_this, .inr (1, [.int g_badThrees, .int g_badFours, .int g_flatThrees, .int g_toldThrees, .ref a_flaws, .int g_size, .int g_fewest])), (a_flaws, .inl (G.2.1 1, 70, .inl g_flaws))] (some (.int u)) [(a_this, .inr (1, [.int g_badThrees, .int g_badFours, .int g_flatThrees, .int g_toldThrees, .ref a_flaws, .int g_size, .int g_fewest])), (a_flaws, .inl (G.2.1 1, 70, .inl g_flaws))] := by
  obtain ⟨enc, henc⟩ : ∃ enc : (Int32) → Option Value × va_W, enc = fun u => (((some (.int u)) : Option Value), ([(a_this, .inr (1, [.int g_badThrees, .int g_badFours, .int g_flatThrees, .int g_toldThrees, .ref a_flaws, .int g_size, .int g_fewest])), (a_flaws, .inl (G.2.1 1, 70, .inl g_flaws))] : va_W)) := ⟨_, rfl⟩
  refine ctr_of (cc := cX1_firstFlawWithout) (own := RX1) (E := Option.map enc) (o := X1_firstFlawWithout x1 g_size g_flaws) (by decide) rfl rfl (L := [(0, .ref a_this), (1, .int x1)]) rfl (Nat.le_of_ble_eq_true rfl) (by rw [hu, henc]; rfl) ?_
  intro Z hX hl hG hr
  subst hl; subst hG
  have fl11 : (Cond.fieldLink RX1 11 "OnlyFar$Flaws" "flaws" "[I").before (za Z) (zs Z) = true := hX.wd (mcC _ wd_252)
  have fl28 : (Cond.fieldLink RX1 28 "OnlyFar$Flaws" "size" "I").before (za Z) (zs Z) = true := hX.wd (mcC _ wd_253)
  have inX1 : ∀ w ∈ u_ws RX1 TX1 7, w ∈ wsX1_firstFlawWithout := fun w h => mcC w (inC_X1 w h)
  have hB2 : ∀ (again : Int32 → Int32 → Option (Int32)) (hagain : ∀ (x1 : Int32) (x2 : Int32), Rn Z 3 (Option.map enc) 0 0 2 [(0, .ref a_this), (1, .int x1), (2, .int x2)] [] [(a_this, .inr (1, [.int g_badThrees, .int g_badFours, .int g_flatThrees, .int g_toldThrees, .ref a_flaws, .int g_size, .int g_fewest])), (a_flaws, .inl ((zG Z).2.1 1, 70, .inl g_flaws))] (again x1 x2)) (x1 : Int32) (x2 : Int32), Rn Z 3 (Option.map enc) 0 0 2 [(0, .ref a_this), (1, .int x1), (2, .int x2)] [] [(a_this, .inr (1, [.int g_badThrees, .int g_badFours, .int g_flatThrees, .int g_toldThrees, .ref a_flaws, .int g_size, .int g_fewest])), (a_flaws, .inl ((zG Z).2.1 1, 70, .inl g_flaws))] (X1_firstFlawWithout_B2 g_size g_flaws again x1 x2) := by
    intro again hagain x1 x2
    unfold X1_firstFlawWithout_B2
    refine rn_iload_n hX dX1_firstFlawWithout_2 2 rfl 3 rfl ?_
    refine rn_aload_n hX dX1_firstFlawWithout_3 0 rfl 4 rfl ?_
    refine rn_get hX inX1 0 rfl rfl 5 (by decide) fl28 rfl rfl dX1_firstFlawWithout_4 7 rfl ?_
    refine rn_icmp_ge hX dX1_firstFlawWithout_7 40 (by decide) 10 rfl ?_ ?_
    · refine rn_iconst hX dX1_firstFlawWithout_40 41 rfl ic_0 ?_
      exact rn_iret hX hr (by rw [henc]; rfl) dX1_firstFlawWithout_41
    refine rn_iload_n hX dX1_firstFlawWithout_10 2 rfl 11 rfl ?_
    refine rn_bipush hX dX1_firstFlawWithout_11 13 rfl bp_70 ?_
    refine rn_icmp_ge hX dX1_firstFlawWithout_13 40 (by decide) 16 rfl ?_ ?_
    · refine rn_iconst hX dX1_firstFlawWithout_40 41 rfl ic_0 ?_
      exact rn_iret hX hr (by rw [henc]; rfl) dX1_firstFlawWithout_41
    refine rn_aload_n hX dX1_firstFlawWithout_16 0 rfl 17 rfl ?_
    refine rn_get hX inX1 0 rfl rfl 4 (by decide) fl11 rfl rfl dX1_firstFlawWithout_17 20 rfl ?_
    refine rn_iload_n hX dX1_firstFlawWithout_20 2 rfl 21 rfl ?_
    refine rn_gd (fun hi1 => ?_)
    refine rn_iald hX 1 rfl hi1 dX1_firstFlawWithout_21 22 rfl ?_
    refine rn_iload_n hX dX1_firstFlawWithout_22 1 rfl 23 rfl ?_
    refine rn_iand hX dX1_firstFlawWithout_23 24 rfl ?_
    refine rn_if_ne hX dX1_firstFlawWithout_24 34 (by decide) 27 rfl ?_ ?_
    · refine rn_iinc hX dX1_firstFlawWithout_34 2 rfl ic_1 (by decide) (L' := fun v2 => [(2, .int v2), (0, .ref a_this), (1, .int x1)]) (fun _ => rfl) 37 rfl (fun v2 => ?_)
      refine rn_goto hX dX1_firstFlawWithout_37 2 (by decide) ?_
      refine rn_sub [1, 2, 0] rfl ?_
      exact hagain x1 v2
    refine rn_aload_n hX dX1_firstFlawWithout_27 0 rfl 28 rfl ?_
    refine rn_get hX inX1 0 rfl rfl 4 (by decide) fl11 rfl rfl dX1_firstFlawWithout_28 31 rfl ?_
    refine rn_iload_n hX dX1_firstFlawWithout_31 2 rfl 32 rfl ?_
    refine rn_iald hX 1 rfl hi1 dX1_firstFlawWithout_32 33 rfl ?_
    exact rn_iret hX hr (by rw [henc]; rfl) dX1_firstFlawWithout_33
  have hL2 : ∀ (n : Nat) (x1 : Int32) (x2 : Int32), Rn Z 3 (Option.map enc) 0 0 2 [(0, .ref a_this), (1, .int x1), (2, .int x2)] [] [(a_this, .inr (1, [.int g_badThrees, .int g_badFours, .int g_flatThrees, .int g_toldThrees, .ref a_flaws, .int g_size, .int g_fewest])), (a_flaws, .inl ((zG Z).2.1 1, 70, .inl g_flaws))] (X1_firstFlawWithout_L2 g_size g_flaws n x1 x2) := by
    intro n
    induction n with
    | zero => intros; exact rn_none
    | succ n ih => exact hB2 _ ih
  unfold X1_firstFlawWithout
  refine rn_iconst hX dX1_firstFlawWithout_0 1 rfl ic_0 ?_
  refine rn_istore_n hX dX1_firstFlawWithout_1 2 rfl (by decide) (L' := [(2, .int (0 : Int32)), (0, .ref a_this), (1, .int x1)]) rfl 2 rfl ?_
  refine rn_sub [1, 2, 0] rfl ?_
  exact (hL2  1000) x1 (0 : Int32)
abbrev rmJ6_bitCount_0f7a4 : Room := { frames := 0, cells := 0, slots := 0, locals := 0 }
theorem hdS_J6_bitCount_0f7a4 : yJ6_bitCount_0f7a4.cls ≠ "java/lang/invoke/MethodHandle" ∧ yJ6_bitCount_0f7a4.cls ≠ "java/lang/invoke/VarHandle" ∧ (parseMethodDescriptor yJ6_bitCount_0f7a4.desc).map (fun d => d.parameters.length) = some 1 := by decide +kernel
set_option maxHeartbeats 4000000 in
set_option maxRecDepth 100000 in
theorem c_J6_bitCount_0f7a4 (l : Launch) (G : GT) (x0 : Int32) {u : Int32} (hu : J6_bitCount_0f7a4 x0 = u) : Ctr l G yJ6_bitCount_0f7a4 wsJ6_bitCount_0f7a4 rmJ6_bitCount_0f7a4 [.int x0] [] (some (.int u)) [] := by
  obtain ⟨enc, henc⟩ : ∃ enc : (Int32) → Option Value × va_W, enc = fun u => (((some (.int u)) : Option Value), ([] : va_W)) := ⟨_, rfl⟩
  refine ctr_of (cc := cJ6_bitCount_0f7a4) (own := RJ6) (E := fun o => some (enc o)) (o := J6_bitCount_0f7a4 x0) (by decide) rfl rfl (L := [(0, .int x0)]) rfl (Nat.le_of_ble_eq_true rfl) (by rw [hu, henc]) ?_
  intro Z hX hl hG hr
  subst hl; subst hG
  have kl265 : (Cond.constant RJ6 265 (1431655765)).before (za Z) (zs Z) = true := hX.wd (mcC _ wd_679)
  have kl266 : (Cond.constant RJ6 266 (858993459)).before (za Z) (zs Z) = true := hX.wd (mcC _ wd_680)
  have kl267 : (Cond.constant RJ6 267 (252645135)).before (za Z) (zs Z) = true := hX.wd (mcC _ wd_681)
  unfold J6_bitCount_0f7a4
  refine rn_iload_n hX dJ6_bitCount_0f7a4_0 0 rfl 1 rfl ?_
  refine rn_iload_n hX dJ6_bitCount_0f7a4_1 0 rfl 2 rfl ?_
  refine rn_iconst hX dJ6_bitCount_0f7a4_2 3 rfl ic_1 ?_
  refine rn_iushr hX dJ6_bitCount_0f7a4_3 4 rfl rfl ?_
  refine rn_ldcw hX kl265 dJ6_bitCount_0f7a4_4 7 rfl ?_
  refine rn_iand hX dJ6_bitCount_0f7a4_7 8 rfl ?_
  refine rn_isub hX dJ6_bitCount_0f7a4_8 9 rfl ?_
  refine rn_lati (fun v1 => ?_)
  refine rn_istore_n hX dJ6_bitCount_0f7a4_9 0 rfl (by decide) (L' := [(0, .int v1)]) rfl 10 rfl ?_
  refine rn_iload_n hX dJ6_bitCount_0f7a4_10 0 rfl 11 rfl ?_
  refine rn_ldcw hX kl266 dJ6_bitCount_0f7a4_11 14 rfl ?_
  refine rn_iand hX dJ6_bitCount_0f7a4_14 15 rfl ?_
  refine rn_iload_n hX dJ6_bitCount_0f7a4_15 0 rfl 16 rfl ?_
  refine rn_iconst hX dJ6_bitCount_0f7a4_16 17 rfl ic_2 ?_
  refine rn_iushr hX dJ6_bitCount_0f7a4_17 18 rfl rfl ?_
  refine rn_ldcw hX kl266 dJ6_bitCount_0f7a4_18 21 rfl ?_
  refine rn_iand hX dJ6_bitCount_0f7a4_21 22 rfl ?_
  refine rn_iadd hX dJ6_bitCount_0f7a4_22 23 rfl ?_
  refine rn_lati (fun v2 => ?_)
  refine rn_istore_n hX dJ6_bitCount_0f7a4_23 0 rfl (by decide) (L' := [(0, .int v2)]) rfl 24 rfl ?_
  refine rn_iload_n hX dJ6_bitCount_0f7a4_24 0 rfl 25 rfl ?_
  refine rn_iload_n hX dJ6_bitCount_0f7a4_25 0 rfl 26 rfl ?_
  refine rn_iconst hX dJ6_bitCount_0f7a4_26 27 rfl ic_4 ?_
  refine rn_iushr hX dJ6_bitCount_0f7a4_27 28 rfl rfl ?_
  refine rn_iadd hX dJ6_bitCount_0f7a4_28 29 rfl ?_
  refine rn_ldcw hX kl267 dJ6_bitCount_0f7a4_29 32 rfl ?_
  refine rn_iand hX dJ6_bitCount_0f7a4_32 33 rfl ?_
  refine rn_lati (fun v3 => ?_)
  refine rn_istore_n hX dJ6_bitCount_0f7a4_33 0 rfl (by decide) (L' := [(0, .int v3)]) rfl 34 rfl ?_
  refine rn_iload_n hX dJ6_bitCount_0f7a4_34 0 rfl 35 rfl ?_
  refine rn_iload_n hX dJ6_bitCount_0f7a4_35 0 rfl 36 rfl ?_
  refine rn_bipush hX dJ6_bitCount_0f7a4_36 38 rfl bp_8 ?_
  refine rn_iushr hX dJ6_bitCount_0f7a4_38 39 rfl rfl ?_
  refine rn_iadd hX dJ6_bitCount_0f7a4_39 40 rfl ?_
  refine rn_lati (fun v4 => ?_)
  refine rn_istore_n hX dJ6_bitCount_0f7a4_40 0 rfl (by decide) (L' := [(0, .int v4)]) rfl 41 rfl ?_
  refine rn_iload_n hX dJ6_bitCount_0f7a4_41 0 rfl 42 rfl ?_
  refine rn_iload_n hX dJ6_bitCount_0f7a4_42 0 rfl 43 rfl ?_
  refine rn_bipush hX dJ6_bitCount_0f7a4_43 45 rfl bp_16 ?_
  refine rn_iushr hX dJ6_bitCount_0f7a4_45 46 rfl rfl ?_
  refine rn_iadd hX dJ6_bitCount_0f7a4_46 47 rfl ?_
  refine rn_lati (fun v5 => ?_)
  refine rn_istore_n hX dJ6_bitCount_0f7a4_47 0 rfl (by decide) (L' := [(0, .int v5)]) rfl 48 rfl ?_
  refine rn_iload_n hX dJ6_bitCount_0f7a4_48 0 rfl 49 rfl ?_
  refine rn_bipush hX dJ6_bitCount_0f7a4_49 51 rfl bp_63 ?_
  refine rn_iand hX dJ6_bitCount_0f7a4_51 52 rfl ?_
  exact rn_iret hX hr (by rw [henc]) dJ6_bitCount_0f7a4_52
abbrev rmX1_isBetter : Room := { frames := 1, cells := 0, slots := 0, locals := 20 }
theorem hdV_X1_isBetter : yX1_isBetter.cls = RX1 ∧ yX1_isBetter.cls ≠ "java/lang/invoke/MethodHandle" ∧ yX1_isBetter.cls ≠ "java/lang/invoke/VarHandle" ∧ (parseMethodDescriptor yX1_isBetter.desc).map (fun d => d.parameters.length) = some 1 := by decide +kernel
set_option maxHeartbeats 4000000 in
set_option maxRecDepth 100000 in
theorem c_X1_isBetter (l : Launch) (G : GT) (a_this a_flaws : Nat) (g_badThrees : Int32) (g_badFours : Int32) (g_flatThrees : Int32) (g_toldThrees : Int32) (g_size : Int32) (g_fewest : Int32) (x1 : Int32) {u : Int32} (hu : X1_isBetter x1 g_fewest = u) : Ctr l G yX1_isBetter wsX1_isBetter rmX1_isBetter [.ref a_this, .int x1] [(a_this, .inr (1, [.int g_badThrees, .int g_badFours, .int g_flatThrees, .int g_toldThrees, .ref a_flaws, .int g_size, .int g_fewest]))] (some (.int u)) [(a_this, .inr (1, [.int g_badThrees, .int g_badFours, .int g_flatThrees, .int g_toldThrees, .ref a_flaws, .int g_size, .int g_fewest]))] := by
  obtain ⟨enc, henc⟩ : ∃ enc : (Int32) → Option Value × va_W, enc = fun u => (((some (.int u)) : Option Value), ([(a_this, .inr (1, [.int g_badThrees, .int g_badFours, .int g_flatThrees, .int g_toldThrees, .ref a_flaws, .int g_size, .int g_fewest]))] : va_W)) := ⟨_, rfl⟩
  refine ctr_of (cc := cX1_isBetter) (own := RX1) (E := fun o => some (enc o)) (o := X1_isBetter x1 g_fewest) (by decide) rfl rfl (L := [(0, .ref a_this), (1, .int x1)]) rfl (Nat.le_of_ble_eq_true rfl) (by rw [hu, henc]) ?_
  intro Z hX hl hG hr
  subst hl; subst hG
  have fl79 : (Cond.fieldLink RX1 79 "OnlyFar$Flaws" "fewest" "I").before (za Z) (zs Z) = true := hX.wd (mcC _ wd_254)
  have inX1 : ∀ w ∈ u_ws RX1 TX1 7, w ∈ wsX1_isBetter := fun w h => mcC w (inC_X1 w h)
  unfold X1_isBetter
  refine rn_aload_n hX dX1_isBetter_0 0 rfl 1 rfl ?_
  refine rn_get hX inX1 0 rfl rfl 6 (by decide) fl79 rfl rfl dX1_isBetter_1 4 rfl ?_
  refine rn_iconst hX dX1_isBetter_4 5 rfl ic_m1 ?_
  refine rn_icmp_ne hX dX1_isBetter_5 10 (by decide) 8 rfl ?_ ?_
  · refine rn_aload_n hX dX1_isBetter_10 0 rfl 11 rfl ?_
    refine rn_get hX inX1 0 rfl rfl 6 (by decide) fl79 rfl rfl dX1_isBetter_11 14 rfl ?_
    refine rn_callS0 hX (gS mcC wd_676 wd_677 wd_89 wd_678) rfl hdS_J6_bitCount_0f7a4 rfl rfl ⟨Nat.le_of_ble_eq_true rfl, Nat.le_of_ble_eq_true rfl⟩ (c_J6_bitCount_0f7a4 (zl Z) (zG Z) g_fewest rfl) rfl [] rfl rfl rfl (Nat.le_of_ble_eq_true rfl) dX1_isBetter_14 17 rfl (S' := [.int (J6_bitCount_0f7a4 g_fewest)]) rfl ⟨Nat.zero_le _, Nat.zero_le _⟩ ?_
    refine rn_iload_n hX dX1_isBetter_17 1 rfl 18 rfl ?_
    refine rn_callS0 hX (gS mcC wd_676 wd_677 wd_89 wd_678) rfl hdS_J6_bitCount_0f7a4 rfl rfl ⟨Nat.le_of_ble_eq_true rfl, Nat.le_of_ble_eq_true rfl⟩ (c_J6_bitCount_0f7a4 (zl Z) (zG Z) x1 rfl) rfl [] rfl rfl rfl (Nat.le_of_ble_eq_true rfl) dX1_isBetter_18 21 rfl (S' := [.int (J6_bitCount_0f7a4 x1), .int (J6_bitCount_0f7a4 g_fewest)]) rfl ⟨Nat.zero_le _, Nat.zero_le _⟩ ?_
    refine rn_isub hX dX1_isBetter_21 22 rfl ?_
    refine rn_lati (fun v1 => ?_)
    refine rn_istore_n hX dX1_isBetter_22 2 rfl (by decide) (L' := [(2, .int v1), (0, .ref a_this), (1, .int x1)]) rfl 23 rfl ?_
    refine rn_iload_n hX dX1_isBetter_23 0 rfl 24 rfl ?_
    refine rn_if_gt hX dX1_isBetter_24 39 (by decide) 27 rfl ?_ ?_
    · refine rn_iconst hX dX1_isBetter_39 40 rfl ic_1 ?_
      refine rn_goto hX dX1_isBetter_40 44 (by decide) ?_
      exact rn_zret hX rfl hr (by rw [henc]) dX1_isBetter_44
    refine rn_iload_n hX dX1_isBetter_27 0 rfl 28 rfl ?_
    refine rn_if_ne hX dX1_isBetter_28 43 (by decide) 31 rfl ?_ ?_
    · refine rn_iconst hX dX1_isBetter_43 44 rfl ic_0 ?_
      exact rn_zret hX rfl hr (by rw [henc]) dX1_isBetter_44
    refine rn_iload_n hX dX1_isBetter_31 2 rfl 32 rfl ?_
    refine rn_aload_n hX dX1_isBetter_32 1 rfl 33 rfl ?_
    refine rn_get hX inX1 0 rfl rfl 6 (by decide) fl79 rfl rfl dX1_isBetter_33 36 rfl ?_
    refine rn_icmp_ge hX dX1_isBetter_36 43 (by decide) 39 rfl ?_ ?_
    · refine rn_iconst hX dX1_isBetter_43 44 rfl ic_0 ?_
      exact rn_zret hX rfl hr (by rw [henc]) dX1_isBetter_44
    refine rn_iconst hX dX1_isBetter_39 40 rfl ic_1 ?_
    refine rn_goto hX dX1_isBetter_40 44 (by decide) ?_
    exact rn_zret hX rfl hr (by rw [henc]) dX1_isBetter_44
  refine rn_iconst hX dX1_isBetter_8 9 rfl ic_1 ?_
  exact rn_zret hX rfl hr (by rw [henc]) dX1_isBetter_9
abbrev rmX1_leaveOut (n : Nat) : Room := { frames := 2 + n, cells := 0, slots := 0, locals := 42 + n * 24 }
theorem hdV_X1_leaveOut : yX1_leaveOut.cls = RX1 ∧ yX1_leaveOut.cls ≠ "java/lang/invoke/MethodHandle" ∧ yX1_leaveOut.cls ≠ "java/lang/invoke/VarHandle" ∧ (parseMethodDescriptor yX1_leaveOut.desc).map (fun d => d.parameters.length) = some 2 := by decide +kernel
set_option maxHeartbeats 4000000 in
set_option maxRecDepth 100000 in
theorem c_X1_leaveOut (l : Launch) (G : GT) : ∀ (rd : Nat) (a_this a_flaws : Nat) (g_badThrees : Int32) (g_badFours : Int32) (g_flatThrees : Int32) (g_toldThrees : Int32) (g_size : Int32) (g_fewest : Int32) (g_flaws : (Nat → Int32)) (x1 : Int32) (x2 : Int32) {u : Int32} (hu : X1_leaveOut rd x1 x2 g_fewest g_size g_flaws = some u), Ctr l G yX1_leaveOut wsX1_leaveOut (rmX1_leaveOut rd) [.ref a_this, .int x1, .int x2] [(a_this, .inr (1, [.int g_badThrees, .int g_badFours, .int g_flatThrees, .int g_toldThrees, .ref a_flaws, .int g_size, .int g_fewest])), (a_flaws, .inl (G.2.1 1, 70, .inl g_flaws))] none [(a_this, .inr (1, [.int g_badThrees, .int g_badFours, .int g_flatThrees, .int g_toldThrees, .ref a_flaws, .int g_size, .int u])), (a_flaws, .inl (G.2.1 1, 70, .inl g_flaws))] := by
  intro rd
  induction rd with
  | zero => intro a_this a_flaws g_badThrees g_badFours g_flatThrees g_toldThrees g_size g_fewest g_flaws x1 x2 u hu; exact nomatch (show none = some u from hu)
  | succ rd ihr =>
  intro a_this a_flaws g_badThrees g_badFours g_flatThrees g_toldThrees g_size g_fewest g_flaws x1 x2 u hu
  obtain ⟨enc, henc⟩ : ∃ enc : (Int32) → Option Value × va_W, enc = fun u => ((none : Option Value), ([(a_this, .inr (1, [.int g_badThrees, .int g_badFours, .int g_flatThrees, .int g_toldThrees, .ref a_flaws, .int g_size, .int u])), (a_flaws, .inl (G.2.1 1, 70, .inl g_flaws))] : va_W)) := ⟨_, rfl⟩
  refine ctr_of (cc := cX1_leaveOut) (own := RX1) (E := Option.map enc) (o := X1_leaveOut (rd + 1) x1 x2 g_fewest g_size g_flaws) (by decide) rfl rfl (L := [(0, .ref a_this), (1, .int x1), (2, .int x2)]) rfl (Nat.le_of_ble_eq_true rfl) (by rw [hu, henc]; rfl) ?_
  intro Z hX hl hG hr
  subst hl; subst hG
  have fl79 : (Cond.fieldLink RX1 79 "OnlyFar$Flaws" "fewest" "I").before (za Z) (zs Z) = true := hX.wd (mcC _ wd_254)
  have inX1 : ∀ w ∈ u_ws RX1 TX1 7, w ∈ wsX1_leaveOut := fun w h => mcC w (inC_X1 w h)
  have hJ62 : ∀ (again : Int32 → Int32 → Int32 → Int32 → Int32 → Option (Int32)) (hagain : ∀ (x1 : Int32) (x2 : Int32) (x3 : Int32) (x4 : Int32) (g_fewest : Int32), Rn Z 5 (Option.map enc) 0 0 33 [(0, .ref a_this), (1, .int x1), (2, .int x2), (3, .int x3), (4, .int x4)] [] [(a_this, .inr (1, [.int g_badThrees, .int g_badFours, .int g_flatThrees, .int g_toldThrees, .ref a_flaws, .int g_size, .int g_fewest])), (a_flaws, .inl ((zG Z).2.1 1, 70, .inl g_flaws))] (again x1 x2 x3 x4 g_fewest)) (x1 : Int32) (x2 : Int32) (x3 : Int32) (x4 : Int32) (g_fewest : Int32), Rn Z 5 (Option.map enc) 0 0 62 [(0, .ref a_this), (1, .int x1), (2, .int x2), (3, .int x3), (4, .int x4)] [] [(a_this, .inr (1, [.int g_badThrees, .int g_badFours, .int g_flatThrees, .int g_toldThrees, .ref a_flaws, .int g_size, .int g_fewest])), (a_flaws, .inl ((zG Z).2.1 1, 70, .inl g_flaws))] (X1_leaveOut_J62 again x1 x2 x3 x4 g_fewest) := by
    intro again hagain x1 x2 x3 x4 g_fewest
    unfold X1_leaveOut_J62
    refine rn_iinc hX dX1_leaveOut_62 4 rfl ic_1 (by decide) (L' := fun v1 => [(4, .int v1), (0, .ref a_this), (1, .int x1), (2, .int x2), (3, .int x3)]) (fun _ => rfl) 65 rfl (fun v1 => ?_)
    refine rn_goto hX dX1_leaveOut_65 33 (by decide) ?_
    refine rn_sub [1, 2, 3, 4, 0] rfl ?_
    exact hagain x1 x2 x3 v1 g_fewest
  have hB33 : ∀ (again : Int32 → Int32 → Int32 → Int32 → Int32 → Option (Int32)) (hagain : ∀ (x1 : Int32) (x2 : Int32) (x3 : Int32) (x4 : Int32) (g_fewest : Int32), Rn Z 5 (Option.map enc) 0 0 33 [(0, .ref a_this), (1, .int x1), (2, .int x2), (3, .int x3), (4, .int x4)] [] [(a_this, .inr (1, [.int g_badThrees, .int g_badFours, .int g_flatThrees, .int g_toldThrees, .ref a_flaws, .int g_size, .int g_fewest])), (a_flaws, .inl ((zG Z).2.1 1, 70, .inl g_flaws))] (again x1 x2 x3 x4 g_fewest)) (x1 : Int32) (x2 : Int32) (x3 : Int32) (x4 : Int32) (g_fewest : Int32), Rn Z 5 (Option.map enc) 0 0 33 [(0, .ref a_this), (1, .int x1), (2, .int x2), (3, .int x3), (4, .int x4)] [] [(a_this, .inr (1, [.int g_badThrees, .int g_badFours, .int g_flatThrees, .int g_toldThrees, .ref a_flaws, .int g_size, .int g_fewest])), (a_flaws, .inl ((zG Z).2.1 1, 70, .inl g_flaws))] (X1_leaveOut_B33 (X1_leaveOut rd) g_size g_flaws again x1 x2 x3 x4 g_fewest) := by
    intro again hagain x1 x2 x3 x4 g_fewest
    unfold X1_leaveOut_B33
    refine rn_iload hX dX1_leaveOut_33 4 rfl 35 rfl ?_
    refine rn_bipush hX dX1_leaveOut_35 37 rfl bp_21 ?_
    refine rn_icmp_ge hX dX1_leaveOut_37 68 (by decide) 40 rfl ?_ ?_
    · exact rn_vret hX hr (by rw [henc]; rfl) dX1_leaveOut_68
    refine rn_iload_n hX dX1_leaveOut_40 3 rfl 41 rfl ?_
    refine rn_iload hX dX1_leaveOut_41 4 rfl 43 rfl ?_
    refine rn_callSN0 hX (goodK mcC wd_684) rfl (host := "OnlyFar") hn_X1_67 (hX.wd (mcC _ wd_70)) (hX.wd (mcC _ wd_683)) hdS_X10_hasBit rfl rfl ⟨by simp only [rmX1_leaveOut, rmX10_hasBit]; omega, by simp only [rmX1_leaveOut, rmX10_hasBit]; omega⟩ (c_X10_hasBit (zl Z) (zG Z) x3 x4 rfl) rfl [] rfl rfl rfl (Nat.le_of_ble_eq_true rfl) dX1_leaveOut_43 46 rfl (S' := [.int (X10_hasBit x3 x4)]) rfl ⟨Nat.zero_le _, Nat.zero_le _⟩ ?_
    refine rn_if_eq hX dX1_leaveOut_46 62 (by decide) 49 rfl ?_ ?_
    · exact (hJ62 _ hagain) x1 x2 x3 x4 g_fewest
    refine rn_aload_n hX dX1_leaveOut_49 0 rfl 50 rfl ?_
    refine rn_iload_n hX dX1_leaveOut_50 1 rfl 51 rfl ?_
    refine rn_iconst hX dX1_leaveOut_51 52 rfl ic_1 ?_
    refine rn_iload hX dX1_leaveOut_52 4 rfl 54 rfl ?_
    refine rn_ishl hX dX1_leaveOut_54 55 rfl ?_
    refine rn_ior hX dX1_leaveOut_55 56 rfl ?_
    refine rn_iload_n hX dX1_leaveOut_56 2 rfl 57 rfl ?_
    refine rn_iconst hX dX1_leaveOut_57 58 rfl ic_1 ?_
    refine rn_iadd hX dX1_leaveOut_58 59 rfl ?_
    refine rn_bind (fun u2 hu2 => ?_)
    refine rn_callV hX (gV mcC wd_664 wd_666 wd_12 wd_77 wd_667) rfl hdV_X1_leaveOut rfl rfl ⟨by simp only [rmX1_leaveOut]; omega, by simp only [rmX1_leaveOut]; omega⟩ (ihr a_this a_flaws g_badThrees g_badFours g_flatThrees g_toldThrees g_size g_fewest g_flaws (x1 ||| ((1 : Int32) <<< (x4 &&& 31))) (x2 + (1 : Int32)) hu2) rfl [0, 1] rfl rfl rfl (ci := 1) rfl rfl rfl (Nat.le_of_ble_eq_true rfl) dX1_leaveOut_59 62 rfl (wn := [(a_this, .inr (1, [.int g_badThrees, .int g_badFours, .int g_flatThrees, .int g_toldThrees, .ref a_flaws, .int g_size, .int u2])), (a_flaws, .inl ((zG Z).2.1 1, 70, .inl g_flaws))]) rfl (S' := []) rfl ⟨Nat.zero_le _, Nat.zero_le _⟩ ?_
    exact (hJ62 _ hagain) x1 x2 x3 x4 u2
  have hL33 : ∀ (n : Nat) (x1 : Int32) (x2 : Int32) (x3 : Int32) (x4 : Int32) (g_fewest : Int32), Rn Z 5 (Option.map enc) 0 0 33 [(0, .ref a_this), (1, .int x1), (2, .int x2), (3, .int x3), (4, .int x4)] [] [(a_this, .inr (1, [.int g_badThrees, .int g_badFours, .int g_flatThrees, .int g_toldThrees, .ref a_flaws, .int g_size, .int g_fewest])), (a_flaws, .inl ((zG Z).2.1 1, 70, .inl g_flaws))] (X1_leaveOut_L33 (X1_leaveOut rd) g_size g_flaws n x1 x2 x3 x4 g_fewest) := by
    intro n
    induction n with
    | zero => intros; exact rn_none
    | succ n ih => exact hB33 _ ih
  show Rn Z 5 (Option.map enc) 0 0 0 _ _ _ (X1_leaveOut_R (X1_leaveOut rd) x1 x2 g_fewest g_size g_flaws)
  unfold X1_leaveOut_R
  refine rn_aload_n hX dX1_leaveOut_0 0 rfl 1 rfl ?_
  refine rn_iload_n hX dX1_leaveOut_1 1 rfl 2 rfl ?_
  refine rn_bind (fun u3 hu3 => ?_)
  refine rn_callV0 hX (gV mcC wd_668 wd_670 wd_13 wd_77 wd_671) rfl hdV_X1_firstFlawWithout rfl rfl ⟨by simp only [rmX1_leaveOut, rmX1_firstFlawWithout]; omega, by simp only [rmX1_leaveOut, rmX1_firstFlawWithout]; omega⟩ (c_X1_firstFlawWithout (zl Z) (zG Z) a_this a_flaws g_badThrees g_badFours g_flatThrees g_toldThrees g_size g_fewest g_flaws x1 hu3) rfl [0, 1] rfl rfl (ci := 1) rfl rfl rfl (Nat.le_of_ble_eq_true rfl) dX1_leaveOut_2 5 rfl (S' := [.int u3]) rfl ⟨Nat.zero_le _, Nat.zero_le _⟩ ?_
  refine rn_istore_n hX dX1_leaveOut_5 3 rfl (by decide) (L' := [(3, .int u3), (0, .ref a_this), (1, .int x1), (2, .int x2)]) rfl 6 rfl ?_
  refine rn_iload_n hX dX1_leaveOut_6 0 rfl 7 rfl ?_
  refine rn_if_ne hX dX1_leaveOut_7 24 (by decide) 10 rfl ?_ ?_
  · refine rn_iload_n hX dX1_leaveOut_24 3 rfl 25 rfl ?_
    refine rn_iconst hX dX1_leaveOut_25 26 rfl ic_3 ?_
    refine rn_icmp_lt hX dX1_leaveOut_26 30 (by decide) 29 rfl ?_ ?_
    · refine rn_iconst hX dX1_leaveOut_30 31 rfl ic_0 ?_
      refine rn_istore hX dX1_leaveOut_31 (by decide) (L' := [(4, .int (0 : Int32)), (3, .int u3), (0, .ref a_this), (1, .int x1), (2, .int x2)]) rfl 33 rfl ?_
      refine rn_sub [2, 3, 4, 1, 0] rfl ?_
      exact (hL33  1000) x1 x2 u3 (0 : Int32) g_fewest
    exact rn_vret hX hr (by rw [henc]; rfl) dX1_leaveOut_29
  refine rn_aload_n hX dX1_leaveOut_10 1 rfl 11 rfl ?_
  refine rn_iload_n hX dX1_leaveOut_11 2 rfl 12 rfl ?_
  refine rn_callV0 hX (gV mcC wd_672 wd_674 wd_14 wd_77 wd_675) rfl hdV_X1_isBetter rfl rfl ⟨by simp only [rmX1_leaveOut, rmX1_isBetter]; omega, by simp only [rmX1_leaveOut, rmX1_isBetter]; omega⟩ (c_X1_isBetter (zl Z) (zG Z) a_this a_flaws g_badThrees g_badFours g_flatThrees g_toldThrees g_size g_fewest x1 rfl) rfl [0] rfl rfl (ci := 1) rfl rfl rfl (Nat.le_of_ble_eq_true rfl) dX1_leaveOut_12 15 rfl (S' := [.int (X1_isBetter x1 g_fewest)]) rfl ⟨Nat.zero_le _, Nat.zero_le _⟩ ?_
  refine rn_if_eq hX dX1_leaveOut_15 23 (by decide) 18 rfl ?_ ?_
  · exact rn_vret hX hr (by rw [henc]; rfl) dX1_leaveOut_23
  refine rn_aload_n hX dX1_leaveOut_18 1 rfl 19 rfl ?_
  refine rn_iload_n hX dX1_leaveOut_19 2 rfl 20 rfl ?_
  refine rn_put hX inX1 tyX1_ok nmX1 0 rfl rfl 6 (by decide) fl79 rfl rfl rfl rfl (Nat.le_of_ble_eq_true rfl) dX1_leaveOut_20 23 rfl (w1 := [(a_this, .inr (1, [.int g_badThrees, .int g_badFours, .int g_flatThrees, .int g_toldThrees, .ref a_flaws, .int g_size, .int x1])), (a_flaws, .inl ((zG Z).2.1 1, 70, .inl g_flaws))]) rfl ?_
  exact rn_vret hX hr (by rw [henc]; rfl) dX1_leaveOut_23
abbrev rmX1_fewestFalse : Room := { frames := 7, cells := 0, slots := 0, locals := 162 }
theorem hdV_X1_fewestFalse : yX1_fewestFalse.cls = RX1 ∧ yX1_fewestFalse.cls ≠ "java/lang/invoke/MethodHandle" ∧ yX1_fewestFalse.cls ≠ "java/lang/invoke/VarHandle" ∧ (parseMethodDescriptor yX1_fewestFalse.desc).map (fun d => d.parameters.length) = some 0 := by decide +kernel
set_option maxHeartbeats 4000000 in
set_option maxRecDepth 100000 in
theorem c_X1_fewestFalse (l : Launch) (G : GT) (a_this a_flaws : Nat) (g_badThrees : Int32) (g_badFours : Int32) (g_flatThrees : Int32) (g_toldThrees : Int32) (g_size : Int32) (g_fewest : Int32) (g_flaws : (Nat → Int32)) {u : Int32 × Int32} (hu : X1_fewestFalse g_fewest g_size g_flaws = some u) : Ctr l G yX1_fewestFalse wsX1_fewestFalse rmX1_fewestFalse [.ref a_this] [(a_this, .inr (1, [.int g_badThrees, .int g_badFours, .int g_flatThrees, .int g_toldThrees, .ref a_flaws, .int g_size, .int g_fewest])), (a_flaws, .inl (G.2.1 1, 70, .inl g_flaws))] (some (.int u.1)) [(a_this, .inr (1, [.int g_badThrees, .int g_badFours, .int g_flatThrees, .int g_toldThrees, .ref a_flaws, .int g_size, .int u.2])), (a_flaws, .inl (G.2.1 1, 70, .inl g_flaws))] := by
  obtain ⟨enc, henc⟩ : ∃ enc : (Int32 × Int32) → Option Value × va_W, enc = fun u => (((some (.int u.1)) : Option Value), ([(a_this, .inr (1, [.int g_badThrees, .int g_badFours, .int g_flatThrees, .int g_toldThrees, .ref a_flaws, .int g_size, .int u.2])), (a_flaws, .inl (G.2.1 1, 70, .inl g_flaws))] : va_W)) := ⟨_, rfl⟩
  refine ctr_of (cc := cX1_fewestFalse) (own := RX1) (E := Option.map enc) (o := X1_fewestFalse g_fewest g_size g_flaws) (by decide) rfl rfl (L := [(0, .ref a_this)]) rfl (Nat.le_of_ble_eq_true rfl) (by rw [hu, henc]; rfl) ?_
  intro Z hX hl hG hr
  subst hl; subst hG
  have fl79 : (Cond.fieldLink RX1 79 "OnlyFar$Flaws" "fewest" "I").before (za Z) (zs Z) = true := hX.wd (mcC _ wd_254)
  have inX1 : ∀ w ∈ u_ws RX1 TX1 7, w ∈ wsX1_fewestFalse := fun w h => mcC w (inC_X1 w h)
  unfold X1_fewestFalse
  refine rn_aload_n hX dX1_fewestFalse_0 0 rfl 1 rfl ?_
  refine rn_iconst hX dX1_fewestFalse_1 2 rfl ic_m1 ?_
  refine rn_put hX inX1 tyX1_ok nmX1 0 rfl rfl 6 (by decide) fl79 rfl rfl rfl rfl (Nat.le_of_ble_eq_true rfl) dX1_fewestFalse_2 5 rfl (w1 := [(a_this, .inr (1, [.int g_badThrees, .int g_badFours, .int g_flatThrees, .int g_toldThrees, .ref a_flaws, .int g_size, .int (-1 : Int32)])), (a_flaws, .inl ((zG Z).2.1 1, 70, .inl g_flaws))]) rfl ?_
  refine rn_aload_n hX dX1_fewestFalse_5 0 rfl 6 rfl ?_
  refine rn_iconst hX dX1_fewestFalse_6 7 rfl ic_0 ?_
  refine rn_iconst hX dX1_fewestFalse_7 8 rfl ic_0 ?_
  refine rn_bind (fun u1 hu1 => ?_)
  refine rn_callV hX (gV mcC wd_664 wd_666 wd_12 wd_77 wd_667) rfl hdV_X1_leaveOut rfl rfl ⟨Nat.le_of_ble_eq_true rfl, Nat.le_of_ble_eq_true rfl⟩ (c_X1_leaveOut (zl Z) (zG Z) 4 a_this a_flaws g_badThrees g_badFours g_flatThrees g_toldThrees g_size (-1 : Int32) g_flaws (0 : Int32) (0 : Int32) hu1) rfl [0, 1] rfl rfl rfl (ci := 1) rfl rfl rfl (Nat.le_of_ble_eq_true rfl) dX1_fewestFalse_8 11 rfl (wn := [(a_this, .inr (1, [.int g_badThrees, .int g_badFours, .int g_flatThrees, .int g_toldThrees, .ref a_flaws, .int g_size, .int u1])), (a_flaws, .inl ((zG Z).2.1 1, 70, .inl g_flaws))]) rfl (S' := []) rfl ⟨Nat.zero_le _, Nat.zero_le _⟩ ?_
  refine rn_aload_n hX dX1_fewestFalse_11 0 rfl 12 rfl ?_
  refine rn_get hX inX1 0 rfl rfl 6 (by decide) fl79 rfl rfl dX1_fewestFalse_12 15 rfl ?_
  exact rn_iret hX hr (by rw [henc]; rfl) dX1_fewestFalse_15
abbrev rmX3_fits : Room := { frames := 1, cells := 0, slots := 0, locals := 22 }
theorem hdV_X3_fits : yX3_fits.cls = RX3 ∧ yX3_fits.cls ≠ "java/lang/invoke/MethodHandle" ∧ yX3_fits.cls ≠ "java/lang/invoke/VarHandle" ∧ (parseMethodDescriptor yX3_fits.desc).map (fun d => d.parameters.length) = some 2 := by decide +kernel
set_option maxHeartbeats 4000000 in
set_option maxRecDepth 100000 in
theorem c_X3_fits (l : Launch) (G : GT) (a_this a_from a_from_squares a_to a_to_squares a_trial a_first : Nat) (g_found : Int32) (g_used : Int32) (g_firstOnly : Int32) (g_from_places : Int32) (g_from_squares : (Nat → Int32)) (g_to_places : Int32) (g_to_squares : (Nat → Int32)) (g_trial : (Nat → Int32)) (x1 : Int32) (x2 : Int32) {u : Int32} (hu : X3_fits x1 x2 g_from_squares g_to_squares g_trial = some u) : Ctr l G yX3_fits wsX3_fits rmX3_fits [.ref a_this, .int x1, .int x2] [(a_this, .inr (3, [.int g_found, .ref a_from, .ref a_to, .ref a_first, .ref a_trial, .int g_used, .int g_firstOnly])), (a_from, .inr (8, [.int g_from_places, .ref a_from_squares])), (a_from_squares, .inl (G.2.1 1, 49, .inl g_from_squares)), (a_to, .inr (8, [.int g_to_places, .ref a_to_squares])), (a_to_squares, .inl (G.2.1 1, 49, .inl g_to_squares)), (a_trial, .inl (G.2.1 1, 7, .inl g_trial))] (some (.int u)) [(a_this, .inr (3, [.int g_found, .ref a_from, .ref a_to, .ref a_first, .ref a_trial, .int g_used, .int g_firstOnly])), (a_from, .inr (8, [.int g_from_places, .ref a_from_squares])), (a_from_squares, .inl (G.2.1 1, 49, .inl g_from_squares)), (a_to, .inr (8, [.int g_to_places, .ref a_to_squares])), (a_to_squares, .inl (G.2.1 1, 49, .inl g_to_squares)), (a_trial, .inl (G.2.1 1, 7, .inl g_trial))] := by
  obtain ⟨enc, henc⟩ : ∃ enc : (Int32) → Option Value × va_W, enc = fun u => (((some (.int u)) : Option Value), ([(a_this, .inr (3, [.int g_found, .ref a_from, .ref a_to, .ref a_first, .ref a_trial, .int g_used, .int g_firstOnly])), (a_from, .inr (8, [.int g_from_places, .ref a_from_squares])), (a_from_squares, .inl (G.2.1 1, 49, .inl g_from_squares)), (a_to, .inr (8, [.int g_to_places, .ref a_to_squares])), (a_to_squares, .inl (G.2.1 1, 49, .inl g_to_squares)), (a_trial, .inl (G.2.1 1, 7, .inl g_trial))] : va_W)) := ⟨_, rfl⟩
  refine ctr_of (cc := cX3_fits) (own := RX3) (E := Option.map enc) (o := X3_fits x1 x2 g_from_squares g_to_squares g_trial) (by decide) rfl rfl (L := [(0, .ref a_this), (1, .int x1), (2, .int x2)]) rfl (Nat.le_of_ble_eq_true rfl) (by rw [hu, henc]; rfl) ?_
  intro Z hX hl hG hr
  subst hl; subst hG
  have fl15 : (Cond.fieldLink RX3 15 "OnlyFar$Naming" "to" "LOnlyFar$Table;").before (za Z) (zs Z) = true := hX.wd (mcC _ wd_337)
  have fl22 : (Cond.fieldLink RX3 22 "OnlyFar$Naming" "trial" "[I").before (za Z) (zs Z) = true := hX.wd (mcC _ wd_339)
  have fl9 : (Cond.fieldLink RX3 9 "OnlyFar$Naming" "from" "LOnlyFar$Table;").before (za Z) (zs Z) = true := hX.wd (mcC _ wd_336)
  have inX3 : ∀ w ∈ u_ws RX3 TX3 7, w ∈ wsX3_fits := fun w h => mcC w (inC_X3 w h)
  have hB2 : ∀ (again : Int32 → Int32 → Int32 → Option (Int32)) (hagain : ∀ (x1 : Int32) (x2 : Int32) (x3 : Int32), Rn Z 4 (Option.map enc) 0 0 2 [(0, .ref a_this), (1, .int x1), (2, .int x2), (3, .int x3)] [] [(a_this, .inr (3, [.int g_found, .ref a_from, .ref a_to, .ref a_first, .ref a_trial, .int g_used, .int g_firstOnly])), (a_from, .inr (8, [.int g_from_places, .ref a_from_squares])), (a_from_squares, .inl ((zG Z).2.1 1, 49, .inl g_from_squares)), (a_to, .inr (8, [.int g_to_places, .ref a_to_squares])), (a_to_squares, .inl ((zG Z).2.1 1, 49, .inl g_to_squares)), (a_trial, .inl ((zG Z).2.1 1, 7, .inl g_trial))] (again x1 x2 x3)) (x1 : Int32) (x2 : Int32) (x3 : Int32), Rn Z 4 (Option.map enc) 0 0 2 [(0, .ref a_this), (1, .int x1), (2, .int x2), (3, .int x3)] [] [(a_this, .inr (3, [.int g_found, .ref a_from, .ref a_to, .ref a_first, .ref a_trial, .int g_used, .int g_firstOnly])), (a_from, .inr (8, [.int g_from_places, .ref a_from_squares])), (a_from_squares, .inl ((zG Z).2.1 1, 49, .inl g_from_squares)), (a_to, .inr (8, [.int g_to_places, .ref a_to_squares])), (a_to_squares, .inl ((zG Z).2.1 1, 49, .inl g_to_squares)), (a_trial, .inl ((zG Z).2.1 1, 7, .inl g_trial))] (X3_fits_B2 g_from_squares g_to_squares g_trial again x1 x2 x3) := by
    intro again hagain x1 x2 x3
    unfold X3_fits_B2
    refine rn_iload_n hX dX3_fits_2 3 rfl 3 rfl ?_
    refine rn_iload_n hX dX3_fits_3 1 rfl 4 rfl ?_
    refine rn_icmp_ge hX dX3_fits_4 47 (by decide) 7 rfl ?_ ?_
    · refine rn_iconst hX dX3_fits_47 48 rfl ic_1 ?_
      exact rn_zret hX rfl hr (by rw [henc]; rfl) dX3_fits_48
    refine rn_iload_n hX dX3_fits_7 3 rfl 8 rfl ?_
    refine rn_bipush hX dX3_fits_8 10 rfl bp_7 ?_
    refine rn_icmp_ge hX dX3_fits_10 47 (by decide) 13 rfl ?_ ?_
    · refine rn_iconst hX dX3_fits_47 48 rfl ic_1 ?_
      exact rn_zret hX rfl hr (by rw [henc]; rfl) dX3_fits_48
    refine rn_aload_n hX dX3_fits_13 0 rfl 14 rfl ?_
    refine rn_get hX inX3 0 rfl rfl 1 (by decide) fl9 rfl rfl dX3_fits_14 17 rfl ?_
    refine rn_iload_n hX dX3_fits_17 1 rfl 18 rfl ?_
    refine rn_iload_n hX dX3_fits_18 3 rfl 19 rfl ?_
    refine rn_bind (fun u1 hu1 => ?_)
    refine rn_callV0 hX (gV mcC wd_879 wd_512 wd_513 wd_73 wd_514) rfl hdV_X8_square rfl rfl ⟨Nat.le_of_ble_eq_true rfl, Nat.le_of_ble_eq_true rfl⟩ (c_X8_square (zl Z) (zG Z) a_from a_from_squares g_from_places g_from_squares x1 x3 hu1) rfl [1, 2] rfl rfl (ci := 8) rfl rfl rfl (Nat.le_of_ble_eq_true rfl) dX3_fits_19 22 rfl (S' := [.int u1]) rfl ⟨Nat.zero_le _, Nat.zero_le _⟩ ?_
    refine rn_aload_n hX dX3_fits_22 0 rfl 23 rfl ?_
    refine rn_get hX inX3 0 rfl rfl 2 (by decide) fl15 rfl rfl dX3_fits_23 26 rfl ?_
    refine rn_iload_n hX dX3_fits_26 2 rfl 27 rfl ?_
    refine rn_aload_n hX dX3_fits_27 0 rfl 28 rfl ?_
    refine rn_get hX inX3 0 rfl rfl 4 (by decide) fl22 rfl rfl dX3_fits_28 31 rfl ?_
    refine rn_iload_n hX dX3_fits_31 3 rfl 32 rfl ?_
    refine rn_gd (fun hi2 => ?_)
    refine rn_iald hX 5 rfl hi2 dX3_fits_32 33 rfl ?_
    refine rn_bind (fun u3 hu3 => ?_)
    refine rn_callV0 hX (gV mcC wd_879 wd_512 wd_513 wd_73 wd_514) rfl hdV_X8_square rfl rfl ⟨Nat.le_of_ble_eq_true rfl, Nat.le_of_ble_eq_true rfl⟩ (c_X8_square (zl Z) (zG Z) a_to a_to_squares g_to_places g_to_squares x2 (g_trial x3.toNatClampNeg) hu3) rfl [3, 4] rfl rfl (ci := 8) rfl rfl rfl (Nat.le_of_ble_eq_true rfl) dX3_fits_33 36 rfl (S' := [.int u3, .int u1]) rfl ⟨Nat.zero_le _, Nat.zero_le _⟩ ?_
    refine rn_icmp_eq hX dX3_fits_36 41 (by decide) 39 rfl ?_ ?_
    · refine rn_iinc hX dX3_fits_41 3 rfl ic_1 (by decide) (L' := fun v4 => [(3, .int v4), (0, .ref a_this), (1, .int x1), (2, .int x2)]) (fun _ => rfl) 44 rfl (fun v4 => ?_)
      refine rn_goto hX dX3_fits_44 2 (by decide) ?_
      refine rn_sub [1, 2, 3, 0] rfl ?_
      exact hagain x1 x2 v4
    refine rn_iconst hX dX3_fits_39 40 rfl ic_0 ?_
    exact rn_zret hX rfl hr (by rw [henc]; rfl) dX3_fits_40
  have hL2 : ∀ (n : Nat) (x1 : Int32) (x2 : Int32) (x3 : Int32), Rn Z 4 (Option.map enc) 0 0 2 [(0, .ref a_this), (1, .int x1), (2, .int x2), (3, .int x3)] [] [(a_this, .inr (3, [.int g_found, .ref a_from, .ref a_to, .ref a_first, .ref a_trial, .int g_used, .int g_firstOnly])), (a_from, .inr (8, [.int g_from_places, .ref a_from_squares])), (a_from_squares, .inl ((zG Z).2.1 1, 49, .inl g_from_squares)), (a_to, .inr (8, [.int g_to_places, .ref a_to_squares])), (a_to_squares, .inl ((zG Z).2.1 1, 49, .inl g_to_squares)), (a_trial, .inl ((zG Z).2.1 1, 7, .inl g_trial))] (X3_fits_L2 g_from_squares g_to_squares g_trial n x1 x2 x3) := by
    intro n
    induction n with
    | zero => intros; exact rn_none
    | succ n ih => exact hB2 _ ih
  unfold X3_fits
  refine rn_iconst hX dX3_fits_0 1 rfl ic_0 ?_
  refine rn_istore_n hX dX3_fits_1 3 rfl (by decide) (L' := [(3, .int (0 : Int32)), (0, .ref a_this), (1, .int x1), (2, .int x2)]) rfl 2 rfl ?_
  refine rn_sub [1, 2, 3, 0] rfl ?_
  exact (hL2  1000) x1 x2 (0 : Int32)
