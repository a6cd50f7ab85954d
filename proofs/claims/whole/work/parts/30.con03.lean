abbrev rmX3_nameFrom (n : Nat) : Room := { frames := 2 + n, cells := 0, slots := 0, locals := 60 + n * 22 }
theorem hdV_X3_nameFrom : yX3_nameFrom.cls = RX3 ∧ yX3_nameFrom.cls ≠ "java/lang/invoke/MethodHandle" ∧ yX3_nameFrom.cls ≠ "java/lang/invoke/VarHandle" ∧ (parseMethodDescriptor yX3_nameFrom.desc).map (fun d => d.parameters.length) = some 1 := by decide +kernel
set_option maxHeartbeats 4000000 in
set_option maxRecDepth 100000 in
theorem c_X3_nameFrom (l : Launch) (G : GT) : ∀ (rd : Nat) (a_this a_first a_from a_from_squares a_to a_to_squares a_trial : Nat) (g_found : Int32) (g_used : Int32) (g_firstOnly : Int32) (g_first : (Nat → Int32)) (g_from_places : Int32) (g_from_squares : (Nat → Int32)) (g_to_places : Int32) (g_to_squares : (Nat → Int32)) (g_trial : (Nat → Int32)) (x1 : Int32) {u : Int32 × Int32 × (Nat → Int32) × (Nat → Int32)} (hu : X3_nameFrom rd x1 g_firstOnly g_found g_used g_first g_from_places g_from_squares g_to_places g_to_squares g_trial = some u), Ctr l G yX3_nameFrom wsX3_nameFrom (rmX3_nameFrom rd) [.ref a_this, .int x1] [(a_this, .inr (3, [.int g_found, .ref a_from, .ref a_to, .ref a_first, .ref a_trial, .int g_used, .int g_firstOnly])), (a_first, .inl (G.2.1 1, 7, .inl g_first)), (a_from, .inr (8, [.int g_from_places, .ref a_from_squares])), (a_from_squares, .inl (G.2.1 1, 49, .inl g_from_squares)), (a_to, .inr (8, [.int g_to_places, .ref a_to_squares])), (a_to_squares, .inl (G.2.1 1, 49, .inl g_to_squares)), (a_trial, .inl (G.2.1 1, 7, .inl g_trial))] none [(a_this, .inr (3, [.int u.1, .ref a_from, .ref a_to, .ref a_first, .ref a_trial, .int u.2.1, .int g_firstOnly])), (a_first, .inl (G.2.1 1, 7, .inl u.2.2.1)), (a_from, .inr (8, [.int g_from_places, .ref a_from_squares])), (a_from_squares, .inl (G.2.1 1, 49, .inl g_from_squares)), (a_to, .inr (8, [.int g_to_places, .ref a_to_squares])), (a_to_squares, .inl (G.2.1 1, 49, .inl g_to_squares)), (a_trial, .inl (G.2.1 1, 7, .inl u.2.2.2))] := by
  intro rd
  induction rd with
  | zero => intro a_this a_first a_from a_from_squares a_to a_to_squares a_trial g_found g_used g_firstOnly g_first g_from_places g_from_squares g_to_places g_to_squares g_trial x1 u hu; exact nomatch (show none = some u from hu)
  | succ rd ihr =>
  intro a_this a_first a_from a_from_squares a_to a_to_squares a_trial g_found g_used g_firstOnly g_first g_from_places g_from_squares g_to_places g_to_squares g_trial x1 u hu
  obtain ⟨enc, henc⟩ : ∃ enc : (Int32 × Int32 × (Nat → Int32) × (Nat → Int32)) → Option Value × va_W, enc = fun u => ((none : Option Value), ([(a_this, .inr (3, [.int u.1, .ref a_from, .ref a_to, .ref a_first, .ref a_trial, .int u.2.1, .int g_firstOnly])), (a_first, .inl (G.2.1 1, 7, .inl u.2.2.1)), (a_from, .inr (8, [.int g_from_places, .ref a_from_squares])), (a_from_squares, .inl (G.2.1 1, 49, .inl g_from_squares)), (a_to, .inr (8, [.int g_to_places, .ref a_to_squares])), (a_to_squares, .inl (G.2.1 1, 49, .inl g_to_squares)), (a_trial, .inl (G.2.1 1, 7, .inl u.2.2.2))] : va_W)) := ⟨_, rfl⟩
  refine ctr_of (cc := cX3_nameFrom) (own := RX3) (E := Option.map enc) (o := X3_nameFrom (rd + 1) x1 g_firstOnly g_found g_used g_first g_from_places g_from_squares g_to_places g_to_squares g_trial) (by decide) rfl rfl (L := [(0, .ref a_this), (1, .int x1)]) rfl (Nat.le_of_ble_eq_true rfl) (by rw [hu, henc]; rfl) ?_
  intro Z hX hl hG hr
  subst hl; subst hG
  have copyN : (Cond.native arraycopyName).before (za Z) (zs Z) = true := hX.wd (mcC _ wd_528)
  have copyS : (Cond.static arraycopyName).before (za Z) (zs Z) = true := hX.wd (mcC _ wd_527)
  have copyI : (Cond.initialized "java/lang/System").before (za Z) (zs Z) = true := hX.wd (mcC _ wd_88)
  have fl15 : (Cond.fieldLink RX3 15 "OnlyFar$Naming" "to" "LOnlyFar$Table;").before (za Z) (zs Z) = true := hX.wd (mcC _ wd_337)
  have fl18 : (Cond.fieldLink RX3 18 "OnlyFar$Naming" "first" "[I").before (za Z) (zs Z) = true := hX.wd (mcC _ wd_338)
  have fl22 : (Cond.fieldLink RX3 22 "OnlyFar$Naming" "trial" "[I").before (za Z) (zs Z) = true := hX.wd (mcC _ wd_339)
  have fl25 : (Cond.fieldLink RX3 25 "OnlyFar$Naming" "firstOnly" "Z").before (za Z) (zs Z) = true := hX.wd (mcC _ wd_341)
  have fl29 : (Cond.fieldLink RX3 29 "OnlyFar$Naming" "found" "I").before (za Z) (zs Z) = true := hX.wd (mcC _ wd_334)
  have fl33 : (Cond.fieldLink RX3 33 "OnlyFar$Naming" "used" "I").before (za Z) (zs Z) = true := hX.wd (mcC _ wd_340)
  have fl36 : (Cond.fieldLink RX3 36 "OnlyFar$Table" "places" "I").before (za Z) (zs Z) = true := hX.wd (mcC _ wd_129)
  have fl9 : (Cond.fieldLink RX3 9 "OnlyFar$Naming" "from" "LOnlyFar$Table;").before (za Z) (zs Z) = true := hX.wd (mcC _ wd_336)
  have ml45 : (Cond.methodLink RX3 45 arraycopyName).before (za Z) (zs Z) = true := hX.wd (mcC _ wd_873)
  have inX3 : ∀ w ∈ u_ws RX3 TX3 7, w ∈ wsX3_nameFrom := fun w h => mcC w (inC_X3 w h)
  have inX8 : ∀ w ∈ u_ws RX8 TX8 2, w ∈ wsX3_nameFrom := fun w h => mcC w (inC_X8 w h)
  have hJ138 : ∀ (again : Int32 → Int32 → Int32 → Int32 → (Nat → Int32) → (Nat → Int32) → Option (Int32 × Int32 × (Nat → Int32) × (Nat → Int32))) (hagain : ∀ (x1 : Int32) (x2 : Int32) (g_found : Int32) (g_used : Int32) (g_first : (Nat → Int32)) (g_trial : (Nat → Int32)), Rn Z 3 (Option.map enc) 0 0 52 [(0, .ref a_this), (1, .int x1), (2, .int x2)] [] [(a_this, .inr (3, [.int g_found, .ref a_from, .ref a_to, .ref a_first, .ref a_trial, .int g_used, .int g_firstOnly])), (a_first, .inl ((zG Z).2.1 1, 7, .inl g_first)), (a_from, .inr (8, [.int g_from_places, .ref a_from_squares])), (a_from_squares, .inl ((zG Z).2.1 1, 49, .inl g_from_squares)), (a_to, .inr (8, [.int g_to_places, .ref a_to_squares])), (a_to_squares, .inl ((zG Z).2.1 1, 49, .inl g_to_squares)), (a_trial, .inl ((zG Z).2.1 1, 7, .inl g_trial))] (again x1 x2 g_found g_used g_first g_trial)) (x1 : Int32) (x2 : Int32) (g_found : Int32) (g_used : Int32) (g_first : (Nat → Int32)) (g_trial : (Nat → Int32)), Rn Z 3 (Option.map enc) 0 0 138 [(0, .ref a_this), (1, .int x1), (2, .int x2)] [] [(a_this, .inr (3, [.int g_found, .ref a_from, .ref a_to, .ref a_first, .ref a_trial, .int g_used, .int g_firstOnly])), (a_first, .inl ((zG Z).2.1 1, 7, .inl g_first)), (a_from, .inr (8, [.int g_from_places, .ref a_from_squares])), (a_from_squares, .inl ((zG Z).2.1 1, 49, .inl g_from_squares)), (a_to, .inr (8, [.int g_to_places, .ref a_to_squares])), (a_to_squares, .inl ((zG Z).2.1 1, 49, .inl g_to_squares)), (a_trial, .inl ((zG Z).2.1 1, 7, .inl g_trial))] (X3_nameFrom_J138 again x1 x2 g_found g_used g_first g_trial) := by
    intro again hagain x1 x2 g_found g_used g_first g_trial
    unfold X3_nameFrom_J138
    refine rn_iinc hX dX3_nameFrom_138 2 rfl ic_1 (by decide) (L' := fun v1 => [(2, .int v1), (0, .ref a_this), (1, .int x1)]) (fun _ => rfl) 141 rfl (fun v1 => ?_)
    refine rn_goto hX dX3_nameFrom_141 52 (by decide) ?_
    refine rn_sub [1, 2, 0] rfl ?_
    exact hagain x1 v1 g_found g_used g_first g_trial
  have hJ78 : ∀ (again : Int32 → Int32 → Int32 → Int32 → (Nat → Int32) → (Nat → Int32) → Option (Int32 × Int32 × (Nat → Int32) × (Nat → Int32))) (hagain : ∀ (x1 : Int32) (x2 : Int32) (g_found : Int32) (g_used : Int32) (g_first : (Nat → Int32)) (g_trial : (Nat → Int32)), Rn Z 3 (Option.map enc) 0 0 52 [(0, .ref a_this), (1, .int x1), (2, .int x2)] [] [(a_this, .inr (3, [.int g_found, .ref a_from, .ref a_to, .ref a_first, .ref a_trial, .int g_used, .int g_firstOnly])), (a_first, .inl ((zG Z).2.1 1, 7, .inl g_first)), (a_from, .inr (8, [.int g_from_places, .ref a_from_squares])), (a_from_squares, .inl ((zG Z).2.1 1, 49, .inl g_from_squares)), (a_to, .inr (8, [.int g_to_places, .ref a_to_squares])), (a_to_squares, .inl ((zG Z).2.1 1, 49, .inl g_to_squares)), (a_trial, .inl ((zG Z).2.1 1, 7, .inl g_trial))] (again x1 x2 g_found g_used g_first g_trial)) (x1 : Int32) (x2 : Int32) (g_found : Int32) (g_used : Int32) (g_first : (Nat → Int32)) (g_trial : (Nat → Int32)), Rn Z 3 (Option.map enc) 0 0 78 [(0, .ref a_this), (1, .int x1), (2, .int x2)] [] [(a_this, .inr (3, [.int g_found, .ref a_from, .ref a_to, .ref a_first, .ref a_trial, .int g_used, .int g_firstOnly])), (a_first, .inl ((zG Z).2.1 1, 7, .inl g_first)), (a_from, .inr (8, [.int g_from_places, .ref a_from_squares])), (a_from_squares, .inl ((zG Z).2.1 1, 49, .inl g_from_squares)), (a_to, .inr (8, [.int g_to_places, .ref a_to_squares])), (a_to_squares, .inl ((zG Z).2.1 1, 49, .inl g_to_squares)), (a_trial, .inl ((zG Z).2.1 1, 7, .inl g_trial))] (X3_nameFrom_J78 (X3_nameFrom rd) g_firstOnly g_from_places g_from_squares g_to_places g_to_squares again x1 x2 g_found g_used g_first g_trial) := by
    intro again hagain x1 x2 g_found g_used g_first g_trial
    unfold X3_nameFrom_J78
    refine rn_aload_n hX dX3_nameFrom_78 0 rfl 79 rfl ?_
    refine rn_get hX inX3 0 rfl rfl 5 (by decide) fl33 rfl rfl dX3_nameFrom_79 82 rfl ?_
    refine rn_iload_n hX dX3_nameFrom_82 2 rfl 83 rfl ?_
    refine rn_callSN0 hX (goodK mcC wd_684) rfl (host := "OnlyFar") hn_X3_51 (hX.wd (mcC _ wd_70)) (hX.wd (mcC _ wd_683)) hdS_X10_hasBit rfl rfl ⟨by simp only [rmX3_nameFrom, rmX10_hasBit]; omega, by simp only [rmX3_nameFrom, rmX10_hasBit]; omega⟩ (c_X10_hasBit (zl Z) (zG Z) g_used x2 rfl) rfl [] rfl rfl rfl (Nat.le_of_ble_eq_true rfl) dX3_nameFrom_83 86 rfl (S' := [.int (X10_hasBit g_used x2)]) rfl ⟨Nat.zero_le _, Nat.zero_le _⟩ ?_
    refine rn_if_ne hX dX3_nameFrom_86 138 (by decide) 89 rfl ?_ ?_
    · exact (hJ138 _ hagain) x1 x2 g_found g_used g_first g_trial
    refine rn_aload_n hX dX3_nameFrom_89 0 rfl 90 rfl ?_
    refine rn_iload_n hX dX3_nameFrom_90 1 rfl 91 rfl ?_
    refine rn_iload_n hX dX3_nameFrom_91 2 rfl 92 rfl ?_
    refine rn_bind (fun u2 hu2 => ?_)
    refine rn_callV0 hX (gV mcC wd_875 wd_877 wd_23 wd_80 wd_878) rfl hdV_X3_fits rfl rfl ⟨by simp only [rmX3_nameFrom, rmX3_fits]; omega, by simp only [rmX3_nameFrom, rmX3_fits]; omega⟩ (c_X3_fits (zl Z) (zG Z) a_this a_from a_from_squares a_to a_to_squares a_trial a_first g_found g_used g_firstOnly g_from_places g_from_squares g_to_places g_to_squares g_trial x1 x2 hu2) rfl [0, 2, 3, 4, 5, 6] rfl rfl (ci := 3) rfl rfl rfl (Nat.le_of_ble_eq_true rfl) dX3_nameFrom_92 95 rfl (S' := [.int u2]) rfl ⟨Nat.zero_le _, Nat.zero_le _⟩ ?_
    refine rn_if_eq hX dX3_nameFrom_95 138 (by decide) 98 rfl ?_ ?_
    · exact (hJ138 _ hagain) x1 x2 g_found g_used g_first g_trial
    refine rn_aload_n hX dX3_nameFrom_98 0 rfl 99 rfl ?_
    refine rn_get hX inX3 0 rfl rfl 4 (by decide) fl22 rfl rfl dX3_nameFrom_99 102 rfl ?_
    refine rn_iload_n hX dX3_nameFrom_102 1 rfl 103 rfl ?_
    refine rn_iload_n hX dX3_nameFrom_103 2 rfl 104 rfl ?_
    refine rn_gd (fun hi3 => ?_)
    refine rn_iast hX 6 rfl hi3 dX3_nameFrom_104 105 rfl (w1 := fun m4 => [(a_this, .inr (3, [.int g_found, .ref a_from, .ref a_to, .ref a_first, .ref a_trial, .int g_used, .int g_firstOnly])), (a_first, .inl ((zG Z).2.1 1, 7, .inl g_first)), (a_from, .inr (8, [.int g_from_places, .ref a_from_squares])), (a_from_squares, .inl ((zG Z).2.1 1, 49, .inl g_from_squares)), (a_to, .inr (8, [.int g_to_places, .ref a_to_squares])), (a_to_squares, .inl ((zG Z).2.1 1, 49, .inl g_to_squares)), (a_trial, .inl ((zG Z).2.1 1, 7, .inl m4))]) (fun _ => rfl) (fun m4 => ?_)
    refine rn_aload_n hX dX3_nameFrom_105 0 rfl 106 rfl ?_
    refine rn_dup hX dX3_nameFrom_106 107 rfl rfl ?_
    refine rn_get hX inX3 0 rfl rfl 5 (by decide) fl33 rfl rfl dX3_nameFrom_107 110 rfl ?_
    refine rn_iconst hX dX3_nameFrom_110 111 rfl ic_1 ?_
    refine rn_iload_n hX dX3_nameFrom_111 2 rfl 112 rfl ?_
    refine rn_ishl hX dX3_nameFrom_112 113 rfl ?_
    refine rn_ior hX dX3_nameFrom_113 114 rfl ?_
    refine rn_lati (fun v5 => ?_)
    refine rn_put hX inX3 tyX3_ok nmX3 0 rfl rfl 5 (by decide) fl33 rfl rfl rfl rfl (Nat.le_of_ble_eq_true rfl) dX3_nameFrom_114 117 rfl (w1 := [(a_this, .inr (3, [.int g_found, .ref a_from, .ref a_to, .ref a_first, .ref a_trial, .int v5, .int g_firstOnly])), (a_first, .inl ((zG Z).2.1 1, 7, .inl g_first)), (a_from, .inr (8, [.int g_from_places, .ref a_from_squares])), (a_from_squares, .inl ((zG Z).2.1 1, 49, .inl g_from_squares)), (a_to, .inr (8, [.int g_to_places, .ref a_to_squares])), (a_to_squares, .inl ((zG Z).2.1 1, 49, .inl g_to_squares)), (a_trial, .inl ((zG Z).2.1 1, 7, .inl m4))]) rfl ?_
    refine rn_aload_n hX dX3_nameFrom_117 0 rfl 118 rfl ?_
    refine rn_iload_n hX dX3_nameFrom_118 1 rfl 119 rfl ?_
    refine rn_iconst hX dX3_nameFrom_119 120 rfl ic_1 ?_
    refine rn_iadd hX dX3_nameFrom_120 121 rfl ?_
    refine rn_bind (fun u6 hu6 => ?_)
    refine rn_callV hX (gV mcC wd_869 wd_871 wd_22 wd_80 wd_872) rfl hdV_X3_nameFrom rfl rfl ⟨by simp only [rmX3_nameFrom]; omega, by simp only [rmX3_nameFrom]; omega⟩ (ihr a_this a_first a_from a_from_squares a_to a_to_squares a_trial g_found v5 g_firstOnly g_first g_from_places g_from_squares g_to_places g_to_squares m4 (x1 + (1 : Int32)) hu6) rfl [0, 1, 2, 3, 4, 5, 6] rfl rfl rfl (ci := 3) rfl rfl rfl (Nat.le_of_ble_eq_true rfl) dX3_nameFrom_121 124 rfl (wn := [(a_this, .inr (3, [.int u6.1, .ref a_from, .ref a_to, .ref a_first, .ref a_trial, .int u6.2.1, .int g_firstOnly])), (a_first, .inl ((zG Z).2.1 1, 7, .inl u6.2.2.1)), (a_from, .inr (8, [.int g_from_places, .ref a_from_squares])), (a_from_squares, .inl ((zG Z).2.1 1, 49, .inl g_from_squares)), (a_to, .inr (8, [.int g_to_places, .ref a_to_squares])), (a_to_squares, .inl ((zG Z).2.1 1, 49, .inl g_to_squares)), (a_trial, .inl ((zG Z).2.1 1, 7, .inl u6.2.2.2))]) rfl (S' := []) rfl ⟨Nat.zero_le _, Nat.zero_le _⟩ ?_
    refine rn_aload_n hX dX3_nameFrom_124 0 rfl 125 rfl ?_
    refine rn_dup hX dX3_nameFrom_125 126 rfl rfl ?_
    refine rn_get hX inX3 0 rfl rfl 5 (by decide) fl33 rfl rfl dX3_nameFrom_126 129 rfl ?_
    refine rn_iconst hX dX3_nameFrom_129 130 rfl ic_1 ?_
    refine rn_iload_n hX dX3_nameFrom_130 2 rfl 131 rfl ?_
    refine rn_ishl hX dX3_nameFrom_131 132 rfl ?_
    refine rn_iconst hX dX3_nameFrom_132 133 rfl ic_m1 ?_
    refine rn_ixor hX dX3_nameFrom_133 134 rfl ?_
    refine rn_iand hX dX3_nameFrom_134 135 rfl ?_
    refine rn_lati (fun v7 => ?_)
    refine rn_put hX inX3 tyX3_ok nmX3 0 rfl rfl 5 (by decide) fl33 rfl rfl rfl rfl (Nat.le_of_ble_eq_true rfl) dX3_nameFrom_135 138 rfl (w1 := [(a_this, .inr (3, [.int u6.1, .ref a_from, .ref a_to, .ref a_first, .ref a_trial, .int v7, .int g_firstOnly])), (a_first, .inl ((zG Z).2.1 1, 7, .inl u6.2.2.1)), (a_from, .inr (8, [.int g_from_places, .ref a_from_squares])), (a_from_squares, .inl ((zG Z).2.1 1, 49, .inl g_from_squares)), (a_to, .inr (8, [.int g_to_places, .ref a_to_squares])), (a_to_squares, .inl ((zG Z).2.1 1, 49, .inl g_to_squares)), (a_trial, .inl ((zG Z).2.1 1, 7, .inl u6.2.2.2))]) rfl ?_
    exact (hJ138 _ hagain) x1 x2 u6.1 v7 u6.2.2.1 u6.2.2.2
  have hB52 : ∀ (again : Int32 → Int32 → Int32 → Int32 → (Nat → Int32) → (Nat → Int32) → Option (Int32 × Int32 × (Nat → Int32) × (Nat → Int32))) (hagain : ∀ (x1 : Int32) (x2 : Int32) (g_found : Int32) (g_used : Int32) (g_first : (Nat → Int32)) (g_trial : (Nat → Int32)), Rn Z 3 (Option.map enc) 0 0 52 [(0, .ref a_this), (1, .int x1), (2, .int x2)] [] [(a_this, .inr (3, [.int g_found, .ref a_from, .ref a_to, .ref a_first, .ref a_trial, .int g_used, .int g_firstOnly])), (a_first, .inl ((zG Z).2.1 1, 7, .inl g_first)), (a_from, .inr (8, [.int g_from_places, .ref a_from_squares])), (a_from_squares, .inl ((zG Z).2.1 1, 49, .inl g_from_squares)), (a_to, .inr (8, [.int g_to_places, .ref a_to_squares])), (a_to_squares, .inl ((zG Z).2.1 1, 49, .inl g_to_squares)), (a_trial, .inl ((zG Z).2.1 1, 7, .inl g_trial))] (again x1 x2 g_found g_used g_first g_trial)) (x1 : Int32) (x2 : Int32) (g_found : Int32) (g_used : Int32) (g_first : (Nat → Int32)) (g_trial : (Nat → Int32)), Rn Z 3 (Option.map enc) 0 0 52 [(0, .ref a_this), (1, .int x1), (2, .int x2)] [] [(a_this, .inr (3, [.int g_found, .ref a_from, .ref a_to, .ref a_first, .ref a_trial, .int g_used, .int g_firstOnly])), (a_first, .inl ((zG Z).2.1 1, 7, .inl g_first)), (a_from, .inr (8, [.int g_from_places, .ref a_from_squares])), (a_from_squares, .inl ((zG Z).2.1 1, 49, .inl g_from_squares)), (a_to, .inr (8, [.int g_to_places, .ref a_to_squares])), (a_to_squares, .inl ((zG Z).2.1 1, 49, .inl g_to_squares)), (a_trial, .inl ((zG Z).2.1 1, 7, .inl g_trial))] (X3_nameFrom_B52 (X3_nameFrom rd) g_firstOnly g_from_places g_from_squares g_to_places g_to_squares again x1 x2 g_found g_used g_first g_trial) := by
    intro again hagain x1 x2 g_found g_used g_first g_trial
    unfold X3_nameFrom_B52
    refine rn_iload_n hX dX3_nameFrom_52 2 rfl 53 rfl ?_
    refine rn_aload_n hX dX3_nameFrom_53 0 rfl 54 rfl ?_
    refine rn_get hX inX3 0 rfl rfl 2 (by decide) fl15 rfl rfl dX3_nameFrom_54 57 rfl ?_
    refine rn_get hX inX8 4 rfl rfl 0 (by decide) fl36 rfl rfl dX3_nameFrom_57 60 rfl ?_
    refine rn_icmp_ge hX dX3_nameFrom_60 144 (by decide) 63 rfl ?_ ?_
    · exact rn_vret hX hr (by rw [henc]; rfl) dX3_nameFrom_144
    refine rn_aload_n hX dX3_nameFrom_63 0 rfl 64 rfl ?_
    refine rn_get hX inX3 0 rfl rfl 6 (by decide) fl25 rfl rfl dX3_nameFrom_64 67 rfl ?_
    refine rn_if_eq hX dX3_nameFrom_67 78 (by decide) 70 rfl ?_ ?_
    · exact (hJ78 _ hagain) x1 x2 g_found g_used g_first g_trial
    refine rn_aload_n hX dX3_nameFrom_70 0 rfl 71 rfl ?_
    refine rn_get hX inX3 0 rfl rfl 0 (by decide) fl29 rfl rfl dX3_nameFrom_71 74 rfl ?_
    refine rn_if_le hX dX3_nameFrom_74 78 (by decide) 77 rfl ?_ ?_
    · exact (hJ78 _ hagain) x1 x2 g_found g_used g_first g_trial
    exact rn_vret hX hr (by rw [henc]; rfl) dX3_nameFrom_77
  have hL52 : ∀ (n : Nat) (x1 : Int32) (x2 : Int32) (g_found : Int32) (g_used : Int32) (g_first : (Nat → Int32)) (g_trial : (Nat → Int32)), Rn Z 3 (Option.map enc) 0 0 52 [(0, .ref a_this), (1, .int x1), (2, .int x2)] [] [(a_this, .inr (3, [.int g_found, .ref a_from, .ref a_to, .ref a_first, .ref a_trial, .int g_used, .int g_firstOnly])), (a_first, .inl ((zG Z).2.1 1, 7, .inl g_first)), (a_from, .inr (8, [.int g_from_places, .ref a_from_squares])), (a_from_squares, .inl ((zG Z).2.1 1, 49, .inl g_from_squares)), (a_to, .inr (8, [.int g_to_places, .ref a_to_squares])), (a_to_squares, .inl ((zG Z).2.1 1, 49, .inl g_to_squares)), (a_trial, .inl ((zG Z).2.1 1, 7, .inl g_trial))] (X3_nameFrom_L52 (X3_nameFrom rd) g_firstOnly g_from_places g_from_squares g_to_places g_to_squares n x1 x2 g_found g_used g_first g_trial) := by
    intro n
    induction n with
    | zero => intros; exact rn_none
    | succ n ih => exact hB52 _ ih
  have hJ39 : ∀ (g_found : Int32) (g_used : Int32) (g_first : (Nat → Int32)) (g_trial : (Nat → Int32)), Rn Z 3 (Option.map enc) 0 0 39 [(0, .ref a_this)] [] [(a_this, .inr (3, [.int g_found, .ref a_from, .ref a_to, .ref a_first, .ref a_trial, .int g_used, .int g_firstOnly])), (a_first, .inl ((zG Z).2.1 1, 7, .inl g_first)), (a_from, .inr (8, [.int g_from_places, .ref a_from_squares])), (a_from_squares, .inl ((zG Z).2.1 1, 49, .inl g_from_squares)), (a_to, .inr (8, [.int g_to_places, .ref a_to_squares])), (a_to_squares, .inl ((zG Z).2.1 1, 49, .inl g_to_squares)), (a_trial, .inl ((zG Z).2.1 1, 7, .inl g_trial))] (X3_nameFrom_J39 g_found g_used g_first g_trial) := by
    intro g_found g_used g_first g_trial
    unfold X3_nameFrom_J39
    refine rn_aload_n hX dX3_nameFrom_39 0 rfl 40 rfl ?_
    refine rn_dup hX dX3_nameFrom_40 41 rfl rfl ?_
    refine rn_get hX inX3 0 rfl rfl 0 (by decide) fl29 rfl rfl dX3_nameFrom_41 44 rfl ?_
    refine rn_iconst hX dX3_nameFrom_44 45 rfl ic_1 ?_
    refine rn_iadd hX dX3_nameFrom_45 46 rfl ?_
    refine rn_lati (fun v8 => ?_)
    refine rn_put hX inX3 tyX3_ok nmX3 0 rfl rfl 0 (by decide) fl29 rfl rfl rfl rfl (Nat.le_of_ble_eq_true rfl) dX3_nameFrom_46 49 rfl (w1 := [(a_this, .inr (3, [.int v8, .ref a_from, .ref a_to, .ref a_first, .ref a_trial, .int g_used, .int g_firstOnly])), (a_first, .inl ((zG Z).2.1 1, 7, .inl g_first)), (a_from, .inr (8, [.int g_from_places, .ref a_from_squares])), (a_from_squares, .inl ((zG Z).2.1 1, 49, .inl g_from_squares)), (a_to, .inr (8, [.int g_to_places, .ref a_to_squares])), (a_to_squares, .inl ((zG Z).2.1 1, 49, .inl g_to_squares)), (a_trial, .inl ((zG Z).2.1 1, 7, .inl g_trial))]) rfl ?_
    exact rn_vret hX hr (by rw [henc]; rfl) dX3_nameFrom_49
  have hJ17 : ∀ (g_found : Int32) (g_used : Int32) (g_first : (Nat → Int32)) (g_trial : (Nat → Int32)), Rn Z 3 (Option.map enc) 0 0 17 [(0, .ref a_this)] [] [(a_this, .inr (3, [.int g_found, .ref a_from, .ref a_to, .ref a_first, .ref a_trial, .int g_used, .int g_firstOnly])), (a_first, .inl ((zG Z).2.1 1, 7, .inl g_first)), (a_from, .inr (8, [.int g_from_places, .ref a_from_squares])), (a_from_squares, .inl ((zG Z).2.1 1, 49, .inl g_from_squares)), (a_to, .inr (8, [.int g_to_places, .ref a_to_squares])), (a_to_squares, .inl ((zG Z).2.1 1, 49, .inl g_to_squares)), (a_trial, .inl ((zG Z).2.1 1, 7, .inl g_trial))] (X3_nameFrom_J17 g_found g_used g_first g_trial) := by
    intro g_found g_used g_first g_trial
    unfold X3_nameFrom_J17
    refine rn_aload_n hX dX3_nameFrom_17 0 rfl 18 rfl ?_
    refine rn_get hX inX3 0 rfl rfl 0 (by decide) fl29 rfl rfl dX3_nameFrom_18 21 rfl ?_
    refine rn_if_ne hX dX3_nameFrom_21 39 (by decide) 24 rfl ?_ ?_
    · exact hJ39 g_found g_used g_first g_trial
    refine rn_aload_n hX dX3_nameFrom_24 0 rfl 25 rfl ?_
    refine rn_get hX inX3 0 rfl rfl 4 (by decide) fl22 rfl rfl dX3_nameFrom_25 28 rfl ?_
    refine rn_iconst hX dX3_nameFrom_28 29 rfl ic_0 ?_
    refine rn_aload_n hX dX3_nameFrom_29 0 rfl 30 rfl ?_
    refine rn_get hX inX3 0 rfl rfl 3 (by decide) fl18 rfl rfl dX3_nameFrom_30 33 rfl ?_
    refine rn_iconst hX dX3_nameFrom_33 34 rfl ic_0 ?_
    refine rn_bipush hX dX3_nameFrom_34 36 rfl bp_7 ?_
    refine rn_copyi hX ml45 copyN copyS copyI 6 1 rfl rfl (by decide) (by decide) (by decide) (by decide) (by decide) (by simp only [rmX3_nameFrom]; omega) (Nat.le_trans (Nat.le_of_ble_eq_true rfl : _ ≤ 60) (by simp only [rmX3_nameFrom]; omega)) dX3_nameFrom_36 39 rfl (w1 := fun m9 => [(a_this, .inr (3, [.int g_found, .ref a_from, .ref a_to, .ref a_first, .ref a_trial, .int g_used, .int g_firstOnly])), (a_first, .inl ((zG Z).2.1 1, 7, .inl m9)), (a_from, .inr (8, [.int g_from_places, .ref a_from_squares])), (a_from_squares, .inl ((zG Z).2.1 1, 49, .inl g_from_squares)), (a_to, .inr (8, [.int g_to_places, .ref a_to_squares])), (a_to_squares, .inl ((zG Z).2.1 1, 49, .inl g_to_squares)), (a_trial, .inl ((zG Z).2.1 1, 7, .inl g_trial))]) (fun _ => rfl) (fun m9 => ?_)
    exact hJ39 g_found g_used m9 g_trial
  show Rn Z 3 (Option.map enc) 0 0 0 _ _ _ (X3_nameFrom_R (X3_nameFrom rd) x1 g_firstOnly g_found g_used g_first g_from_places g_from_squares g_to_places g_to_squares g_trial)
  unfold X3_nameFrom_R
  refine rn_iload_n hX dX3_nameFrom_0 1 rfl 1 rfl ?_
  refine rn_aload_n hX dX3_nameFrom_1 0 rfl 2 rfl ?_
  refine rn_get hX inX3 0 rfl rfl 1 (by decide) fl9 rfl rfl dX3_nameFrom_2 5 rfl ?_
  refine rn_get hX inX8 2 rfl rfl 0 (by decide) fl36 rfl rfl dX3_nameFrom_5 8 rfl ?_
  refine rn_icmp_ge hX dX3_nameFrom_8 17 (by decide) 11 rfl ?_ ?_
  · refine rn_sub [0] rfl ?_
    exact hJ17 g_found g_used g_first g_trial
  refine rn_iload_n hX dX3_nameFrom_11 1 rfl 12 rfl ?_
  refine rn_bipush hX dX3_nameFrom_12 14 rfl bp_7 ?_
  refine rn_icmp_lt hX dX3_nameFrom_14 50 (by decide) 17 rfl ?_ ?_
  · refine rn_iconst hX dX3_nameFrom_50 51 rfl ic_0 ?_
    refine rn_istore_n hX dX3_nameFrom_51 2 rfl (by decide) (L' := [(2, .int (0 : Int32)), (0, .ref a_this), (1, .int x1)]) rfl 52 rfl ?_
    refine rn_sub [1, 2, 0] rfl ?_
    exact (hL52  1000) x1 (0 : Int32) g_found g_used g_first g_trial
  refine rn_sub [0] rfl ?_
  exact hJ17 g_found g_used g_first g_trial
abbrev rmX3_compare : Room := { frames := 11, cells := 0, slots := 0, locals := 258 }
theorem hdV_X3_compare : yX3_compare.cls = RX3 ∧ yX3_compare.cls ≠ "java/lang/invoke/MethodHandle" ∧ yX3_compare.cls ≠ "java/lang/invoke/VarHandle" ∧ (parseMethodDescriptor yX3_compare.desc).map (fun d => d.parameters.length) = some 2 := by decide +kernel
set_option maxHeartbeats 4000000 in
set_option maxRecDepth 100000 in
theorem c_X3_compare (l : Launch) (G : GT) (a_this a_first a_from a_from_squares a_trial a_p0 a_p0_squares : Nat) (g_found : Int32) (g_to : Nat) (g_used : Int32) (g_firstOnly : Int32) (g_first : (Nat → Int32)) (g_from_places : Int32) (g_from_squares : (Nat → Int32)) (g_trial : (Nat → Int32)) (g_p0_places : Int32) (g_p0_squares : (Nat → Int32)) (x2 : Int32) {u : Int32 × Int32 × Nat × Int32 × (Nat → Int32) × (Nat → Int32)} (hu : X3_compare x2 g_firstOnly g_found g_to g_used g_first g_from_places g_from_squares g_trial g_p0_places g_p0_squares a_p0 = some u) : Ctr l G yX3_compare wsX3_compare rmX3_compare [.ref a_this, .ref a_p0, .int x2] [(a_this, .inr (3, [.int g_found, .ref a_from, .ref g_to, .ref a_first, .ref a_trial, .int g_used, .int g_firstOnly])), (a_first, .inl (G.2.1 1, 7, .inl g_first)), (a_from, .inr (8, [.int g_from_places, .ref a_from_squares])), (a_from_squares, .inl (G.2.1 1, 49, .inl g_from_squares)), (a_trial, .inl (G.2.1 1, 7, .inl g_trial)), (a_p0, .inr (8, [.int g_p0_places, .ref a_p0_squares])), (a_p0_squares, .inl (G.2.1 1, 49, .inl g_p0_squares))] none [(a_this, .inr (3, [.int u.2.1, .ref a_from, .ref u.2.2.1, .ref a_first, .ref a_trial, .int u.2.2.2.1, .int u.1])), (a_first, .inl (G.2.1 1, 7, .inl u.2.2.2.2.1)), (a_from, .inr (8, [.int g_from_places, .ref a_from_squares])), (a_from_squares, .inl (G.2.1 1, 49, .inl g_from_squares)), (a_trial, .inl (G.2.1 1, 7, .inl u.2.2.2.2.2)), (a_p0, .inr (8, [.int g_p0_places, .ref a_p0_squares])), (a_p0_squares, .inl (G.2.1 1, 49, .inl g_p0_squares))] := by
  obtain ⟨enc, henc⟩ : ∃ enc : (Int32 × Int32 × Nat × Int32 × (Nat → Int32) × (Nat → Int32)) → Option Value × va_W, enc = fun u => ((none : Option Value), ([(a_this, .inr (3, [.int u.2.1, .ref a_from, .ref u.2.2.1, .ref a_first, .ref a_trial, .int u.2.2.2.1, .int u.1])), (a_first, .inl (G.2.1 1, 7, .inl u.2.2.2.2.1)), (a_from, .inr (8, [.int g_from_places, .ref a_from_squares])), (a_from_squares, .inl (G.2.1 1, 49, .inl g_from_squares)), (a_trial, .inl (G.2.1 1, 7, .inl u.2.2.2.2.2)), (a_p0, .inr (8, [.int g_p0_places, .ref a_p0_squares])), (a_p0_squares, .inl (G.2.1 1, 49, .inl g_p0_squares))] : va_W)) := ⟨_, rfl⟩
  refine ctr_of (cc := cX3_compare) (own := RX3) (E := Option.map enc) (o := X3_compare x2 g_firstOnly g_found g_to g_used g_first g_from_places g_from_squares g_trial g_p0_places g_p0_squares a_p0) (by decide) rfl rfl (L := [(0, .ref a_this), (1, .ref a_p0), (2, .int x2)]) rfl (Nat.le_of_ble_eq_true rfl) (by rw [hu, henc]; rfl) ?_
  intro Z hX hl hG hr
  subst hl; subst hG
  have fl15 : (Cond.fieldLink RX3 15 "OnlyFar$Naming" "to" "LOnlyFar$Table;").before (za Z) (zs Z) = true := hX.wd (mcC _ wd_337)
  have fl25 : (Cond.fieldLink RX3 25 "OnlyFar$Naming" "firstOnly" "Z").before (za Z) (zs Z) = true := hX.wd (mcC _ wd_341)
  have fl29 : (Cond.fieldLink RX3 29 "OnlyFar$Naming" "found" "I").before (za Z) (zs Z) = true := hX.wd (mcC _ wd_334)
  have fl33 : (Cond.fieldLink RX3 33 "OnlyFar$Naming" "used" "I").before (za Z) (zs Z) = true := hX.wd (mcC _ wd_340)
  have fl36 : (Cond.fieldLink RX3 36 "OnlyFar$Table" "places" "I").before (za Z) (zs Z) = true := hX.wd (mcC _ wd_129)
  have fl9 : (Cond.fieldLink RX3 9 "OnlyFar$Naming" "from" "LOnlyFar$Table;").before (za Z) (zs Z) = true := hX.wd (mcC _ wd_336)
  have inX3 : ∀ w ∈ u_ws RX3 TX3 7, w ∈ wsX3_compare := fun w h => mcC w (inC_X3 w h)
  have inX8 : ∀ w ∈ u_ws RX8 TX8 2, w ∈ wsX3_compare := fun w h => mcC w (inC_X8 w h)
  unfold X3_compare
  refine rn_aload_n hX dX3_compare_0 0 rfl 1 rfl ?_
  refine rn_aload_n hX dX3_compare_1 1 rfl 2 rfl ?_
  refine rn_put hX inX3 tyX3_ok nmX3 0 rfl rfl 2 (by decide) fl15 rfl rfl rfl rfl (Nat.le_of_ble_eq_true rfl) dX3_compare_2 5 rfl (w1 := [(a_this, .inr (3, [.int g_found, .ref a_from, .ref a_p0, .ref a_first, .ref a_trial, .int g_used, .int g_firstOnly])), (a_first, .inl ((zG Z).2.1 1, 7, .inl g_first)), (a_from, .inr (8, [.int g_from_places, .ref a_from_squares])), (a_from_squares, .inl ((zG Z).2.1 1, 49, .inl g_from_squares)), (a_trial, .inl ((zG Z).2.1 1, 7, .inl g_trial)), (a_p0, .inr (8, [.int g_p0_places, .ref a_p0_squares])), (a_p0_squares, .inl ((zG Z).2.1 1, 49, .inl g_p0_squares))]) rfl ?_
  refine rn_aload_n hX dX3_compare_5 0 rfl 6 rfl ?_
  refine rn_iload_n hX dX3_compare_6 2 rfl 7 rfl ?_
  refine rn_gz (fun hz1 => ?_)
  refine rn_put hX inX3 tyX3_ok nmX3 0 rfl rfl 6 (by decide) fl25 rfl rfl (nar_z hz1) (fit_z hz1) (Nat.le_of_ble_eq_true rfl) dX3_compare_7 10 rfl (w1 := [(a_this, .inr (3, [.int g_found, .ref a_from, .ref a_p0, .ref a_first, .ref a_trial, .int g_used, .int x2])), (a_first, .inl ((zG Z).2.1 1, 7, .inl g_first)), (a_from, .inr (8, [.int g_from_places, .ref a_from_squares])), (a_from_squares, .inl ((zG Z).2.1 1, 49, .inl g_from_squares)), (a_trial, .inl ((zG Z).2.1 1, 7, .inl g_trial)), (a_p0, .inr (8, [.int g_p0_places, .ref a_p0_squares])), (a_p0_squares, .inl ((zG Z).2.1 1, 49, .inl g_p0_squares))]) rfl ?_
  refine rn_aload_n hX dX3_compare_10 0 rfl 11 rfl ?_
  refine rn_iconst hX dX3_compare_11 12 rfl ic_0 ?_
  refine rn_put hX inX3 tyX3_ok nmX3 0 rfl rfl 0 (by decide) fl29 rfl rfl rfl rfl (Nat.le_of_ble_eq_true rfl) dX3_compare_12 15 rfl (w1 := [(a_this, .inr (3, [.int (0 : Int32), .ref a_from, .ref a_p0, .ref a_first, .ref a_trial, .int g_used, .int x2])), (a_first, .inl ((zG Z).2.1 1, 7, .inl g_first)), (a_from, .inr (8, [.int g_from_places, .ref a_from_squares])), (a_from_squares, .inl ((zG Z).2.1 1, 49, .inl g_from_squares)), (a_trial, .inl ((zG Z).2.1 1, 7, .inl g_trial)), (a_p0, .inr (8, [.int g_p0_places, .ref a_p0_squares])), (a_p0_squares, .inl ((zG Z).2.1 1, 49, .inl g_p0_squares))]) rfl ?_
  refine rn_aload_n hX dX3_compare_15 0 rfl 16 rfl ?_
  refine rn_iconst hX dX3_compare_16 17 rfl ic_0 ?_
  refine rn_put hX inX3 tyX3_ok nmX3 0 rfl rfl 5 (by decide) fl33 rfl rfl rfl rfl (Nat.le_of_ble_eq_true rfl) dX3_compare_17 20 rfl (w1 := [(a_this, .inr (3, [.int (0 : Int32), .ref a_from, .ref a_p0, .ref a_first, .ref a_trial, .int (0 : Int32), .int x2])), (a_first, .inl ((zG Z).2.1 1, 7, .inl g_first)), (a_from, .inr (8, [.int g_from_places, .ref a_from_squares])), (a_from_squares, .inl ((zG Z).2.1 1, 49, .inl g_from_squares)), (a_trial, .inl ((zG Z).2.1 1, 7, .inl g_trial)), (a_p0, .inr (8, [.int g_p0_places, .ref a_p0_squares])), (a_p0_squares, .inl ((zG Z).2.1 1, 49, .inl g_p0_squares))]) rfl ?_
  refine rn_aload_n hX dX3_compare_20 0 rfl 21 rfl ?_
  refine rn_get hX inX3 0 rfl rfl 1 (by decide) fl9 rfl rfl dX3_compare_21 24 rfl ?_
  refine rn_get hX inX8 2 rfl rfl 0 (by decide) fl36 rfl rfl dX3_compare_24 27 rfl ?_
  refine rn_aload_n hX dX3_compare_27 0 rfl 28 rfl ?_
  refine rn_get hX inX3 0 rfl rfl 2 (by decide) fl15 rfl rfl dX3_compare_28 31 rfl ?_
  refine rn_get hX inX8 5 rfl rfl 0 (by decide) fl36 rfl rfl dX3_compare_31 34 rfl ?_
  refine rn_icmp_ne hX dX3_compare_34 42 (by decide) 37 rfl ?_ ?_
  · exact rn_vret hX hr (by rw [henc]; rfl) dX3_compare_42
  refine rn_aload_n hX dX3_compare_37 0 rfl 38 rfl ?_
  refine rn_iconst hX dX3_compare_38 39 rfl ic_0 ?_
  refine rn_bind (fun u2 hu2 => ?_)
  refine rn_callV hX (gV mcC wd_869 wd_871 wd_22 wd_80 wd_872) rfl hdV_X3_nameFrom rfl rfl ⟨Nat.le_of_ble_eq_true rfl, Nat.le_of_ble_eq_true rfl⟩ (c_X3_nameFrom (zl Z) (zG Z) 8 a_this a_first a_from a_from_squares a_p0 a_p0_squares a_trial (0 : Int32) (0 : Int32) x2 g_first g_from_places g_from_squares g_p0_places g_p0_squares g_trial (0 : Int32) hu2) rfl [0, 1, 2, 3, 5, 6, 4] rfl rfl rfl (ci := 3) rfl rfl rfl (Nat.le_of_ble_eq_true rfl) dX3_compare_39 42 rfl (wn := [(a_this, .inr (3, [.int u2.1, .ref a_from, .ref a_p0, .ref a_first, .ref a_trial, .int u2.2.1, .int x2])), (a_first, .inl ((zG Z).2.1 1, 7, .inl u2.2.2.1)), (a_from, .inr (8, [.int g_from_places, .ref a_from_squares])), (a_from_squares, .inl ((zG Z).2.1 1, 49, .inl g_from_squares)), (a_trial, .inl ((zG Z).2.1 1, 7, .inl u2.2.2.2)), (a_p0, .inr (8, [.int g_p0_places, .ref a_p0_squares])), (a_p0_squares, .inl ((zG Z).2.1 1, 49, .inl g_p0_squares))]) rfl (S' := []) rfl ⟨Nat.zero_le _, Nat.zero_le _⟩ ?_
  exact rn_vret hX hr (by rw [henc]; rfl) dX3_compare_42
abbrev rmX3_nameOf : Room := { frames := 0, cells := 0, slots := 0, locals := 0 }
theorem hdV_X3_nameOf : yX3_nameOf.cls = RX3 ∧ yX3_nameOf.cls ≠ "java/lang/invoke/MethodHandle" ∧ yX3_nameOf.cls ≠ "java/lang/invoke/VarHandle" ∧ (parseMethodDescriptor yX3_nameOf.desc).map (fun d => d.parameters.length) = some 1 := by decide +kernel
set_option maxHeartbeats 4000000 in
set_option maxRecDepth 100000 in
theorem c_X3_nameOf (l : Launch) (G : GT) (a_this a_first a_from a_to a_trial : Nat) (g_found : Int32) (g_used : Int32) (g_firstOnly : Int32) (g_first : (Nat → Int32)) (x1 : Int32) {u : Int32} (hu : X3_nameOf x1 g_first = some u) : Ctr l G yX3_nameOf wsX3_nameOf rmX3_nameOf [.ref a_this, .int x1] [(a_this, .inr (3, [.int g_found, .ref a_from, .ref a_to, .ref a_first, .ref a_trial, .int g_used, .int g_firstOnly])), (a_first, .inl (G.2.1 1, 7, .inl g_first))] (some (.int u)) [(a_this, .inr (3, [.int g_found, .ref a_from, .ref a_to, .ref a_first, .ref a_trial, .int g_used, .int g_firstOnly])), (a_first, .inl (G.2.1 1, 7, .inl g_first))] := by
  obtain ⟨enc, henc⟩ : ∃ enc : (Int32) → Option Value × va_W, enc = fun u => (((some (.int u)) : Option Value), ([(a_this, .inr (3, [.int g_found, .ref a_from, .ref a_to, .ref a_first, .ref a_trial, .int g_used, .int g_firstOnly])), (a_first, .inl (G.2.1 1, 7, .inl g_first))] : va_W)) := ⟨_, rfl⟩
  refine ctr_of (cc := cX3_nameOf) (own := RX3) (E := Option.map enc) (o := X3_nameOf x1 g_first) (by decide) rfl rfl (L := [(0, .ref a_this), (1, .int x1)]) rfl (Nat.le_of_ble_eq_true rfl) (by rw [hu, henc]; rfl) ?_
  intro Z hX hl hG hr
  subst hl; subst hG
  have fl18 : (Cond.fieldLink RX3 18 "OnlyFar$Naming" "first" "[I").before (za Z) (zs Z) = true := hX.wd (mcC _ wd_338)
  have inX3 : ∀ w ∈ u_ws RX3 TX3 7, w ∈ wsX3_nameOf := fun w h => mcC w (inC_X3 w h)
  unfold X3_nameOf
  refine rn_iload_n hX dX3_nameOf_0 1 rfl 1 rfl ?_
  refine rn_if_lt hX dX3_nameOf_1 19 (by decide) 4 rfl ?_ ?_
  · refine rn_bipush hX dX3_nameOf_19 21 rfl bp_m4 ?_
    exact rn_iret hX hr (by rw [henc]; rfl) dX3_nameOf_21
  refine rn_iload_n hX dX3_nameOf_4 1 rfl 5 rfl ?_
  refine rn_bipush hX dX3_nameOf_5 7 rfl bp_7 ?_
  refine rn_icmp_ge hX dX3_nameOf_7 19 (by decide) 10 rfl ?_ ?_
  · refine rn_bipush hX dX3_nameOf_19 21 rfl bp_m4 ?_
    exact rn_iret hX hr (by rw [henc]; rfl) dX3_nameOf_21
  refine rn_aload_n hX dX3_nameOf_10 0 rfl 11 rfl ?_
  refine rn_get hX inX3 0 rfl rfl 3 (by decide) fl18 rfl rfl dX3_nameOf_11 14 rfl ?_
  refine rn_iload_n hX dX3_nameOf_14 1 rfl 15 rfl ?_
  refine rn_gd (fun hi1 => ?_)
  refine rn_iald hX 1 rfl hi1 dX3_nameOf_15 16 rfl ?_
  refine rn_goto hX dX3_nameOf_16 21 (by decide) ?_
  exact rn_iret hX hr (by rw [henc]; rfl) dX3_nameOf_21
abbrev rmX8_reset : Room := { frames := 1, cells := 0, slots := 0, locals := 23 }
theorem hdV_X8_reset : yX8_reset.cls = RX8 ∧ yX8_reset.cls ≠ "java/lang/invoke/MethodHandle" ∧ yX8_reset.cls ≠ "java/lang/invoke/VarHandle" ∧ (parseMethodDescriptor yX8_reset.desc).map (fun d => d.parameters.length) = some 0 := by decide +kernel
set_option maxHeartbeats 4000000 in
set_option maxRecDepth 100000 in
theorem c_X8_reset (l : Launch) (G : GT) (a_this a_squares : Nat) (g_places : Int32) (g_squares : (Nat → Int32)) {u : Int32 × (Nat → Int32)} (hu : X8_reset g_places g_squares = some u) : Ctr l G yX8_reset wsX8_reset rmX8_reset [.ref a_this] [(a_this, .inr (8, [.int g_places, .ref a_squares])), (a_squares, .inl (G.2.1 1, 49, .inl g_squares))] none [(a_this, .inr (8, [.int u.1, .ref a_squares])), (a_squares, .inl (G.2.1 1, 49, .inl u.2))] := by
  obtain ⟨enc, henc⟩ : ∃ enc : (Int32 × (Nat → Int32)) → Option Value × va_W, enc = fun u => ((none : Option Value), ([(a_this, .inr (8, [.int u.1, .ref a_squares])), (a_squares, .inl (G.2.1 1, 49, .inl u.2))] : va_W)) := ⟨_, rfl⟩
  refine ctr_of (cc := cX8_reset) (own := RX8) (E := Option.map enc) (o := X8_reset g_places g_squares) (by decide) rfl rfl (L := [(0, .ref a_this)]) rfl (Nat.le_of_ble_eq_true rfl) (by rw [hu, henc]; rfl) ?_
  intro Z hX hl hG hr
  subst hl; subst hG
  have fl15 : (Cond.fieldLink RX8 15 "OnlyFar$Table" "squares" "[I").before (za Z) (zs Z) = true := hX.wd (mcC _ wd_134)
  have fl9 : (Cond.fieldLink RX8 9 "OnlyFar$Table" "places" "I").before (za Z) (zs Z) = true := hX.wd (mcC _ wd_128)
  have inX8 : ∀ w ∈ u_ws RX8 TX8 2, w ∈ wsX8_reset := fun w h => mcC w (inC_X8 w h)
  unfold X8_reset
  refine rn_aload_n hX dX8_reset_0 0 rfl 1 rfl ?_
  refine rn_iconst hX dX8_reset_1 2 rfl ic_3 ?_
  refine rn_put hX inX8 tyX8_ok nmX8 0 rfl rfl 0 (by decide) fl9 rfl rfl rfl rfl (Nat.le_of_ble_eq_true rfl) dX8_reset_2 5 rfl (w1 := [(a_this, .inr (8, [.int (3 : Int32), .ref a_squares])), (a_squares, .inl ((zG Z).2.1 1, 49, .inl g_squares))]) rfl ?_
  refine rn_aload_n hX dX8_reset_5 0 rfl 6 rfl ?_
  refine rn_get hX inX8 0 rfl rfl 1 (by decide) fl15 rfl rfl dX8_reset_6 9 rfl ?_
  refine rn_iconst hX dX8_reset_9 10 rfl ic_0 ?_
  refine rn_bind (fun u1 hu1 => ?_)
  refine rn_callS hX (gS mcC wd_418 wd_419 wd_82 wd_420) rfl hdS_J7_fill_53178_49 rfl rfl ⟨Nat.le_of_ble_eq_true rfl, Nat.le_of_ble_eq_true rfl⟩ (c_J7_fill_53178_49 (zl Z) (zG Z) a_squares g_squares (0 : Int32) hu1) rfl [1] rfl rfl rfl rfl (Nat.le_of_ble_eq_true rfl) dX8_reset_10 13 rfl (wn := [(a_this, .inr (8, [.int (3 : Int32), .ref a_squares])), (a_squares, .inl ((zG Z).2.1 1, 49, .inl u1))]) rfl (S' := []) rfl ⟨Nat.zero_le _, Nat.zero_le _⟩ ?_
  exact rn_vret hX hr (by rw [henc]; rfl) dX8_reset_13
abbrev rmX4_kindAt : Room := { frames := 0, cells := 0, slots := 0, locals := 0 }
theorem hdV_X4_kindAt : yX4_kindAt.cls = RX4 ∧ yX4_kindAt.cls ≠ "java/lang/invoke/MethodHandle" ∧ yX4_kindAt.cls ≠ "java/lang/invoke/VarHandle" ∧ (parseMethodDescriptor yX4_kindAt.desc).map (fun d => d.parameters.length) = some 1 := by decide +kernel
set_option maxHeartbeats 4000000 in
set_option maxRecDepth 100000 in
theorem c_X4_kindAt (l : Launch) (G : GT) (a_this a_tape a_tape_bytes a_draft : Nat) (g_lines : Int32) (g_fault : Int32) (g_faultAt : Int32) (g_placesTold : Int32) (g_greatestPlace : Int32) (g_next : Int32) (g_kind : Int32) (g_start : Int32) (g_value : Int32) (g_tape_length : Int32) (g_tape_bytes : (Nat → Int32)) (x1 : Int32) {u : Int32} (hu : X4_kindAt x1 g_tape_length g_tape_bytes = some u) : Ctr l G yX4_kindAt wsX4_kindAt rmX4_kindAt [.ref a_this, .int x1] [(a_this, .inr (4, [.ref a_draft, .int g_lines, .int g_fault, .int g_faultAt, .ref a_tape, .int g_placesTold, .int g_greatestPlace, .int g_next, .int g_kind, .int g_start, .int g_value])), (a_tape, .inr (9, [.int g_tape_length, .ref a_tape_bytes])), (a_tape_bytes, .inl (G.2.1 0, 320, .inl g_tape_bytes))] (some (.int u)) [(a_this, .inr (4, [.ref a_draft, .int g_lines, .int g_fault, .int g_faultAt, .ref a_tape, .int g_placesTold, .int g_greatestPlace, .int g_next, .int g_kind, .int g_start, .int g_value])), (a_tape, .inr (9, [.int g_tape_length, .ref a_tape_bytes])), (a_tape_bytes, .inl (G.2.1 0, 320, .inl g_tape_bytes))] := by
  obtain ⟨enc, henc⟩ : ∃ enc : (Int32) → Option Value × va_W, enc = fun u => (((some (.int u)) : Option Value), ([(a_this, .inr (4, [.ref a_draft, .int g_lines, .int g_fault, .int g_faultAt, .ref a_tape, .int g_placesTold, .int g_greatestPlace, .int g_next, .int g_kind, .int g_start, .int g_value])), (a_tape, .inr (9, [.int g_tape_length, .ref a_tape_bytes])), (a_tape_bytes, .inl (G.2.1 0, 320, .inl g_tape_bytes))] : va_W)) := ⟨_, rfl⟩
  refine ctr_of (cc := cX4_kindAt) (own := RX4) (E := Option.map enc) (o := X4_kindAt x1 g_tape_length g_tape_bytes) (by decide) rfl rfl (L := [(0, .ref a_this), (1, .int x1)]) rfl (Nat.le_of_ble_eq_true rfl) (by rw [hu, henc]; rfl) ?_
  intro Z hX hl hG hr
  subst hl; subst hG
  have fl112 : (Cond.fieldLink RX4 112 "OnlyFar$Tape" "bytes" "[B").before (za Z) (zs Z) = true := hX.wd (mcC _ wd_109)
  have fl58 : (Cond.fieldLink RX4 58 "OnlyFar$Tape" "length" "I").before (za Z) (zs Z) = true := hX.wd (mcC _ wd_107)
  have fl9 : (Cond.fieldLink RX4 9 "OnlyFar$Reader" "tape" "LOnlyFar$Tape;").before (za Z) (zs Z) = true := hX.wd (mcC _ wd_149)
  have inX4 : ∀ w ∈ u_ws RX4 TX4 11, w ∈ wsX4_kindAt := fun w h => mcC w (inC_X4 w h)
  have inX9 : ∀ w ∈ u_ws RX9 TX9 2, w ∈ wsX4_kindAt := fun w h => mcC w (inC_X9 w h)
  have hJ62 : ∀ (x2 : Int32), Rn Z 3 (Option.map enc) 0 0 62 [(2, .int x2)] [] [(a_this, .inr (4, [.ref a_draft, .int g_lines, .int g_fault, .int g_faultAt, .ref a_tape, .int g_placesTold, .int g_greatestPlace, .int g_next, .int g_kind, .int g_start, .int g_value])), (a_tape, .inr (9, [.int g_tape_length, .ref a_tape_bytes])), (a_tape_bytes, .inl ((zG Z).2.1 0, 320, .inl g_tape_bytes))] (X4_kindAt_J62 x2) := by
    intro x2
    unfold X4_kindAt_J62
    refine rn_iload_n hX dX4_kindAt_62 0 rfl 63 rfl ?_
    refine rn_bipush hX dX4_kindAt_63 65 rfl bp_32 ?_
    refine rn_icmp_ne hX dX4_kindAt_65 70 (by decide) 68 rfl ?_ ?_
    · refine rn_iload_n hX dX4_kindAt_70 0 rfl 71 rfl ?_
      refine rn_bipush hX dX4_kindAt_71 73 rfl bp_59 ?_
      refine rn_icmp_ne hX dX4_kindAt_73 80 (by decide) 76 rfl ?_ ?_
      · refine rn_iconst hX dX4_kindAt_80 81 rfl ic_5 ?_
        exact rn_iret hX hr (by rw [henc]; rfl) dX4_kindAt_81
      refine rn_iconst hX dX4_kindAt_76 77 rfl ic_4 ?_
      refine rn_goto hX dX4_kindAt_77 81 (by decide) ?_
      exact rn_iret hX hr (by rw [henc]; rfl) dX4_kindAt_81
    refine rn_iconst hX dX4_kindAt_68 69 rfl ic_1 ?_
    exact rn_iret hX hr (by rw [henc]; rfl) dX4_kindAt_69
  have hJ48 : ∀ (x2 : Int32), Rn Z 3 (Option.map enc) 0 0 48 [(2, .int x2)] [] [(a_this, .inr (4, [.ref a_draft, .int g_lines, .int g_fault, .int g_faultAt, .ref a_tape, .int g_placesTold, .int g_greatestPlace, .int g_next, .int g_kind, .int g_start, .int g_value])), (a_tape, .inr (9, [.int g_tape_length, .ref a_tape_bytes])), (a_tape_bytes, .inl ((zG Z).2.1 0, 320, .inl g_tape_bytes))] (X4_kindAt_J48 x2) := by
    intro x2
    unfold X4_kindAt_J48
    refine rn_iload_n hX dX4_kindAt_48 0 rfl 49 rfl ?_
    refine rn_bipush hX dX4_kindAt_49 51 rfl bp_48 ?_
    refine rn_icmp_lt hX dX4_kindAt_51 62 (by decide) 54 rfl ?_ ?_
    · exact hJ62 x2
    refine rn_iload_n hX dX4_kindAt_54 0 rfl 55 rfl ?_
    refine rn_bipush hX dX4_kindAt_55 57 rfl bp_57 ?_
    refine rn_icmp_gt hX dX4_kindAt_57 62 (by decide) 60 rfl ?_ ?_
    · exact hJ62 x2
    refine rn_iconst hX dX4_kindAt_60 61 rfl ic_3 ?_
    exact rn_iret hX hr (by rw [henc]; rfl) dX4_kindAt_61
  unfold X4_kindAt
  refine rn_iload_n hX dX4_kindAt_0 1 rfl 1 rfl ?_
  refine rn_if_lt hX dX4_kindAt_1 22 (by decide) 4 rfl ?_ ?_
  · refine rn_iconst hX dX4_kindAt_22 23 rfl ic_0 ?_
    exact rn_iret hX hr (by rw [henc]; rfl) dX4_kindAt_23
  refine rn_iload_n hX dX4_kindAt_4 1 rfl 5 rfl ?_
  refine rn_aload_n hX dX4_kindAt_5 0 rfl 6 rfl ?_
  refine rn_get hX inX4 0 rfl rfl 4 (by decide) fl9 rfl rfl dX4_kindAt_6 9 rfl ?_
  refine rn_get hX inX9 1 rfl rfl 0 (by decide) fl58 rfl rfl dX4_kindAt_9 12 rfl ?_
  refine rn_icmp_ge hX dX4_kindAt_12 22 (by decide) 15 rfl ?_ ?_
  · refine rn_iconst hX dX4_kindAt_22 23 rfl ic_0 ?_
    exact rn_iret hX hr (by rw [henc]; rfl) dX4_kindAt_23
  refine rn_iload_n hX dX4_kindAt_15 1 rfl 16 rfl ?_
  refine rn_sipush hX dX4_kindAt_16 19 rfl sp_320 ?_
  refine rn_icmp_lt hX dX4_kindAt_19 24 (by decide) 22 rfl ?_ ?_
  · refine rn_aload_n hX dX4_kindAt_24 0 rfl 25 rfl ?_
    refine rn_get hX inX4 0 rfl rfl 4 (by decide) fl9 rfl rfl dX4_kindAt_25 28 rfl ?_
    refine rn_get hX inX9 1 rfl rfl 1 (by decide) fl112 rfl rfl dX4_kindAt_28 31 rfl ?_
    refine rn_iload_n hX dX4_kindAt_31 1 rfl 32 rfl ?_
    refine rn_gd (fun hi1 => ?_)
    refine rn_bald hX 2 rfl hi1 dX4_kindAt_32 33 rfl ?_
    refine rn_lati (fun v2 => ?_)
    refine rn_istore_n hX dX4_kindAt_33 2 rfl (by decide) (L' := [(2, .int v2), (0, .ref a_this), (1, .int x1)]) rfl 34 rfl ?_
    refine rn_iload_n hX dX4_kindAt_34 0 rfl 35 rfl ?_
    refine rn_bipush hX dX4_kindAt_35 37 rfl bp_97 ?_
    refine rn_icmp_lt hX dX4_kindAt_37 48 (by decide) 40 rfl ?_ ?_
    · refine rn_sub [0] rfl ?_
      exact hJ48 v2
    refine rn_iload_n hX dX4_kindAt_40 0 rfl 41 rfl ?_
    refine rn_bipush hX dX4_kindAt_41 43 rfl bp_122 ?_
    refine rn_icmp_gt hX dX4_kindAt_43 48 (by decide) 46 rfl ?_ ?_
    · refine rn_sub [0] rfl ?_
      exact hJ48 v2
    refine rn_iconst hX dX4_kindAt_46 47 rfl ic_2 ?_
    exact rn_iret hX hr (by rw [henc]; rfl) dX4_kindAt_47
  refine rn_iconst hX dX4_kindAt_22 23 rfl ic_0 ?_
  exact rn_iret hX hr (by rw [henc]; rfl) dX4_kindAt_23
abbrev rmX4_refuse : Room := { frames := 0, cells := 0, slots := 0, locals := 0 }
theorem hdV_X4_refuse : yX4_refuse.cls = RX4 ∧ yX4_refuse.cls ≠ "java/lang/invoke/MethodHandle" ∧ yX4_refuse.cls ≠ "java/lang/invoke/VarHandle" ∧ (parseMethodDescriptor yX4_refuse.desc).map (fun d => d.parameters.length) = some 2 := by decide +kernel
set_option maxHeartbeats 4000000 in
set_option maxRecDepth 100000 in
theorem c_X4_refuse (l : Launch) (G : GT) (a_this a_draft a_tape : Nat) (g_lines : Int32) (g_fault : Int32) (g_faultAt : Int32) (g_placesTold : Int32) (g_greatestPlace : Int32) (g_next : Int32) (g_kind : Int32) (g_start : Int32) (g_value : Int32) (x1 : Int32) (x2 : Int32) {u : Int32 × Int32 × Int32} (hu : X4_refuse x1 x2 g_fault g_faultAt = u) : Ctr l G yX4_refuse wsX4_refuse rmX4_refuse [.ref a_this, .int x1, .int x2] [(a_this, .inr (4, [.ref a_draft, .int g_lines, .int g_fault, .int g_faultAt, .ref a_tape, .int g_placesTold, .int g_greatestPlace, .int g_next, .int g_kind, .int g_start, .int g_value]))] (some (.int u.1)) [(a_this, .inr (4, [.ref a_draft, .int g_lines, .int u.2.1, .int u.2.2, .ref a_tape, .int g_placesTold, .int g_greatestPlace, .int g_next, .int g_kind, .int g_start, .int g_value]))] := by
  obtain ⟨enc, henc⟩ : ∃ enc : (Int32 × Int32 × Int32) → Option Value × va_W, enc = fun u => (((some (.int u.1)) : Option Value), ([(a_this, .inr (4, [.ref a_draft, .int g_lines, .int u.2.1, .int u.2.2, .ref a_tape, .int g_placesTold, .int g_greatestPlace, .int g_next, .int g_kind, .int g_start, .int g_value]))] : va_W)) := ⟨_, rfl⟩
  refine ctr_of (cc := cX4_refuse) (own := RX4) (E := fun o => some (enc o)) (o := X4_refuse x1 x2 g_fault g_faultAt) (by decide) rfl rfl (L := [(0, .ref a_this), (1, .int x1), (2, .int x2)]) rfl (Nat.le_of_ble_eq_true rfl) (by rw [hu, henc]) ?_
  intro Z hX hl hG hr
  subst hl; subst hG
  have fl29 : (Cond.fieldLink RX4 29 "OnlyFar$Reader" "fault" "I").before (za Z) (zs Z) = true := hX.wd (mcC _ wd_145)
  have fl32 : (Cond.fieldLink RX4 32 "OnlyFar$Reader" "faultAt" "I").before (za Z) (zs Z) = true := hX.wd (mcC _ wd_147)
  have inX4 : ∀ w ∈ u_ws RX4 TX4 11, w ∈ wsX4_refuse := fun w h => mcC w (inC_X4 w h)
  unfold X4_refuse
  refine rn_aload_n hX dX4_refuse_0 0 rfl 1 rfl ?_
  refine rn_iload_n hX dX4_refuse_1 1 rfl 2 rfl ?_
  refine rn_put hX inX4 tyX4_ok nmX4 0 rfl rfl 2 (by decide) fl29 rfl rfl rfl rfl (Nat.le_of_ble_eq_true rfl) dX4_refuse_2 5 rfl (w1 := [(a_this, .inr (4, [.ref a_draft, .int g_lines, .int x1, .int g_faultAt, .ref a_tape, .int g_placesTold, .int g_greatestPlace, .int g_next, .int g_kind, .int g_start, .int g_value]))]) rfl ?_
  refine rn_aload_n hX dX4_refuse_5 0 rfl 6 rfl ?_
  refine rn_iload_n hX dX4_refuse_6 2 rfl 7 rfl ?_
  refine rn_put hX inX4 tyX4_ok nmX4 0 rfl rfl 3 (by decide) fl32 rfl rfl rfl rfl (Nat.le_of_ble_eq_true rfl) dX4_refuse_7 10 rfl (w1 := [(a_this, .inr (4, [.ref a_draft, .int g_lines, .int x1, .int x2, .ref a_tape, .int g_placesTold, .int g_greatestPlace, .int g_next, .int g_kind, .int g_start, .int g_value]))]) rfl ?_
  refine rn_iconst hX dX4_refuse_10 11 rfl ic_0 ?_
  exact rn_zret hX rfl hr (by rw [henc]) dX4_refuse_11
abbrev rmX9_byteAt : Room := { frames := 0, cells := 0, slots := 0, locals := 0 }
theorem hdV_X9_byteAt : yX9_byteAt.cls = RX9 ∧ yX9_byteAt.cls ≠ "java/lang/invoke/MethodHandle" ∧ yX9_byteAt.cls ≠ "java/lang/invoke/VarHandle" ∧ (parseMethodDescriptor yX9_byteAt.desc).map (fun d => d.parameters.length) = some 1 := by decide +kernel
set_option maxHeartbeats 4000000 in
set_option maxRecDepth 100000 in
theorem c_X9_byteAt (l : Launch) (G : GT) (a_this a_bytes : Nat) (g_length : Int32) (g_bytes : (Nat → Int32)) (x1 : Int32) {u : Int32} (hu : X9_byteAt x1 g_length g_bytes = some u) : Ctr l G yX9_byteAt wsX9_byteAt rmX9_byteAt [.ref a_this, .int x1] [(a_this, .inr (9, [.int g_length, .ref a_bytes])), (a_bytes, .inl (G.2.1 0, 320, .inl g_bytes))] (some (.int u)) [(a_this, .inr (9, [.int g_length, .ref a_bytes])), (a_bytes, .inl (G.2.1 0, 320, .inl g_bytes))] := by
  obtain ⟨enc, henc⟩ : ∃ enc : (Int32) → Option Value × va_W, enc = fun u => (((some (.int u)) : Option Value), ([(a_this, .inr (9, [.int g_length, .ref a_bytes])), (a_bytes, .inl (G.2.1 0, 320, .inl g_bytes))] : va_W)) := ⟨_, rfl⟩
  refine ctr_of (cc := cX9_byteAt) (own := RX9) (E := Option.map enc) (o := X9_byteAt x1 g_length g_bytes) (by decide) rfl rfl (L := [(0, .ref a_this), (1, .int x1)]) rfl (Nat.le_of_ble_eq_true rfl) (by rw [hu, henc]; rfl) ?_
  intro Z hX hl hG hr
  subst hl; subst hG
  have fl15 : (Cond.fieldLink RX9 15 "OnlyFar$Tape" "bytes" "[B").before (za Z) (zs Z) = true := hX.wd (mcC _ wd_108)
  have fl9 : (Cond.fieldLink RX9 9 "OnlyFar$Tape" "length" "I").before (za Z) (zs Z) = true := hX.wd (mcC _ wd_105)
  have inX9 : ∀ w ∈ u_ws RX9 TX9 2, w ∈ wsX9_byteAt := fun w h => mcC w (inC_X9 w h)
  unfold X9_byteAt
  refine rn_iload_n hX dX9_byteAt_0 1 rfl 1 rfl ?_
  refine rn_if_lt hX dX9_byteAt_1 28 (by decide) 4 rfl ?_ ?_
  · refine rn_iconst hX dX9_byteAt_28 29 rfl ic_m1 ?_
    exact rn_iret hX hr (by rw [henc]; rfl) dX9_byteAt_29
  refine rn_iload_n hX dX9_byteAt_4 1 rfl 5 rfl ?_
  refine rn_aload_n hX dX9_byteAt_5 0 rfl 6 rfl ?_
  refine rn_get hX inX9 0 rfl rfl 0 (by decide) fl9 rfl rfl dX9_byteAt_6 9 rfl ?_
  refine rn_icmp_ge hX dX9_byteAt_9 28 (by decide) 12 rfl ?_ ?_
  · refine rn_iconst hX dX9_byteAt_28 29 rfl ic_m1 ?_
    exact rn_iret hX hr (by rw [henc]; rfl) dX9_byteAt_29
  refine rn_iload_n hX dX9_byteAt_12 1 rfl 13 rfl ?_
  refine rn_sipush hX dX9_byteAt_13 16 rfl sp_320 ?_
  refine rn_icmp_ge hX dX9_byteAt_16 28 (by decide) 19 rfl ?_ ?_
  · refine rn_iconst hX dX9_byteAt_28 29 rfl ic_m1 ?_
    exact rn_iret hX hr (by rw [henc]; rfl) dX9_byteAt_29
  refine rn_aload_n hX dX9_byteAt_19 0 rfl 20 rfl ?_
  refine rn_get hX inX9 0 rfl rfl 1 (by decide) fl15 rfl rfl dX9_byteAt_20 23 rfl ?_
  refine rn_iload_n hX dX9_byteAt_23 1 rfl 24 rfl ?_
  refine rn_gd (fun hi1 => ?_)
  refine rn_bald hX 1 rfl hi1 dX9_byteAt_24 25 rfl ?_
  refine rn_goto hX dX9_byteAt_25 29 (by decide) ?_
  exact rn_iret hX hr (by rw [henc]; rfl) dX9_byteAt_29
abbrev rmX4_readToken : Room := { frames := 1, cells := 0, slots := 0, locals := 22 }
theorem hdV_X4_readToken : yX4_readToken.cls = RX4 ∧ yX4_readToken.cls ≠ "java/lang/invoke/MethodHandle" ∧ yX4_readToken.cls ≠ "java/lang/invoke/VarHandle" ∧ (parseMethodDescriptor yX4_readToken.desc).map (fun d => d.parameters.length) = some 0 := by decide +kernel
set_option maxHeartbeats 4000000 in
set_option maxRecDepth 100000 in
theorem c_X4_readToken (l : Launch) (G : GT) (a_this a_tape a_tape_bytes a_draft : Nat) (g_lines : Int32) (g_fault : Int32) (g_faultAt : Int32) (g_placesTold : Int32) (g_greatestPlace : Int32) (g_next : Int32) (g_kind : Int32) (g_start : Int32) (g_value : Int32) (g_tape_length : Int32) (g_tape_bytes : (Nat → Int32)) {u : Int32 × Int32 × Int32 × Int32 × Int32 × Int32 × Int32} (hu : X4_readToken g_fault g_faultAt g_kind g_next g_start g_value g_tape_length g_tape_bytes = some u) : Ctr l G yX4_readToken wsX4_readToken rmX4_readToken [.ref a_this] [(a_this, .inr (4, [.ref a_draft, .int g_lines, .int g_fault, .int g_faultAt, .ref a_tape, .int g_placesTold, .int g_greatestPlace, .int g_next, .int g_kind, .int g_start, .int g_value])), (a_tape, .inr (9, [.int g_tape_length, .ref a_tape_bytes])), (a_tape_bytes, .inl (G.2.1 0, 320, .inl g_tape_bytes))] (some (.int u.1)) [(a_this, .inr (4, [.ref a_draft, .int g_lines, .int u.2.1, .int u.2.2.1, .ref a_tape, .int g_placesTold, .int g_greatestPlace, .int u.2.2.2.2.1, .int u.2.2.2.1, .int u.2.2.2.2.2.1, .int u.2.2.2.2.2.2])), (a_tape, .inr (9, [.int g_tape_length, .ref a_tape_bytes])), (a_tape_bytes, .inl (G.2.1 0, 320, .inl g_tape_bytes))] := by
  obtain ⟨enc, henc⟩ : ∃ enc : (Int32 × Int32 × Int32 × Int32 × Int32 × Int32 × Int32) → Option Value × va_W, enc = fun u => (((some (.int u.1)) : Option Value), ([(a_this, .inr (4, [.ref a_draft, .int g_lines, .int u.2.1, .int u.2.2.1, .ref a_tape, .int g_placesTold, .int g_greatestPlace, .int u.2.2.2.2.1, .int u.2.2.2.1, .int u.2.2.2.2.2.1, .int u.2.2.2.2.2.2])), (a_tape, .inr (9, [.int g_tape_length, .ref a_tape_bytes])), (a_tape_bytes, .inl (G.2.1 0, 320, .inl g_tape_bytes))] : va_W)) := ⟨_, rfl⟩
  refine ctr_of (cc := cX4_readToken) (own := RX4) (E := Option.map enc) (o := X4_readToken g_fault g_faultAt g_kind g_next g_start g_value g_tape_length g_tape_bytes) (by decide) rfl rfl (L := [(0, .ref a_this)]) rfl (Nat.le_of_ble_eq_true rfl) (by rw [hu, henc]; rfl) ?_
  intro Z hX hl hG hr
  subst hl; subst hG
  have fl42 : (Cond.fieldLink RX4 42 "OnlyFar$Reader" "next" "I").before (za Z) (zs Z) = true := hX.wd (mcC _ wd_152)
  have fl49 : (Cond.fieldLink RX4 49 "OnlyFar$Reader" "kind" "I").before (za Z) (zs Z) = true := hX.wd (mcC _ wd_153)
  have fl58 : (Cond.fieldLink RX4 58 "OnlyFar$Tape" "length" "I").before (za Z) (zs Z) = true := hX.wd (mcC _ wd_107)
  have fl83 : (Cond.fieldLink RX4 83 "OnlyFar$Reader" "start" "I").before (za Z) (zs Z) = true := hX.wd (mcC _ wd_154)
  have fl89 : (Cond.fieldLink RX4 89 "OnlyFar$Reader" "value" "I").before (za Z) (zs Z) = true := hX.wd (mcC _ wd_155)
  have fl9 : (Cond.fieldLink RX4 9 "OnlyFar$Reader" "tape" "LOnlyFar$Tape;").before (za Z) (zs Z) = true := hX.wd (mcC _ wd_149)
  have inX4 : ∀ w ∈ u_ws RX4 TX4 11, w ∈ wsX4_readToken := fun w h => mcC w (inC_X4 w h)
  have inX9 : ∀ w ∈ u_ws RX9 TX9 2, w ∈ wsX4_readToken := fun w h => mcC w (inC_X9 w h)
  have hJ188 : ∀ (again : Int32 → Int32 → Int32 → Int32 → Int32 → Int32 → Option (Int32 × Int32 × Int32 × Int32 × Int32 × Int32 × Int32)) (k152 : Int32 → Int32 → Int32 → Int32 → Int32 → Int32 → Option (Int32 × Int32 × Int32 × Int32 × Int32 × Int32 × Int32)) (hagain : ∀ (g_fault : Int32) (g_faultAt : Int32) (g_kind : Int32) (g_next : Int32) (g_start : Int32) (g_value : Int32), Rn Z 1 (Option.map enc) 0 0 102 [(0, .ref a_this)] [] [(a_this, .inr (4, [.ref a_draft, .int g_lines, .int g_fault, .int g_faultAt, .ref a_tape, .int g_placesTold, .int g_greatestPlace, .int g_next, .int g_kind, .int g_start, .int g_value])), (a_tape, .inr (9, [.int g_tape_length, .ref a_tape_bytes])), (a_tape_bytes, .inl ((zG Z).2.1 0, 320, .inl g_tape_bytes))] (again g_fault g_faultAt g_kind g_next g_start g_value)) (hk152 : ∀ (g_fault : Int32) (g_faultAt : Int32) (g_kind : Int32) (g_next : Int32) (g_start : Int32) (g_value : Int32), Rn Z 1 (Option.map enc) 0 0 152 [(0, .ref a_this)] [] [(a_this, .inr (4, [.ref a_draft, .int g_lines, .int g_fault, .int g_faultAt, .ref a_tape, .int g_placesTold, .int g_greatestPlace, .int g_next, .int g_kind, .int g_start, .int g_value])), (a_tape, .inr (9, [.int g_tape_length, .ref a_tape_bytes])), (a_tape_bytes, .inl ((zG Z).2.1 0, 320, .inl g_tape_bytes))] (k152 g_fault g_faultAt g_kind g_next g_start g_value)) (g_fault : Int32) (g_faultAt : Int32) (g_kind : Int32) (g_next : Int32) (g_start : Int32) (g_value : Int32), Rn Z 1 (Option.map enc) 0 0 188 [(0, .ref a_this)] [] [(a_this, .inr (4, [.ref a_draft, .int g_lines, .int g_fault, .int g_faultAt, .ref a_tape, .int g_placesTold, .int g_greatestPlace, .int g_next, .int g_kind, .int g_start, .int g_value])), (a_tape, .inr (9, [.int g_tape_length, .ref a_tape_bytes])), (a_tape_bytes, .inl ((zG Z).2.1 0, 320, .inl g_tape_bytes))] (X4_readToken_J188 again k152 g_fault g_faultAt g_kind g_next g_start g_value) := by
    intro again k152 hagain hk152 g_fault g_faultAt g_kind g_next g_start g_value
    unfold X4_readToken_J188
    refine rn_aload_n hX dX4_readToken_188 0 rfl 189 rfl ?_
    refine rn_dup hX dX4_readToken_189 190 rfl rfl ?_
    refine rn_get hX inX4 0 rfl rfl 7 (by decide) fl42 rfl rfl dX4_readToken_190 193 rfl ?_
    refine rn_iconst hX dX4_readToken_193 194 rfl ic_1 ?_
    refine rn_iadd hX dX4_readToken_194 195 rfl ?_
    refine rn_lati (fun v1 => ?_)
    refine rn_put hX inX4 tyX4_ok nmX4 0 rfl rfl 7 (by decide) fl42 rfl rfl rfl rfl (Nat.le_of_ble_eq_true rfl) dX4_readToken_195 198 rfl (w1 := [(a_this, .inr (4, [.ref a_draft, .int g_lines, .int g_fault, .int g_faultAt, .ref a_tape, .int g_placesTold, .int g_greatestPlace, .int v1, .int g_kind, .int g_start, .int g_value])), (a_tape, .inr (9, [.int g_tape_length, .ref a_tape_bytes])), (a_tape_bytes, .inl ((zG Z).2.1 0, 320, .inl g_tape_bytes))]) rfl ?_
    refine rn_goto hX dX4_readToken_198 102 (by decide) ?_
    exact hagain g_fault g_faultAt g_kind v1 g_start g_value
  have hJ152 : ∀ (g_fault : Int32) (g_faultAt : Int32) (g_kind : Int32) (g_next : Int32) (g_start : Int32) (g_value : Int32), Rn Z 1 (Option.map enc) 0 0 152 [(0, .ref a_this)] [] [(a_this, .inr (4, [.ref a_draft, .int g_lines, .int g_fault, .int g_faultAt, .ref a_tape, .int g_placesTold, .int g_greatestPlace, .int g_next, .int g_kind, .int g_start, .int g_value])), (a_tape, .inr (9, [.int g_tape_length, .ref a_tape_bytes])), (a_tape_bytes, .inl ((zG Z).2.1 0, 320, .inl g_tape_bytes))] (X4_readToken_J152 g_fault g_faultAt g_kind g_next g_start g_value) := by
    intro g_fault g_faultAt g_kind g_next g_start g_value
    unfold X4_readToken_J152
    refine rn_aload_n hX dX4_readToken_152 0 rfl 153 rfl ?_
    refine rn_iconst hX dX4_readToken_153 154 rfl ic_1 ?_
    refine rn_aload_n hX dX4_readToken_154 0 rfl 155 rfl ?_
    refine rn_get hX inX4 0 rfl rfl 9 (by decide) fl83 rfl rfl dX4_readToken_155 158 rfl ?_
    refine rn_lat (fun u2 hu2 => ?_)
    refine rn_callV hX (gV mcC wd_429 wd_431 wd_2 wd_72 wd_432) rfl hdV_X4_refuse rfl rfl ⟨Nat.le_of_ble_eq_true rfl, Nat.le_of_ble_eq_true rfl⟩ (c_X4_refuse (zl Z) (zG Z) a_this a_draft a_tape g_lines g_fault g_faultAt g_placesTold g_greatestPlace g_next g_kind g_start g_value (1 : Int32) g_start hu2) rfl [0] rfl rfl rfl (ci := 4) rfl rfl rfl (Nat.le_of_ble_eq_true rfl) dX4_readToken_158 161 rfl (wn := [(a_this, .inr (4, [.ref a_draft, .int g_lines, .int u2.2.1, .int u2.2.2, .ref a_tape, .int g_placesTold, .int g_greatestPlace, .int g_next, .int g_kind, .int g_start, .int g_value])), (a_tape, .inr (9, [.int g_tape_length, .ref a_tape_bytes])), (a_tape_bytes, .inl ((zG Z).2.1 0, 320, .inl g_tape_bytes))]) rfl (S' := [.int u2.1]) rfl ⟨Nat.zero_le _, Nat.zero_le _⟩ ?_
    refine rn_gz (fun hz3 => ?_)
    exact rn_zret hX (nar_z hz3) hr (by rw [henc]; rfl) dX4_readToken_161
  have hB102 : ∀ (again : Int32 → Int32 → Int32 → Int32 → Int32 → Int32 → Option (Int32 × Int32 × Int32 × Int32 × Int32 × Int32 × Int32)) (k152 : Int32 → Int32 → Int32 → Int32 → Int32 → Int32 → Option (Int32 × Int32 × Int32 × Int32 × Int32 × Int32 × Int32)) (hagain : ∀ (g_fault : Int32) (g_faultAt : Int32) (g_kind : Int32) (g_next : Int32) (g_start : Int32) (g_value : Int32), Rn Z 1 (Option.map enc) 0 0 102 [(0, .ref a_this)] [] [(a_this, .inr (4, [.ref a_draft, .int g_lines, .int g_fault, .int g_faultAt, .ref a_tape, .int g_placesTold, .int g_greatestPlace, .int g_next, .int g_kind, .int g_start, .int g_value])), (a_tape, .inr (9, [.int g_tape_length, .ref a_tape_bytes])), (a_tape_bytes, .inl ((zG Z).2.1 0, 320, .inl g_tape_bytes))] (again g_fault g_faultAt g_kind g_next g_start g_value)) (hk152 : ∀ (g_fault : Int32) (g_faultAt : Int32) (g_kind : Int32) (g_next : Int32) (g_start : Int32) (g_value : Int32), Rn Z 1 (Option.map enc) 0 0 152 [(0, .ref a_this)] [] [(a_this, .inr (4, [.ref a_draft, .int g_lines, .int g_fault, .int g_faultAt, .ref a_tape, .int g_placesTold, .int g_greatestPlace, .int g_next, .int g_kind, .int g_start, .int g_value])), (a_tape, .inr (9, [.int g_tape_length, .ref a_tape_bytes])), (a_tape_bytes, .inl ((zG Z).2.1 0, 320, .inl g_tape_bytes))] (k152 g_fault g_faultAt g_kind g_next g_start g_value)) (g_fault : Int32) (g_faultAt : Int32) (g_kind : Int32) (g_next : Int32) (g_start : Int32) (g_value : Int32), Rn Z 1 (Option.map enc) 0 0 102 [(0, .ref a_this)] [] [(a_this, .inr (4, [.ref a_draft, .int g_lines, .int g_fault, .int g_faultAt, .ref a_tape, .int g_placesTold, .int g_greatestPlace, .int g_next, .int g_kind, .int g_start, .int g_value])), (a_tape, .inr (9, [.int g_tape_length, .ref a_tape_bytes])), (a_tape_bytes, .inl ((zG Z).2.1 0, 320, .inl g_tape_bytes))] (X4_readToken_B102 g_tape_length g_tape_bytes again k152 g_fault g_faultAt g_kind g_next g_start g_value) := by
    intro again k152 hagain hk152 g_fault g_faultAt g_kind g_next g_start g_value
    unfold X4_readToken_B102
    refine rn_aload_n hX dX4_readToken_102 0 rfl 103 rfl ?_
    refine rn_get hX inX4 0 rfl rfl 7 (by decide) fl42 rfl rfl dX4_readToken_103 106 rfl ?_
    refine rn_aload_n hX dX4_readToken_106 0 rfl 107 rfl ?_
    refine rn_get hX inX4 0 rfl rfl 4 (by decide) fl9 rfl rfl dX4_readToken_107 110 rfl ?_
    refine rn_get hX inX9 1 rfl rfl 0 (by decide) fl58 rfl rfl dX4_readToken_110 113 rfl ?_
    refine rn_icmp_ge hX dX4_readToken_113 201 (by decide) 116 rfl ?_ ?_
    · refine rn_iconst hX dX4_readToken_201 202 rfl ic_1 ?_
      exact rn_zret hX rfl hr (by rw [henc]; rfl) dX4_readToken_202
    refine rn_aload_n hX dX4_readToken_116 0 rfl 117 rfl ?_
    refine rn_aload_n hX dX4_readToken_117 0 rfl 118 rfl ?_
    refine rn_get hX inX4 0 rfl rfl 7 (by decide) fl42 rfl rfl dX4_readToken_118 121 rfl ?_
    refine rn_bind (fun u4 hu4 => ?_)
    refine rn_callV0 hX (gV mcC wd_425 wd_427 wd_1 wd_72 wd_428) rfl hdV_X4_kindAt rfl rfl ⟨Nat.le_of_ble_eq_true rfl, Nat.le_of_ble_eq_true rfl⟩ (c_X4_kindAt (zl Z) (zG Z) a_this a_tape a_tape_bytes a_draft g_lines g_fault g_faultAt g_placesTold g_greatestPlace g_next g_kind g_start g_value g_tape_length g_tape_bytes g_next hu4) rfl [0, 1, 2] rfl rfl (ci := 4) rfl rfl rfl (Nat.le_of_ble_eq_true rfl) dX4_readToken_121 124 rfl (S' := [.int u4]) rfl ⟨Nat.zero_le _, Nat.zero_le _⟩ ?_
    refine rn_aload_n hX dX4_readToken_124 0 rfl 125 rfl ?_
    refine rn_get hX inX4 0 rfl rfl 8 (by decide) fl49 rfl rfl dX4_readToken_125 128 rfl ?_
    refine rn_icmp_ne hX dX4_readToken_128 201 (by decide) 131 rfl ?_ ?_
    · refine rn_iconst hX dX4_readToken_201 202 rfl ic_1 ?_
      exact rn_zret hX rfl hr (by rw [henc]; rfl) dX4_readToken_202
    refine rn_aload_n hX dX4_readToken_131 0 rfl 132 rfl ?_
    refine rn_get hX inX4 0 rfl rfl 8 (by decide) fl49 rfl rfl dX4_readToken_132 135 rfl ?_
    refine rn_iconst hX dX4_readToken_135 136 rfl ic_3 ?_
    refine rn_icmp_ne hX dX4_readToken_136 188 (by decide) 139 rfl ?_ ?_
    · exact (hJ188 _ _ hagain hk152) g_fault g_faultAt g_kind g_next g_start g_value
    refine rn_aload_n hX dX4_readToken_139 0 rfl 140 rfl ?_
    refine rn_get hX inX4 0 rfl rfl 7 (by decide) fl42 rfl rfl dX4_readToken_140 143 rfl ?_
    refine rn_aload_n hX dX4_readToken_143 0 rfl 144 rfl ?_
    refine rn_get hX inX4 0 rfl rfl 9 (by decide) fl83 rfl rfl dX4_readToken_144 147 rfl ?_
    refine rn_isub hX dX4_readToken_147 148 rfl ?_
    refine rn_iconst hX dX4_readToken_148 149 rfl ic_4 ?_
    refine rn_icmp_lt hX dX4_readToken_149 162 (by decide) 152 rfl ?_ ?_
    · refine rn_aload_n hX dX4_readToken_162 0 rfl 163 rfl ?_
      refine rn_aload_n hX dX4_readToken_163 0 rfl 164 rfl ?_
      refine rn_get hX inX4 0 rfl rfl 10 (by decide) fl89 rfl rfl dX4_readToken_164 167 rfl ?_
      refine rn_bipush hX dX4_readToken_167 169 rfl bp_10 ?_
      refine rn_imul hX dX4_readToken_169 170 rfl ?_
      refine rn_aload_n hX dX4_readToken_170 0 rfl 171 rfl ?_
      refine rn_get hX inX4 0 rfl rfl 4 (by decide) fl9 rfl rfl dX4_readToken_171 174 rfl ?_
      refine rn_aload_n hX dX4_readToken_174 0 rfl 175 rfl ?_
      refine rn_get hX inX4 0 rfl rfl 7 (by decide) fl42 rfl rfl dX4_readToken_175 178 rfl ?_
      refine rn_bind (fun u5 hu5 => ?_)
      refine rn_callV0 hX (gV mcC wd_433 wd_434 wd_435 wd_71 wd_436) rfl hdV_X9_byteAt rfl rfl ⟨Nat.le_of_ble_eq_true rfl, Nat.le_of_ble_eq_true rfl⟩ (c_X9_byteAt (zl Z) (zG Z) a_tape a_tape_bytes g_tape_length g_tape_bytes g_next hu5) rfl [1, 2] rfl rfl (ci := 9) rfl rfl rfl (Nat.le_of_ble_eq_true rfl) dX4_readToken_178 181 rfl (S' := [.int u5, .int (g_value * (10 : Int32)), .ref a_this]) rfl ⟨Nat.zero_le _, Nat.zero_le _⟩ ?_
      refine rn_iadd hX dX4_readToken_181 182 rfl ?_
      refine rn_bipush hX dX4_readToken_182 184 rfl bp_48 ?_
      refine rn_isub hX dX4_readToken_184 185 rfl ?_
      refine rn_lati (fun v6 => ?_)
      refine rn_put hX inX4 tyX4_ok nmX4 0 rfl rfl 10 (by decide) fl89 rfl rfl rfl rfl (Nat.le_of_ble_eq_true rfl) dX4_readToken_185 188 rfl (w1 := [(a_this, .inr (4, [.ref a_draft, .int g_lines, .int g_fault, .int g_faultAt, .ref a_tape, .int g_placesTold, .int g_greatestPlace, .int g_next, .int g_kind, .int g_start, .int v6])), (a_tape, .inr (9, [.int g_tape_length, .ref a_tape_bytes])), (a_tape_bytes, .inl ((zG Z).2.1 0, 320, .inl g_tape_bytes))]) rfl ?_
      exact (hJ188 _ _ hagain hk152) g_fault g_faultAt g_kind g_next g_start v6
    exact hk152 g_fault g_faultAt g_kind g_next g_start g_value
  have hL102 : ∀ (k152 : Int32 → Int32 → Int32 → Int32 → Int32 → Int32 → Option (Int32 × Int32 × Int32 × Int32 × Int32 × Int32 × Int32)) (hk152 : ∀ (g_fault : Int32) (g_faultAt : Int32) (g_kind : Int32) (g_next : Int32) (g_start : Int32) (g_value : Int32), Rn Z 1 (Option.map enc) 0 0 152 [(0, .ref a_this)] [] [(a_this, .inr (4, [.ref a_draft, .int g_lines, .int g_fault, .int g_faultAt, .ref a_tape, .int g_placesTold, .int g_greatestPlace, .int g_next, .int g_kind, .int g_start, .int g_value])), (a_tape, .inr (9, [.int g_tape_length, .ref a_tape_bytes])), (a_tape_bytes, .inl ((zG Z).2.1 0, 320, .inl g_tape_bytes))] (k152 g_fault g_faultAt g_kind g_next g_start g_value)) (n : Nat) (g_fault : Int32) (g_faultAt : Int32) (g_kind : Int32) (g_next : Int32) (g_start : Int32) (g_value : Int32), Rn Z 1 (Option.map enc) 0 0 102 [(0, .ref a_this)] [] [(a_this, .inr (4, [.ref a_draft, .int g_lines, .int g_fault, .int g_faultAt, .ref a_tape, .int g_placesTold, .int g_greatestPlace, .int g_next, .int g_kind, .int g_start, .int g_value])), (a_tape, .inr (9, [.int g_tape_length, .ref a_tape_bytes])), (a_tape_bytes, .inl ((zG Z).2.1 0, 320, .inl g_tape_bytes))] (X4_readToken_L102 g_tape_length g_tape_bytes k152 n g_fault g_faultAt g_kind g_next g_start g_value) := by
    intro k152 hk152 n
    induction n with
    | zero => intros; exact rn_none
    | succ n ih => exact hB102 _ _ ih hk152
  have hJ39 : ∀ (g_fault : Int32) (g_faultAt : Int32) (g_kind : Int32) (g_next : Int32) (g_start : Int32) (g_value : Int32), Rn Z 1 (Option.map enc) 0 0 39 [(0, .ref a_this)] [] [(a_this, .inr (4, [.ref a_draft, .int g_lines, .int g_fault, .int g_faultAt, .ref a_tape, .int g_placesTold, .int g_greatestPlace, .int g_next, .int g_kind, .int g_start, .int g_value])), (a_tape, .inr (9, [.int g_tape_length, .ref a_tape_bytes])), (a_tape_bytes, .inl ((zG Z).2.1 0, 320, .inl g_tape_bytes))] (X4_readToken_J39 g_tape_length g_tape_bytes g_fault g_faultAt g_kind g_next g_start g_value) := by
    intro g_fault g_faultAt g_kind g_next g_start g_value
    unfold X4_readToken_J39
    refine rn_aload_n hX dX4_readToken_39 0 rfl 40 rfl ?_
    refine rn_aload_n hX dX4_readToken_40 0 rfl 41 rfl ?_
    refine rn_get hX inX4 0 rfl rfl 7 (by decide) fl42 rfl rfl dX4_readToken_41 44 rfl ?_
    refine rn_put hX inX4 tyX4_ok nmX4 0 rfl rfl 9 (by decide) fl83 rfl rfl rfl rfl (Nat.le_of_ble_eq_true rfl) dX4_readToken_44 47 rfl (w1 := [(a_this, .inr (4, [.ref a_draft, .int g_lines, .int g_fault, .int g_faultAt, .ref a_tape, .int g_placesTold, .int g_greatestPlace, .int g_next, .int g_kind, .int g_next, .int g_value])), (a_tape, .inr (9, [.int g_tape_length, .ref a_tape_bytes])), (a_tape_bytes, .inl ((zG Z).2.1 0, 320, .inl g_tape_bytes))]) rfl ?_
    refine rn_aload_n hX dX4_readToken_47 0 rfl 48 rfl ?_
    refine rn_aload_n hX dX4_readToken_48 0 rfl 49 rfl ?_
    refine rn_aload_n hX dX4_readToken_49 0 rfl 50 rfl ?_
    refine rn_get hX inX4 0 rfl rfl 9 (by decide) fl83 rfl rfl dX4_readToken_50 53 rfl ?_
    refine rn_bind (fun u7 hu7 => ?_)
    refine rn_callV0 hX (gV mcC wd_425 wd_427 wd_1 wd_72 wd_428) rfl hdV_X4_kindAt rfl rfl ⟨Nat.le_of_ble_eq_true rfl, Nat.le_of_ble_eq_true rfl⟩ (c_X4_kindAt (zl Z) (zG Z) a_this a_tape a_tape_bytes a_draft g_lines g_fault g_faultAt g_placesTold g_greatestPlace g_next g_kind g_next g_value g_tape_length g_tape_bytes g_next hu7) rfl [0, 1, 2] rfl rfl (ci := 4) rfl rfl rfl (Nat.le_of_ble_eq_true rfl) dX4_readToken_53 56 rfl (S' := [.int u7, .ref a_this]) rfl ⟨Nat.zero_le _, Nat.zero_le _⟩ ?_
    refine rn_put hX inX4 tyX4_ok nmX4 0 rfl rfl 8 (by decide) fl49 rfl rfl rfl rfl (Nat.le_of_ble_eq_true rfl) dX4_readToken_56 59 rfl (w1 := [(a_this, .inr (4, [.ref a_draft, .int g_lines, .int g_fault, .int g_faultAt, .ref a_tape, .int g_placesTold, .int g_greatestPlace, .int g_next, .int u7, .int g_next, .int g_value])), (a_tape, .inr (9, [.int g_tape_length, .ref a_tape_bytes])), (a_tape_bytes, .inl ((zG Z).2.1 0, 320, .inl g_tape_bytes))]) rfl ?_
    refine rn_aload_n hX dX4_readToken_59 0 rfl 60 rfl ?_
    refine rn_get hX inX4 0 rfl rfl 8 (by decide) fl49 rfl rfl dX4_readToken_60 63 rfl ?_
    refine rn_iconst hX dX4_readToken_63 64 rfl ic_5 ?_
    refine rn_icmp_ne hX dX4_readToken_64 77 (by decide) 67 rfl ?_ ?_
    · refine rn_aload_n hX dX4_readToken_77 0 rfl 78 rfl ?_
      refine rn_get hX inX4 0 rfl rfl 8 (by decide) fl49 rfl rfl dX4_readToken_78 81 rfl ?_
      refine rn_iconst hX dX4_readToken_81 82 rfl ic_4 ?_
      refine rn_icmp_ne hX dX4_readToken_82 97 (by decide) 85 rfl ?_ ?_
      · refine rn_aload_n hX dX4_readToken_97 0 rfl 98 rfl ?_
        refine rn_iconst hX dX4_readToken_98 99 rfl ic_0 ?_
        refine rn_put hX inX4 tyX4_ok nmX4 0 rfl rfl 10 (by decide) fl89 rfl rfl rfl rfl (Nat.le_of_ble_eq_true rfl) dX4_readToken_99 102 rfl (w1 := [(a_this, .inr (4, [.ref a_draft, .int g_lines, .int g_fault, .int g_faultAt, .ref a_tape, .int g_placesTold, .int g_greatestPlace, .int g_next, .int u7, .int g_next, .int (0 : Int32)])), (a_tape, .inr (9, [.int g_tape_length, .ref a_tape_bytes])), (a_tape_bytes, .inl ((zG Z).2.1 0, 320, .inl g_tape_bytes))]) rfl ?_
        exact (hL102 _ hJ152 1000) g_fault g_faultAt u7 g_next g_next (0 : Int32)
      refine rn_aload_n hX dX4_readToken_85 0 rfl 86 rfl ?_
      refine rn_dup hX dX4_readToken_86 87 rfl rfl ?_
      refine rn_get hX inX4 0 rfl rfl 7 (by decide) fl42 rfl rfl dX4_readToken_87 90 rfl ?_
      refine rn_iconst hX dX4_readToken_90 91 rfl ic_1 ?_
      refine rn_iadd hX dX4_readToken_91 92 rfl ?_
      refine rn_lati (fun v8 => ?_)
      refine rn_put hX inX4 tyX4_ok nmX4 0 rfl rfl 7 (by decide) fl42 rfl rfl rfl rfl (Nat.le_of_ble_eq_true rfl) dX4_readToken_92 95 rfl (w1 := [(a_this, .inr (4, [.ref a_draft, .int g_lines, .int g_fault, .int g_faultAt, .ref a_tape, .int g_placesTold, .int g_greatestPlace, .int v8, .int u7, .int g_next, .int g_value])), (a_tape, .inr (9, [.int g_tape_length, .ref a_tape_bytes])), (a_tape_bytes, .inl ((zG Z).2.1 0, 320, .inl g_tape_bytes))]) rfl ?_
      refine rn_iconst hX dX4_readToken_95 96 rfl ic_1 ?_
      exact rn_zret hX rfl hr (by rw [henc]; rfl) dX4_readToken_96
    refine rn_aload_n hX dX4_readToken_67 0 rfl 68 rfl ?_
    refine rn_iconst hX dX4_readToken_68 69 rfl ic_1 ?_
    refine rn_aload_n hX dX4_readToken_69 0 rfl 70 rfl ?_
    refine rn_get hX inX4 0 rfl rfl 9 (by decide) fl83 rfl rfl dX4_readToken_70 73 rfl ?_
    refine rn_lat (fun u9 hu9 => ?_)
    refine rn_callV hX (gV mcC wd_429 wd_431 wd_2 wd_72 wd_432) rfl hdV_X4_refuse rfl rfl ⟨Nat.le_of_ble_eq_true rfl, Nat.le_of_ble_eq_true rfl⟩ (c_X4_refuse (zl Z) (zG Z) a_this a_draft a_tape g_lines g_fault g_faultAt g_placesTold g_greatestPlace g_next u7 g_next g_value (1 : Int32) g_next hu9) rfl [0] rfl rfl rfl (ci := 4) rfl rfl rfl (Nat.le_of_ble_eq_true rfl) dX4_readToken_73 76 rfl (wn := [(a_this, .inr (4, [.ref a_draft, .int g_lines, .int u9.2.1, .int u9.2.2, .ref a_tape, .int g_placesTold, .int g_greatestPlace, .int g_next, .int u7, .int g_next, .int g_value])), (a_tape, .inr (9, [.int g_tape_length, .ref a_tape_bytes])), (a_tape_bytes, .inl ((zG Z).2.1 0, 320, .inl g_tape_bytes))]) rfl (S' := [.int u9.1]) rfl ⟨Nat.zero_le _, Nat.zero_le _⟩ ?_
    refine rn_gz (fun hz10 => ?_)
    exact rn_zret hX (nar_z hz10) hr (by rw [henc]; rfl) dX4_readToken_76
  have hB0 : ∀ (again : Int32 → Int32 → Int32 → Int32 → Int32 → Int32 → Option (Int32 × Int32 × Int32 × Int32 × Int32 × Int32 × Int32)) (k39 : Int32 → Int32 → Int32 → Int32 → Int32 → Int32 → Option (Int32 × Int32 × Int32 × Int32 × Int32 × Int32 × Int32)) (hagain : ∀ (g_fault : Int32) (g_faultAt : Int32) (g_kind : Int32) (g_next : Int32) (g_start : Int32) (g_value : Int32), Rn Z 1 (Option.map enc) 0 0 0 [(0, .ref a_this)] [] [(a_this, .inr (4, [.ref a_draft, .int g_lines, .int g_fault, .int g_faultAt, .ref a_tape, .int g_placesTold, .int g_greatestPlace, .int g_next, .int g_kind, .int g_start, .int g_value])), (a_tape, .inr (9, [.int g_tape_length, .ref a_tape_bytes])), (a_tape_bytes, .inl ((zG Z).2.1 0, 320, .inl g_tape_bytes))] (again g_fault g_faultAt g_kind g_next g_start g_value)) (hk39 : ∀ (g_fault : Int32) (g_faultAt : Int32) (g_kind : Int32) (g_next : Int32) (g_start : Int32) (g_value : Int32), Rn Z 1 (Option.map enc) 0 0 39 [(0, .ref a_this)] [] [(a_this, .inr (4, [.ref a_draft, .int g_lines, .int g_fault, .int g_faultAt, .ref a_tape, .int g_placesTold, .int g_greatestPlace, .int g_next, .int g_kind, .int g_start, .int g_value])), (a_tape, .inr (9, [.int g_tape_length, .ref a_tape_bytes])), (a_tape_bytes, .inl ((zG Z).2.1 0, 320, .inl g_tape_bytes))] (k39 g_fault g_faultAt g_kind g_next g_start g_value)) (g_fault : Int32) (g_faultAt : Int32) (g_kind : Int32) (g_next : Int32) (g_start : Int32) (g_value : Int32), Rn Z 1 (Option.map enc) 0 0 0 [(0, .ref a_this)] [] [(a_this, .inr (4, [.ref a_draft, .int g_lines, .int g_fault, .int g_faultAt, .ref a_tape, .int g_placesTold, .int g_greatestPlace, .int g_next, .int g_kind, .int g_start, .int g_value])), (a_tape, .inr (9, [.int g_tape_length, .ref a_tape_bytes])), (a_tape_bytes, .inl ((zG Z).2.1 0, 320, .inl g_tape_bytes))] (X4_readToken_B0 g_tape_length g_tape_bytes again k39 g_fault g_faultAt g_kind g_next g_start g_value) := by
    intro again k39 hagain hk39 g_fault g_faultAt g_kind g_next g_start g_value
    unfold X4_readToken_B0
    refine rn_aload_n hX dX4_readToken_0 0 rfl 1 rfl ?_
    refine rn_get hX inX4 0 rfl rfl 7 (by decide) fl42 rfl rfl dX4_readToken_1 4 rfl ?_
    refine rn_aload_n hX dX4_readToken_4 0 rfl 5 rfl ?_
    refine rn_get hX inX4 0 rfl rfl 4 (by decide) fl9 rfl rfl dX4_readToken_5 8 rfl ?_
    refine rn_get hX inX9 1 rfl rfl 0 (by decide) fl58 rfl rfl dX4_readToken_8 11 rfl ?_
    refine rn_icmp_ge hX dX4_readToken_11 39 (by decide) 14 rfl ?_ ?_
    · exact hk39 g_fault g_faultAt g_kind g_next g_start g_value
    refine rn_aload_n hX dX4_readToken_14 0 rfl 15 rfl ?_
    refine rn_aload_n hX dX4_readToken_15 0 rfl 16 rfl ?_
    refine rn_get hX inX4 0 rfl rfl 7 (by decide) fl42 rfl rfl dX4_readToken_16 19 rfl ?_
    refine rn_bind (fun u11 hu11 => ?_)
    refine rn_callV0 hX (gV mcC wd_425 wd_427 wd_1 wd_72 wd_428) rfl hdV_X4_kindAt rfl rfl ⟨Nat.le_of_ble_eq_true rfl, Nat.le_of_ble_eq_true rfl⟩ (c_X4_kindAt (zl Z) (zG Z) a_this a_tape a_tape_bytes a_draft g_lines g_fault g_faultAt g_placesTold g_greatestPlace g_next g_kind g_start g_value g_tape_length g_tape_bytes g_next hu11) rfl [0, 1, 2] rfl rfl (ci := 4) rfl rfl rfl (Nat.le_of_ble_eq_true rfl) dX4_readToken_19 22 rfl (S' := [.int u11]) rfl ⟨Nat.zero_le _, Nat.zero_le _⟩ ?_
    refine rn_iconst hX dX4_readToken_22 23 rfl ic_1 ?_
    refine rn_icmp_ne hX dX4_readToken_23 39 (by decide) 26 rfl ?_ ?_
    · exact hk39 g_fault g_faultAt g_kind g_next g_start g_value
    refine rn_aload_n hX dX4_readToken_26 0 rfl 27 rfl ?_
    refine rn_dup hX dX4_readToken_27 28 rfl rfl ?_
    refine rn_get hX inX4 0 rfl rfl 7 (by decide) fl42 rfl rfl dX4_readToken_28 31 rfl ?_
    refine rn_iconst hX dX4_readToken_31 32 rfl ic_1 ?_
    refine rn_iadd hX dX4_readToken_32 33 rfl ?_
    refine rn_lati (fun v12 => ?_)
    refine rn_put hX inX4 tyX4_ok nmX4 0 rfl rfl 7 (by decide) fl42 rfl rfl rfl rfl (Nat.le_of_ble_eq_true rfl) dX4_readToken_33 36 rfl (w1 := [(a_this, .inr (4, [.ref a_draft, .int g_lines, .int g_fault, .int g_faultAt, .ref a_tape, .int g_placesTold, .int g_greatestPlace, .int v12, .int g_kind, .int g_start, .int g_value])), (a_tape, .inr (9, [.int g_tape_length, .ref a_tape_bytes])), (a_tape_bytes, .inl ((zG Z).2.1 0, 320, .inl g_tape_bytes))]) rfl ?_
    refine rn_goto hX dX4_readToken_36 0 (by decide) ?_
    exact hagain g_fault g_faultAt g_kind v12 g_start g_value
  have hL0 : ∀ (k39 : Int32 → Int32 → Int32 → Int32 → Int32 → Int32 → Option (Int32 × Int32 × Int32 × Int32 × Int32 × Int32 × Int32)) (hk39 : ∀ (g_fault : Int32) (g_faultAt : Int32) (g_kind : Int32) (g_next : Int32) (g_start : Int32) (g_value : Int32), Rn Z 1 (Option.map enc) 0 0 39 [(0, .ref a_this)] [] [(a_this, .inr (4, [.ref a_draft, .int g_lines, .int g_fault, .int g_faultAt, .ref a_tape, .int g_placesTold, .int g_greatestPlace, .int g_next, .int g_kind, .int g_start, .int g_value])), (a_tape, .inr (9, [.int g_tape_length, .ref a_tape_bytes])), (a_tape_bytes, .inl ((zG Z).2.1 0, 320, .inl g_tape_bytes))] (k39 g_fault g_faultAt g_kind g_next g_start g_value)) (n : Nat) (g_fault : Int32) (g_faultAt : Int32) (g_kind : Int32) (g_next : Int32) (g_start : Int32) (g_value : Int32), Rn Z 1 (Option.map enc) 0 0 0 [(0, .ref a_this)] [] [(a_this, .inr (4, [.ref a_draft, .int g_lines, .int g_fault, .int g_faultAt, .ref a_tape, .int g_placesTold, .int g_greatestPlace, .int g_next, .int g_kind, .int g_start, .int g_value])), (a_tape, .inr (9, [.int g_tape_length, .ref a_tape_bytes])), (a_tape_bytes, .inl ((zG Z).2.1 0, 320, .inl g_tape_bytes))] (X4_readToken_L0 g_tape_length g_tape_bytes k39 n g_fault g_faultAt g_kind g_next g_start g_value) := by
    intro k39 hk39 n
    induction n with
    | zero => intros; exact rn_none
    | succ n ih => exact hB0 _ _ ih hk39
  unfold X4_readToken
  exact (hL0 _ hJ39 1000) g_fault g_faultAt g_kind g_next g_start g_value
abbrev rmX4_isName : Room := { frames := 4, cells := 0, slots := 0, locals := 85 }
theorem hdV_X4_isName : yX4_isName.cls = RX4 ∧ yX4_isName.cls ≠ "java/lang/invoke/MethodHandle" ∧ yX4_isName.cls ≠ "java/lang/invoke/VarHandle" ∧ (parseMethodDescriptor yX4_isName.desc).map (fun d => d.parameters.length) = some 1 := by decide +kernel
set_option maxHeartbeats 4000000 in
set_option maxRecDepth 100000 in
theorem c_X4_isName (l : Launch) (G : GT) (a_this a_tape a_tape_bytes a_draft : Nat) (g_lines : Int32) (g_fault : Int32) (g_faultAt : Int32) (g_placesTold : Int32) (g_greatestPlace : Int32) (g_next : Int32) (g_kind : Int32) (g_start : Int32) (g_value : Int32) (g_tape_length : Int32) (g_tape_bytes : (Nat → Int32)) (kx : Nat) (hk : kx < 2) {u : Int32} (hu : X4_isName kx g_kind g_next g_start g_tape_length g_tape_bytes = some u) : Ctr l G yX4_isName wsX4_isName rmX4_isName [.ref a_this, .ref (G.2.2.1 kx)] [(a_this, .inr (4, [.ref a_draft, .int g_lines, .int g_fault, .int g_faultAt, .ref a_tape, .int g_placesTold, .int g_greatestPlace, .int g_next, .int g_kind, .int g_start, .int g_value])), (a_tape, .inr (9, [.int g_tape_length, .ref a_tape_bytes])), (a_tape_bytes, .inl (G.2.1 0, 320, .inl g_tape_bytes))] (some (.int u)) [(a_this, .inr (4, [.ref a_draft, .int g_lines, .int g_fault, .int g_faultAt, .ref a_tape, .int g_placesTold, .int g_greatestPlace, .int g_next, .int g_kind, .int g_start, .int g_value])), (a_tape, .inr (9, [.int g_tape_length, .ref a_tape_bytes])), (a_tape_bytes, .inl (G.2.1 0, 320, .inl g_tape_bytes))] := by
  obtain ⟨enc, henc⟩ : ∃ enc : (Int32) → Option Value × va_W, enc = fun u => (((some (.int u)) : Option Value), ([(a_this, .inr (4, [.ref a_draft, .int g_lines, .int g_fault, .int g_faultAt, .ref a_tape, .int g_placesTold, .int g_greatestPlace, .int g_next, .int g_kind, .int g_start, .int g_value])), (a_tape, .inr (9, [.int g_tape_length, .ref a_tape_bytes])), (a_tape_bytes, .inl (G.2.1 0, 320, .inl g_tape_bytes))] : va_W)) := ⟨_, rfl⟩
  refine ctr_of (cc := cX4_isName) (own := RX4) (E := Option.map enc) (o := X4_isName kx g_kind g_next g_start g_tape_length g_tape_bytes) (by decide) rfl rfl (L := [(0, .ref a_this), (1, .ref (G.2.2.1 kx))]) rfl (Nat.le_of_ble_eq_true rfl) (by rw [hu, henc]; rfl) ?_
  intro Z hX hl hG hr
  subst hl; subst hG
  have fl42 : (Cond.fieldLink RX4 42 "OnlyFar$Reader" "next" "I").before (za Z) (zs Z) = true := hX.wd (mcC _ wd_152)
  have fl49 : (Cond.fieldLink RX4 49 "OnlyFar$Reader" "kind" "I").before (za Z) (zs Z) = true := hX.wd (mcC _ wd_153)
  have fl83 : (Cond.fieldLink RX4 83 "OnlyFar$Reader" "start" "I").before (za Z) (zs Z) = true := hX.wd (mcC _ wd_154)
  have fl9 : (Cond.fieldLink RX4 9 "OnlyFar$Reader" "tape" "LOnlyFar$Tape;").before (za Z) (zs Z) = true := hX.wd (mcC _ wd_149)
  have inX4 : ∀ w ∈ u_ws RX4 TX4 11, w ∈ wsX4_isName := fun w h => mcC w (inC_X4 w h)
  have hB28 : ∀ (again : Int32 → Option (Int32)) (hagain : ∀ (x2 : Int32), Rn Z 3 (Option.map enc) 0 0 28 [(0, .ref a_this), (1, .ref ((zG Z).2.2.1 kx)), (2, .int x2)] [] [(a_this, .inr (4, [.ref a_draft, .int g_lines, .int g_fault, .int g_faultAt, .ref a_tape, .int g_placesTold, .int g_greatestPlace, .int g_next, .int g_kind, .int g_start, .int g_value])), (a_tape, .inr (9, [.int g_tape_length, .ref a_tape_bytes])), (a_tape_bytes, .inl ((zG Z).2.1 0, 320, .inl g_tape_bytes))] (again x2)) (x2 : Int32), Rn Z 3 (Option.map enc) 0 0 28 [(0, .ref a_this), (1, .ref ((zG Z).2.2.1 kx)), (2, .int x2)] [] [(a_this, .inr (4, [.ref a_draft, .int g_lines, .int g_fault, .int g_faultAt, .ref a_tape, .int g_placesTold, .int g_greatestPlace, .int g_next, .int g_kind, .int g_start, .int g_value])), (a_tape, .inr (9, [.int g_tape_length, .ref a_tape_bytes])), (a_tape_bytes, .inl ((zG Z).2.1 0, 320, .inl g_tape_bytes))] (X4_isName_B28 kx g_start g_tape_length g_tape_bytes again x2) := by
    intro again hagain x2
    unfold X4_isName_B28
    refine rn_iload_n hX dX4_isName_28 2 rfl 29 rfl ?_
    refine rn_aload_n hX dX4_isName_29 1 rfl 30 rfl ?_
    refine rn_callVS hX (gV mcC wd_446 wd_447 wd_448 wd_83 wd_449) rfl hdV_J0_length_8abf5 rfl rfl ⟨Nat.le_of_ble_eq_true rfl, Nat.le_of_ble_eq_true rfl⟩ hk (c_J0_length_8abf5 (zl Z) (zG Z) kx hk) rfl [] rfl rfl rfl (Nat.le_of_ble_eq_true rfl) dX4_isName_30 33 rfl (S' := [.int (sLen kx), .int x2]) rfl ⟨Nat.zero_le _, Nat.zero_le _⟩ ?_
    refine rn_icmp_ge hX dX4_isName_33 65 (by decide) 36 rfl ?_ ?_
    · refine rn_iconst hX dX4_isName_65 66 rfl ic_1 ?_
      exact rn_zret hX rfl hr (by rw [henc]; rfl) dX4_isName_66
    refine rn_aload_n hX dX4_isName_36 0 rfl 37 rfl ?_
    refine rn_get hX inX4 0 rfl rfl 4 (by decide) fl9 rfl rfl dX4_isName_37 40 rfl ?_
    refine rn_aload_n hX dX4_isName_40 0 rfl 41 rfl ?_
    refine rn_get hX inX4 0 rfl rfl 9 (by decide) fl83 rfl rfl dX4_isName_41 44 rfl ?_
    refine rn_iload_n hX dX4_isName_44 2 rfl 45 rfl ?_
    refine rn_iadd hX dX4_isName_45 46 rfl ?_
    refine rn_bind (fun u1 hu1 => ?_)
    refine rn_callV0 hX (gV mcC wd_433 wd_434 wd_435 wd_71 wd_436) rfl hdV_X9_byteAt rfl rfl ⟨Nat.le_of_ble_eq_true rfl, Nat.le_of_ble_eq_true rfl⟩ (c_X9_byteAt (zl Z) (zG Z) a_tape a_tape_bytes g_tape_length g_tape_bytes (g_start + x2) hu1) rfl [1, 2] rfl rfl (ci := 9) rfl rfl rfl (Nat.le_of_ble_eq_true rfl) dX4_isName_46 49 rfl (S' := [.int u1]) rfl ⟨Nat.zero_le _, Nat.zero_le _⟩ ?_
    refine rn_aload_n hX dX4_isName_49 1 rfl 50 rfl ?_
    refine rn_iload_n hX dX4_isName_50 2 rfl 51 rfl ?_
    refine rn_bind (fun u2 hu2 => ?_)
    refine rn_callVS hX (gV mcC wd_456 wd_457 wd_458 wd_83 wd_459) rfl hdV_J0_charAt_5068e rfl rfl ⟨Nat.le_of_ble_eq_true rfl, Nat.le_of_ble_eq_true rfl⟩ hk (c_J0_charAt_5068e (zl Z) (zG Z) kx hk x2 hu2) rfl [] rfl rfl rfl (Nat.le_of_ble_eq_true rfl) dX4_isName_51 54 rfl (S' := [.int u2, .int u1]) rfl ⟨Nat.zero_le _, Nat.zero_le _⟩ ?_
    refine rn_icmp_eq hX dX4_isName_54 59 (by decide) 57 rfl ?_ ?_
    · refine rn_iinc hX dX4_isName_59 2 rfl ic_1 (by decide) (L' := fun v3 => [(2, .int v3), (0, .ref a_this), (1, .ref ((zG Z).2.2.1 kx))]) (fun _ => rfl) 62 rfl (fun v3 => ?_)
      refine rn_goto hX dX4_isName_62 28 (by decide) ?_
      refine rn_sub [1, 2, 0] rfl ?_
      exact hagain v3
    refine rn_iconst hX dX4_isName_57 58 rfl ic_0 ?_
    exact rn_zret hX rfl hr (by rw [henc]; rfl) dX4_isName_58
  have hL28 : ∀ (n : Nat) (x2 : Int32), Rn Z 3 (Option.map enc) 0 0 28 [(0, .ref a_this), (1, .ref ((zG Z).2.2.1 kx)), (2, .int x2)] [] [(a_this, .inr (4, [.ref a_draft, .int g_lines, .int g_fault, .int g_faultAt, .ref a_tape, .int g_placesTold, .int g_greatestPlace, .int g_next, .int g_kind, .int g_start, .int g_value])), (a_tape, .inr (9, [.int g_tape_length, .ref a_tape_bytes])), (a_tape_bytes, .inl ((zG Z).2.1 0, 320, .inl g_tape_bytes))] (X4_isName_L28 kx g_start g_tape_length g_tape_bytes n x2) := by
    intro n
    induction n with
    | zero => intros; exact rn_none
    | succ n ih => exact hB28 _ ih
  unfold X4_isName
  refine rn_aload_n hX dX4_isName_0 0 rfl 1 rfl ?_
  refine rn_get hX inX4 0 rfl rfl 8 (by decide) fl49 rfl rfl dX4_isName_1 4 rfl ?_
  refine rn_iconst hX dX4_isName_4 5 rfl ic_2 ?_
  refine rn_icmp_ne hX dX4_isName_5 24 (by decide) 8 rfl ?_ ?_
  · refine rn_iconst hX dX4_isName_24 25 rfl ic_0 ?_
    exact rn_zret hX rfl hr (by rw [henc]; rfl) dX4_isName_25
  refine rn_aload_n hX dX4_isName_8 0 rfl 9 rfl ?_
  refine rn_get hX inX4 0 rfl rfl 7 (by decide) fl42 rfl rfl dX4_isName_9 12 rfl ?_
  refine rn_aload_n hX dX4_isName_12 0 rfl 13 rfl ?_
  refine rn_get hX inX4 0 rfl rfl 9 (by decide) fl83 rfl rfl dX4_isName_13 16 rfl ?_
  refine rn_isub hX dX4_isName_16 17 rfl ?_
  refine rn_aload_n hX dX4_isName_17 1 rfl 18 rfl ?_
  refine rn_callVS hX (gV mcC wd_446 wd_447 wd_448 wd_83 wd_449) rfl hdV_J0_length_8abf5 rfl rfl ⟨Nat.le_of_ble_eq_true rfl, Nat.le_of_ble_eq_true rfl⟩ hk (c_J0_length_8abf5 (zl Z) (zG Z) kx hk) rfl [] rfl rfl rfl (Nat.le_of_ble_eq_true rfl) dX4_isName_18 21 rfl (S' := [.int (sLen kx), .int (g_next - g_start)]) rfl ⟨Nat.zero_le _, Nat.zero_le _⟩ ?_
  refine rn_icmp_eq hX dX4_isName_21 26 (by decide) 24 rfl ?_ ?_
  · refine rn_iconst hX dX4_isName_26 27 rfl ic_0 ?_
    refine rn_istore_n hX dX4_isName_27 2 rfl (by decide) (L' := [(2, .int (0 : Int32)), (0, .ref a_this), (1, .ref ((zG Z).2.2.1 kx))]) rfl 28 rfl ?_
    refine rn_sub [1, 2, 0] rfl ?_
    exact (hL28  1000) (0 : Int32)
  refine rn_iconst hX dX4_isName_24 25 rfl ic_0 ?_
  exact rn_zret hX rfl hr (by rw [henc]; rfl) dX4_isName_25
abbrev rmX4_readNumber : Room := { frames := 2, cells := 0, slots := 0, locals := 42 }
theorem hdV_X4_readNumber : yX4_readNumber.cls = RX4 ∧ yX4_readNumber.cls ≠ "java/lang/invoke/MethodHandle" ∧ yX4_readNumber.cls ≠ "java/lang/invoke/VarHandle" ∧ (parseMethodDescriptor yX4_readNumber.desc).map (fun d => d.parameters.length) = some 2 := by decide +kernel
set_option maxHeartbeats 4000000 in
set_option maxRecDepth 100000 in
theorem c_X4_readNumber (l : Launch) (G : GT) (a_this a_tape a_tape_bytes a_draft : Nat) (g_lines : Int32) (g_fault : Int32) (g_faultAt : Int32) (g_placesTold : Int32) (g_greatestPlace : Int32) (g_next : Int32) (g_kind : Int32) (g_start : Int32) (g_value : Int32) (g_tape_length : Int32) (g_tape_bytes : (Nat → Int32)) (x1 : Int32) (x2 : Int32) {u : Int32 × Int32 × Int32 × Int32 × Int32 × Int32 × Int32} (hu : X4_readNumber x1 x2 g_fault g_faultAt g_kind g_next g_start g_value g_tape_length g_tape_bytes = some u) : Ctr l G yX4_readNumber wsX4_readNumber rmX4_readNumber [.ref a_this, .int x1, .int x2] [(a_this, .inr (4, [.ref a_draft, .int g_lines, .int g_fault, .int g_faultAt, .ref a_tape, .int g_placesTold, .int g_greatestPlace, .int g_next, .int g_kind, .int g_start, .int g_value])), (a_tape, .inr (9, [.int g_tape_length, .ref a_tape_bytes])), (a_tape_bytes, .inl (G.2.1 0, 320, .inl g_tape_bytes))] (some (.int u.1)) [(a_this, .inr (4, [.ref a_draft, .int g_lines, .int u.2.1, .int u.2.2.1, .ref a_tape, .int g_placesTold, .int g_greatestPlace, .int u.2.2.2.2.1, .int u.2.2.2.1, .int u.2.2.2.2.2.1, .int u.2.2.2.2.2.2])), (a_tape, .inr (9, [.int g_tape_length, .ref a_tape_bytes])), (a_tape_bytes, .inl (G.2.1 0, 320, .inl g_tape_bytes))] := by
  obtain ⟨enc, henc⟩ : ∃ enc : (Int32 × Int32 × Int32 × Int32 × Int32 × Int32 × Int32) → Option Value × va_W, enc = fun u => (((some (.int u.1)) : Option Value), ([(a_this, .inr (4, [.ref a_draft, .int g_lines, .int u.2.1, .int u.2.2.1, .ref a_tape, .int g_placesTold, .int g_greatestPlace, .int u.2.2.2.2.1, .int u.2.2.2.1, .int u.2.2.2.2.2.1, .int u.2.2.2.2.2.2])), (a_tape, .inr (9, [.int g_tape_length, .ref a_tape_bytes])), (a_tape_bytes, .inl (G.2.1 0, 320, .inl g_tape_bytes))] : va_W)) := ⟨_, rfl⟩
  refine ctr_of (cc := cX4_readNumber) (own := RX4) (E := Option.map enc) (o := X4_readNumber x1 x2 g_fault g_faultAt g_kind g_next g_start g_value g_tape_length g_tape_bytes) (by decide) rfl rfl (L := [(0, .ref a_this), (1, .int x1), (2, .int x2)]) rfl (Nat.le_of_ble_eq_true rfl) (by rw [hu, henc]; rfl) ?_
  intro Z hX hl hG hr
  subst hl; subst hG
  have fl49 : (Cond.fieldLink RX4 49 "OnlyFar$Reader" "kind" "I").before (za Z) (zs Z) = true := hX.wd (mcC _ wd_153)
  have fl83 : (Cond.fieldLink RX4 83 "OnlyFar$Reader" "start" "I").before (za Z) (zs Z) = true := hX.wd (mcC _ wd_154)
  have fl89 : (Cond.fieldLink RX4 89 "OnlyFar$Reader" "value" "I").before (za Z) (zs Z) = true := hX.wd (mcC _ wd_155)
  have inX4 : ∀ w ∈ u_ws RX4 TX4 11, w ∈ wsX4_readNumber := fun w h => mcC w (inC_X4 w h)
  have hJ43 : ∀ (g_fault : Int32) (g_faultAt : Int32) (g_kind : Int32) (g_next : Int32) (g_start : Int32) (g_value : Int32), Rn Z 3 (Option.map enc) 0 0 43 [(0, .ref a_this)] [] [(a_this, .inr (4, [.ref a_draft, .int g_lines, .int g_fault, .int g_faultAt, .ref a_tape, .int g_placesTold, .int g_greatestPlace, .int g_next, .int g_kind, .int g_start, .int g_value])), (a_tape, .inr (9, [.int g_tape_length, .ref a_tape_bytes])), (a_tape_bytes, .inl ((zG Z).2.1 0, 320, .inl g_tape_bytes))] (X4_readNumber_J43 g_fault g_faultAt g_kind g_next g_start g_value) := by
    intro g_fault g_faultAt g_kind g_next g_start g_value
    unfold X4_readNumber_J43
    refine rn_aload_n hX dX4_readNumber_43 0 rfl 44 rfl ?_
    refine rn_iconst hX dX4_readNumber_44 45 rfl ic_3 ?_
    refine rn_aload_n hX dX4_readNumber_45 0 rfl 46 rfl ?_
    refine rn_get hX inX4 0 rfl rfl 9 (by decide) fl83 rfl rfl dX4_readNumber_46 49 rfl ?_
    refine rn_lat (fun u1 hu1 => ?_)
    refine rn_callV hX (gV mcC wd_429 wd_431 wd_2 wd_72 wd_432) rfl hdV_X4_refuse rfl rfl ⟨Nat.le_of_ble_eq_true rfl, Nat.le_of_ble_eq_true rfl⟩ (c_X4_refuse (zl Z) (zG Z) a_this a_draft a_tape g_lines g_fault g_faultAt g_placesTold g_greatestPlace g_next g_kind g_start g_value (3 : Int32) g_start hu1) rfl [0] rfl rfl rfl (ci := 4) rfl rfl rfl (Nat.le_of_ble_eq_true rfl) dX4_readNumber_49 52 rfl (wn := [(a_this, .inr (4, [.ref a_draft, .int g_lines, .int u1.2.1, .int u1.2.2, .ref a_tape, .int g_placesTold, .int g_greatestPlace, .int g_next, .int g_kind, .int g_start, .int g_value])), (a_tape, .inr (9, [.int g_tape_length, .ref a_tape_bytes])), (a_tape_bytes, .inl ((zG Z).2.1 0, 320, .inl g_tape_bytes))]) rfl (S' := [.int u1.1]) rfl ⟨Nat.zero_le _, Nat.zero_le _⟩ ?_
    refine rn_gz (fun hz2 => ?_)
    exact rn_zret hX (nar_z hz2) hr (by rw [henc]; rfl) dX4_readNumber_52
  unfold X4_readNumber
  refine rn_aload_n hX dX4_readNumber_0 0 rfl 1 rfl ?_
  refine rn_bind (fun u3 hu3 => ?_)
  refine rn_callV hX (gV mcC wd_421 wd_423 wd_0 wd_72 wd_424) rfl hdV_X4_readToken rfl rfl ⟨Nat.le_of_ble_eq_true rfl, Nat.le_of_ble_eq_true rfl⟩ (c_X4_readToken (zl Z) (zG Z) a_this a_tape a_tape_bytes a_draft g_lines g_fault g_faultAt g_placesTold g_greatestPlace g_next g_kind g_start g_value g_tape_length g_tape_bytes hu3) rfl [0, 1, 2] rfl rfl rfl (ci := 4) rfl rfl rfl (Nat.le_of_ble_eq_true rfl) dX4_readNumber_1 4 rfl (wn := [(a_this, .inr (4, [.ref a_draft, .int g_lines, .int u3.2.1, .int u3.2.2.1, .ref a_tape, .int g_placesTold, .int g_greatestPlace, .int u3.2.2.2.2.1, .int u3.2.2.2.1, .int u3.2.2.2.2.2.1, .int u3.2.2.2.2.2.2])), (a_tape, .inr (9, [.int g_tape_length, .ref a_tape_bytes])), (a_tape_bytes, .inl ((zG Z).2.1 0, 320, .inl g_tape_bytes))]) rfl (S' := [.int u3.1]) rfl ⟨Nat.zero_le _, Nat.zero_le _⟩ ?_
  refine rn_if_ne hX dX4_readNumber_4 9 (by decide) 7 rfl ?_ ?_
  · refine rn_aload_n hX dX4_readNumber_9 0 rfl 10 rfl ?_
    refine rn_get hX inX4 0 rfl rfl 8 (by decide) fl49 rfl rfl dX4_readNumber_10 13 rfl ?_
    refine rn_iconst hX dX4_readNumber_13 14 rfl ic_3 ?_
    refine rn_icmp_eq hX dX4_readNumber_14 27 (by decide) 17 rfl ?_ ?_
    · refine rn_aload_n hX dX4_readNumber_27 0 rfl 28 rfl ?_
      refine rn_get hX inX4 0 rfl rfl 10 (by decide) fl89 rfl rfl dX4_readNumber_28 31 rfl ?_
      refine rn_iload_n hX dX4_readNumber_31 1 rfl 32 rfl ?_
      refine rn_icmp_lt hX dX4_readNumber_32 43 (by decide) 35 rfl ?_ ?_
      · refine rn_sub [0] rfl ?_
        exact hJ43 u3.2.1 u3.2.2.1 u3.2.2.2.1 u3.2.2.2.2.1 u3.2.2.2.2.2.1 u3.2.2.2.2.2.2
      refine rn_aload_n hX dX4_readNumber_35 0 rfl 36 rfl ?_
      refine rn_get hX inX4 0 rfl rfl 10 (by decide) fl89 rfl rfl dX4_readNumber_36 39 rfl ?_
      refine rn_iload_n hX dX4_readNumber_39 2 rfl 40 rfl ?_
      refine rn_icmp_le hX dX4_readNumber_40 53 (by decide) 43 rfl ?_ ?_
      · refine rn_iconst hX dX4_readNumber_53 54 rfl ic_1 ?_
        exact rn_zret hX rfl hr (by rw [henc]; rfl) dX4_readNumber_54
      refine rn_sub [0] rfl ?_
      exact hJ43 u3.2.1 u3.2.2.1 u3.2.2.2.1 u3.2.2.2.2.1 u3.2.2.2.2.2.1 u3.2.2.2.2.2.2
    refine rn_aload_n hX dX4_readNumber_17 0 rfl 18 rfl ?_
    refine rn_iconst hX dX4_readNumber_18 19 rfl ic_2 ?_
    refine rn_aload_n hX dX4_readNumber_19 0 rfl 20 rfl ?_
    refine rn_get hX inX4 0 rfl rfl 9 (by decide) fl83 rfl rfl dX4_readNumber_20 23 rfl ?_
    refine rn_lat (fun u4 hu4 => ?_)
    refine rn_callV hX (gV mcC wd_429 wd_431 wd_2 wd_72 wd_432) rfl hdV_X4_refuse rfl rfl ⟨Nat.le_of_ble_eq_true rfl, Nat.le_of_ble_eq_true rfl⟩ (c_X4_refuse (zl Z) (zG Z) a_this a_draft a_tape g_lines u3.2.1 u3.2.2.1 g_placesTold g_greatestPlace u3.2.2.2.2.1 u3.2.2.2.1 u3.2.2.2.2.2.1 u3.2.2.2.2.2.2 (2 : Int32) u3.2.2.2.2.2.1 hu4) rfl [0] rfl rfl rfl (ci := 4) rfl rfl rfl (Nat.le_of_ble_eq_true rfl) dX4_readNumber_23 26 rfl (wn := [(a_this, .inr (4, [.ref a_draft, .int g_lines, .int u4.2.1, .int u4.2.2, .ref a_tape, .int g_placesTold, .int g_greatestPlace, .int u3.2.2.2.2.1, .int u3.2.2.2.1, .int u3.2.2.2.2.2.1, .int u3.2.2.2.2.2.2])), (a_tape, .inr (9, [.int g_tape_length, .ref a_tape_bytes])), (a_tape_bytes, .inl ((zG Z).2.1 0, 320, .inl g_tape_bytes))]) rfl (S' := [.int u4.1]) rfl ⟨Nat.zero_le _, Nat.zero_le _⟩ ?_
    refine rn_gz (fun hz5 => ?_)
    exact rn_zret hX (nar_z hz5) hr (by rw [henc]; rfl) dX4_readNumber_26
  refine rn_iconst hX dX4_readNumber_7 8 rfl ic_0 ?_
  exact rn_zret hX rfl hr (by rw [henc]; rfl) dX4_readNumber_8
abbrev rmX4_readPlaces : Room := { frames := 3, cells := 0, slots := 0, locals := 64 }
theorem hdV_X4_readPlaces : yX4_readPlaces.cls = RX4 ∧ yX4_readPlaces.cls ≠ "java/lang/invoke/MethodHandle" ∧ yX4_readPlaces.cls ≠ "java/lang/invoke/VarHandle" ∧ (parseMethodDescriptor yX4_readPlaces.desc).map (fun d => d.parameters.length) = some 0 := by decide +kernel
set_option maxHeartbeats 4000000 in
set_option maxRecDepth 100000 in
theorem c_X4_readPlaces (l : Launch) (G : GT) (a_this a_draft a_tape a_tape_bytes a_draft_squares : Nat) (g_lines : Int32) (g_fault : Int32) (g_faultAt : Int32) (g_placesTold : Int32) (g_greatestPlace : Int32) (g_next : Int32) (g_kind : Int32) (g_start : Int32) (g_value : Int32) (g_draft_places : Int32) (g_tape_length : Int32) (g_tape_bytes : (Nat → Int32)) {u : Int32 × Int32 × Int32 × Int32 × Int32 × Int32 × Int32 × Int32 × Int32} (hu : X4_readPlaces g_fault g_faultAt g_kind g_next g_placesTold g_start g_value g_draft_places g_tape_length g_tape_bytes = some u) : Ctr l G yX4_readPlaces wsX4_readPlaces rmX4_readPlaces [.ref a_this] [(a_this, .inr (4, [.ref a_draft, .int g_lines, .int g_fault, .int g_faultAt, .ref a_tape, .int g_placesTold, .int g_greatestPlace, .int g_next, .int g_kind, .int g_start, .int g_value])), (a_draft, .inr (8, [.int g_draft_places, .ref a_draft_squares])), (a_tape, .inr (9, [.int g_tape_length, .ref a_tape_bytes])), (a_tape_bytes, .inl (G.2.1 0, 320, .inl g_tape_bytes))] (some (.int u.1)) [(a_this, .inr (4, [.ref a_draft, .int g_lines, .int u.2.1, .int u.2.2.1, .ref a_tape, .int u.2.2.2.2.2.1, .int g_greatestPlace, .int u.2.2.2.2.1, .int u.2.2.2.1, .int u.2.2.2.2.2.2.1, .int u.2.2.2.2.2.2.2.1])), (a_draft, .inr (8, [.int u.2.2.2.2.2.2.2.2, .ref a_draft_squares])), (a_tape, .inr (9, [.int g_tape_length, .ref a_tape_bytes])), (a_tape_bytes, .inl (G.2.1 0, 320, .inl g_tape_bytes))] := by
  obtain ⟨enc, henc⟩ : ∃ enc : (Int32 × Int32 × Int32 × Int32 × Int32 × Int32 × Int32 × Int32 × Int32) → Option Value × va_W, enc = fun u => (((some (.int u.1)) : Option Value), ([(a_this, .inr (4, [.ref a_draft, .int g_lines, .int u.2.1, .int u.2.2.1, .ref a_tape, .int u.2.2.2.2.2.1, .int g_greatestPlace, .int u.2.2.2.2.1, .int u.2.2.2.1, .int u.2.2.2.2.2.2.1, .int u.2.2.2.2.2.2.2.1])), (a_draft, .inr (8, [.int u.2.2.2.2.2.2.2.2, .ref a_draft_squares])), (a_tape, .inr (9, [.int g_tape_length, .ref a_tape_bytes])), (a_tape_bytes, .inl (G.2.1 0, 320, .inl g_tape_bytes))] : va_W)) := ⟨_, rfl⟩
  refine ctr_of (cc := cX4_readPlaces) (own := RX4) (E := Option.map enc) (o := X4_readPlaces g_fault g_faultAt g_kind g_next g_placesTold g_start g_value g_draft_places g_tape_length g_tape_bytes) (by decide) rfl rfl (L := [(0, .ref a_this)]) rfl (Nat.le_of_ble_eq_true rfl) (by rw [hu, henc]; rfl) ?_
  intro Z hX hl hG hr
  subst hl; subst hG
  have fl18 : (Cond.fieldLink RX4 18 "OnlyFar$Reader" "draft" "LOnlyFar$Table;").before (za Z) (zs Z) = true := hX.wd (mcC _ wd_141)
  have fl35 : (Cond.fieldLink RX4 35 "OnlyFar$Reader" "placesTold" "Z").before (za Z) (zs Z) = true := hX.wd (mcC _ wd_150)
  have fl55 : (Cond.fieldLink RX4 55 "OnlyFar$Table" "places" "I").before (za Z) (zs Z) = true := hX.wd (mcC _ wd_131)
  have fl83 : (Cond.fieldLink RX4 83 "OnlyFar$Reader" "start" "I").before (za Z) (zs Z) = true := hX.wd (mcC _ wd_154)
  have fl89 : (Cond.fieldLink RX4 89 "OnlyFar$Reader" "value" "I").before (za Z) (zs Z) = true := hX.wd (mcC _ wd_155)
  have inX4 : ∀ w ∈ u_ws RX4 TX4 11, w ∈ wsX4_readPlaces := fun w h => mcC w (inC_X4 w h)
  have inX8 : ∀ w ∈ u_ws RX8 TX8 2, w ∈ wsX4_readPlaces := fun w h => mcC w (inC_X8 w h)
  unfold X4_readPlaces
  refine rn_aload_n hX dX4_readPlaces_0 0 rfl 1 rfl ?_
  refine rn_get hX inX4 0 rfl rfl 5 (by decide) fl35 rfl rfl dX4_readPlaces_1 4 rfl ?_
  refine rn_if_eq hX dX4_readPlaces_4 17 (by decide) 7 rfl ?_ ?_
  · refine rn_aload_n hX dX4_readPlaces_17 0 rfl 18 rfl ?_
    refine rn_iconst hX dX4_readPlaces_18 19 rfl ic_1 ?_
    refine rn_put hX inX4 tyX4_ok nmX4 0 rfl rfl 5 (by decide) fl35 rfl rfl rfl rfl (Nat.le_of_ble_eq_true rfl) dX4_readPlaces_19 22 rfl (w1 := [(a_this, .inr (4, [.ref a_draft, .int g_lines, .int g_fault, .int g_faultAt, .ref a_tape, .int (1 : Int32), .int g_greatestPlace, .int g_next, .int g_kind, .int g_start, .int g_value])), (a_draft, .inr (8, [.int g_draft_places, .ref a_draft_squares])), (a_tape, .inr (9, [.int g_tape_length, .ref a_tape_bytes])), (a_tape_bytes, .inl ((zG Z).2.1 0, 320, .inl g_tape_bytes))]) rfl ?_
    refine rn_aload_n hX dX4_readPlaces_22 0 rfl 23 rfl ?_
    refine rn_iconst hX dX4_readPlaces_23 24 rfl ic_2 ?_
    refine rn_bipush hX dX4_readPlaces_24 26 rfl bp_7 ?_
    refine rn_bind (fun u1 hu1 => ?_)
    refine rn_callV hX (gV mcC wd_498 wd_500 wd_6 wd_72 wd_501) rfl hdV_X4_readNumber rfl rfl ⟨Nat.le_of_ble_eq_true rfl, Nat.le_of_ble_eq_true rfl⟩ (c_X4_readNumber (zl Z) (zG Z) a_this a_tape a_tape_bytes a_draft g_lines g_fault g_faultAt (1 : Int32) g_greatestPlace g_next g_kind g_start g_value g_tape_length g_tape_bytes (2 : Int32) (7 : Int32) hu1) rfl [0, 2, 3] rfl rfl rfl (ci := 4) rfl rfl rfl (Nat.le_of_ble_eq_true rfl) dX4_readPlaces_26 29 rfl (wn := [(a_this, .inr (4, [.ref a_draft, .int g_lines, .int u1.2.1, .int u1.2.2.1, .ref a_tape, .int (1 : Int32), .int g_greatestPlace, .int u1.2.2.2.2.1, .int u1.2.2.2.1, .int u1.2.2.2.2.2.1, .int u1.2.2.2.2.2.2])), (a_draft, .inr (8, [.int g_draft_places, .ref a_draft_squares])), (a_tape, .inr (9, [.int g_tape_length, .ref a_tape_bytes])), (a_tape_bytes, .inl ((zG Z).2.1 0, 320, .inl g_tape_bytes))]) rfl (S' := [.int u1.1]) rfl ⟨Nat.zero_le _, Nat.zero_le _⟩ ?_
    refine rn_if_ne hX dX4_readPlaces_29 34 (by decide) 32 rfl ?_ ?_
    · refine rn_aload_n hX dX4_readPlaces_34 0 rfl 35 rfl ?_
      refine rn_get hX inX4 0 rfl rfl 0 (by decide) fl18 rfl rfl dX4_readPlaces_35 38 rfl ?_
      refine rn_aload_n hX dX4_readPlaces_38 0 rfl 39 rfl ?_
      refine rn_get hX inX4 0 rfl rfl 10 (by decide) fl89 rfl rfl dX4_readPlaces_39 42 rfl ?_
      refine rn_put hX inX8 tyX8_ok nmX8 1 rfl rfl 0 (by decide) fl55 rfl rfl rfl rfl (Nat.le_of_ble_eq_true rfl) dX4_readPlaces_42 45 rfl (w1 := [(a_this, .inr (4, [.ref a_draft, .int g_lines, .int u1.2.1, .int u1.2.2.1, .ref a_tape, .int (1 : Int32), .int g_greatestPlace, .int u1.2.2.2.2.1, .int u1.2.2.2.1, .int u1.2.2.2.2.2.1, .int u1.2.2.2.2.2.2])), (a_draft, .inr (8, [.int u1.2.2.2.2.2.2, .ref a_draft_squares])), (a_tape, .inr (9, [.int g_tape_length, .ref a_tape_bytes])), (a_tape_bytes, .inl ((zG Z).2.1 0, 320, .inl g_tape_bytes))]) rfl ?_
      refine rn_iconst hX dX4_readPlaces_45 46 rfl ic_1 ?_
      exact rn_zret hX rfl hr (by rw [henc]; rfl) dX4_readPlaces_46
    refine rn_iconst hX dX4_readPlaces_32 33 rfl ic_0 ?_
    exact rn_zret hX rfl hr (by rw [henc]; rfl) dX4_readPlaces_33
  refine rn_aload_n hX dX4_readPlaces_7 0 rfl 8 rfl ?_
  refine rn_iconst hX dX4_readPlaces_8 9 rfl ic_4 ?_
  refine rn_aload_n hX dX4_readPlaces_9 0 rfl 10 rfl ?_
  refine rn_get hX inX4 0 rfl rfl 9 (by decide) fl83 rfl rfl dX4_readPlaces_10 13 rfl ?_
  refine rn_lat (fun u2 hu2 => ?_)
  refine rn_callV hX (gV mcC wd_429 wd_431 wd_2 wd_72 wd_432) rfl hdV_X4_refuse rfl rfl ⟨Nat.le_of_ble_eq_true rfl, Nat.le_of_ble_eq_true rfl⟩ (c_X4_refuse (zl Z) (zG Z) a_this a_draft a_tape g_lines g_fault g_faultAt g_placesTold g_greatestPlace g_next g_kind g_start g_value (4 : Int32) g_start hu2) rfl [0] rfl rfl rfl (ci := 4) rfl rfl rfl (Nat.le_of_ble_eq_true rfl) dX4_readPlaces_13 16 rfl (wn := [(a_this, .inr (4, [.ref a_draft, .int g_lines, .int u2.2.1, .int u2.2.2, .ref a_tape, .int g_placesTold, .int g_greatestPlace, .int g_next, .int g_kind, .int g_start, .int g_value])), (a_draft, .inr (8, [.int g_draft_places, .ref a_draft_squares])), (a_tape, .inr (9, [.int g_tape_length, .ref a_tape_bytes])), (a_tape_bytes, .inl ((zG Z).2.1 0, 320, .inl g_tape_bytes))]) rfl (S' := [.int u2.1]) rfl ⟨Nat.zero_le _, Nat.zero_le _⟩ ?_
  refine rn_gz (fun hz3 => ?_)
  exact rn_zret hX (nar_z hz3) hr (by rw [henc]; rfl) dX4_readPlaces_16
abbrev rmX4_readSign : Room := { frames := 2, cells := 0, slots := 0, locals := 42 }
theorem hdV_X4_readSign : yX4_readSign.cls = RX4 ∧ yX4_readSign.cls ≠ "java/lang/invoke/MethodHandle" ∧ yX4_readSign.cls ≠ "java/lang/invoke/VarHandle" ∧ (parseMethodDescriptor yX4_readSign.desc).map (fun d => d.parameters.length) = some 0 := by decide +kernel
set_option maxHeartbeats 4000000 in
set_option maxRecDepth 100000 in
theorem c_X4_readSign (l : Launch) (G : GT) (a_this a_tape a_tape_bytes a_draft : Nat) (g_lines : Int32) (g_fault : Int32) (g_faultAt : Int32) (g_placesTold : Int32) (g_greatestPlace : Int32) (g_next : Int32) (g_kind : Int32) (g_start : Int32) (g_value : Int32) (g_tape_length : Int32) (g_tape_bytes : (Nat → Int32)) {u : Int32 × Int32 × Int32 × Int32 × Int32 × Int32 × Int32} (hu : X4_readSign g_fault g_faultAt g_kind g_next g_start g_value g_tape_length g_tape_bytes = some u) : Ctr l G yX4_readSign wsX4_readSign rmX4_readSign [.ref a_this] [(a_this, .inr (4, [.ref a_draft, .int g_lines, .int g_fault, .int g_faultAt, .ref a_tape, .int g_placesTold, .int g_greatestPlace, .int g_next, .int g_kind, .int g_start, .int g_value])), (a_tape, .inr (9, [.int g_tape_length, .ref a_tape_bytes])), (a_tape_bytes, .inl (G.2.1 0, 320, .inl g_tape_bytes))] (some (.int u.1)) [(a_this, .inr (4, [.ref a_draft, .int g_lines, .int u.2.1, .int u.2.2.1, .ref a_tape, .int g_placesTold, .int g_greatestPlace, .int u.2.2.2.2.1, .int u.2.2.2.1, .int u.2.2.2.2.2.1, .int u.2.2.2.2.2.2])), (a_tape, .inr (9, [.int g_tape_length, .ref a_tape_bytes])), (a_tape_bytes, .inl (G.2.1 0, 320, .inl g_tape_bytes))] := by
  obtain ⟨enc, henc⟩ : ∃ enc : (Int32 × Int32 × Int32 × Int32 × Int32 × Int32 × Int32) → Option Value × va_W, enc = fun u => (((some (.int u.1)) : Option Value), ([(a_this, .inr (4, [.ref a_draft, .int g_lines, .int u.2.1, .int u.2.2.1, .ref a_tape, .int g_placesTold, .int g_greatestPlace, .int u.2.2.2.2.1, .int u.2.2.2.1, .int u.2.2.2.2.2.1, .int u.2.2.2.2.2.2])), (a_tape, .inr (9, [.int g_tape_length, .ref a_tape_bytes])), (a_tape_bytes, .inl (G.2.1 0, 320, .inl g_tape_bytes))] : va_W)) := ⟨_, rfl⟩
  refine ctr_of (cc := cX4_readSign) (own := RX4) (E := Option.map enc) (o := X4_readSign g_fault g_faultAt g_kind g_next g_start g_value g_tape_length g_tape_bytes) (by decide) rfl rfl (L := [(0, .ref a_this)]) rfl (Nat.le_of_ble_eq_true rfl) (by rw [hu, henc]; rfl) ?_
  intro Z hX hl hG hr
  subst hl; subst hG
  have fl49 : (Cond.fieldLink RX4 49 "OnlyFar$Reader" "kind" "I").before (za Z) (zs Z) = true := hX.wd (mcC _ wd_153)
  have fl83 : (Cond.fieldLink RX4 83 "OnlyFar$Reader" "start" "I").before (za Z) (zs Z) = true := hX.wd (mcC _ wd_154)
  have inX4 : ∀ w ∈ u_ws RX4 TX4 11, w ∈ wsX4_readSign := fun w h => mcC w (inC_X4 w h)
  unfold X4_readSign
  refine rn_aload_n hX dX4_readSign_0 0 rfl 1 rfl ?_
  refine rn_bind (fun u1 hu1 => ?_)
  refine rn_callV hX (gV mcC wd_421 wd_423 wd_0 wd_72 wd_424) rfl hdV_X4_readToken rfl rfl ⟨Nat.le_of_ble_eq_true rfl, Nat.le_of_ble_eq_true rfl⟩ (c_X4_readToken (zl Z) (zG Z) a_this a_tape a_tape_bytes a_draft g_lines g_fault g_faultAt g_placesTold g_greatestPlace g_next g_kind g_start g_value g_tape_length g_tape_bytes hu1) rfl [0, 1, 2] rfl rfl rfl (ci := 4) rfl rfl rfl (Nat.le_of_ble_eq_true rfl) dX4_readSign_1 4 rfl (wn := [(a_this, .inr (4, [.ref a_draft, .int g_lines, .int u1.2.1, .int u1.2.2.1, .ref a_tape, .int g_placesTold, .int g_greatestPlace, .int u1.2.2.2.2.1, .int u1.2.2.2.1, .int u1.2.2.2.2.2.1, .int u1.2.2.2.2.2.2])), (a_tape, .inr (9, [.int g_tape_length, .ref a_tape_bytes])), (a_tape_bytes, .inl ((zG Z).2.1 0, 320, .inl g_tape_bytes))]) rfl (S' := [.int u1.1]) rfl ⟨Nat.zero_le _, Nat.zero_le _⟩ ?_
  refine rn_if_ne hX dX4_readSign_4 9 (by decide) 7 rfl ?_ ?_
  · refine rn_aload_n hX dX4_readSign_9 0 rfl 10 rfl ?_
    refine rn_get hX inX4 0 rfl rfl 8 (by decide) fl49 rfl rfl dX4_readSign_10 13 rfl ?_
    refine rn_iconst hX dX4_readSign_13 14 rfl ic_4 ?_
    refine rn_icmp_eq hX dX4_readSign_14 29 (by decide) 17 rfl ?_ ?_
    · refine rn_iconst hX dX4_readSign_29 30 rfl ic_1 ?_
      refine rn_goto hX dX4_readSign_30 34 (by decide) ?_
      exact rn_zret hX rfl hr (by rw [henc]; rfl) dX4_readSign_34
    refine rn_aload_n hX dX4_readSign_17 0 rfl 18 rfl ?_
    refine rn_iconst hX dX4_readSign_18 19 rfl ic_2 ?_
    refine rn_aload_n hX dX4_readSign_19 0 rfl 20 rfl ?_
    refine rn_get hX inX4 0 rfl rfl 9 (by decide) fl83 rfl rfl dX4_readSign_20 23 rfl ?_
    refine rn_lat (fun u2 hu2 => ?_)
    refine rn_callV hX (gV mcC wd_429 wd_431 wd_2 wd_72 wd_432) rfl hdV_X4_refuse rfl rfl ⟨Nat.le_of_ble_eq_true rfl, Nat.le_of_ble_eq_true rfl⟩ (c_X4_refuse (zl Z) (zG Z) a_this a_draft a_tape g_lines u1.2.1 u1.2.2.1 g_placesTold g_greatestPlace u1.2.2.2.2.1 u1.2.2.2.1 u1.2.2.2.2.2.1 u1.2.2.2.2.2.2 (2 : Int32) u1.2.2.2.2.2.1 hu2) rfl [0] rfl rfl rfl (ci := 4) rfl rfl rfl (Nat.le_of_ble_eq_true rfl) dX4_readSign_23 26 rfl (wn := [(a_this, .inr (4, [.ref a_draft, .int g_lines, .int u2.2.1, .int u2.2.2, .ref a_tape, .int g_placesTold, .int g_greatestPlace, .int u1.2.2.2.2.1, .int u1.2.2.2.1, .int u1.2.2.2.2.2.1, .int u1.2.2.2.2.2.2])), (a_tape, .inr (9, [.int g_tape_length, .ref a_tape_bytes])), (a_tape_bytes, .inl ((zG Z).2.1 0, 320, .inl g_tape_bytes))]) rfl (S' := [.int u2.1]) rfl ⟨Nat.zero_le _, Nat.zero_le _⟩ ?_
    refine rn_if_eq hX dX4_readSign_26 33 (by decide) 29 rfl ?_ ?_
    · refine rn_iconst hX dX4_readSign_33 34 rfl ic_0 ?_
      exact rn_zret hX rfl hr (by rw [henc]; rfl) dX4_readSign_34
    refine rn_iconst hX dX4_readSign_29 30 rfl ic_1 ?_
    refine rn_goto hX dX4_readSign_30 34 (by decide) ?_
    exact rn_zret hX rfl hr (by rw [henc]; rfl) dX4_readSign_34
  refine rn_iconst hX dX4_readSign_7 8 rfl ic_0 ?_
  exact rn_zret hX rfl hr (by rw [henc]; rfl) dX4_readSign_8
abbrev rmX8_put : Room := { frames := 0, cells := 0, slots := 0, locals := 0 }
theorem hdV_X8_put : yX8_put.cls = RX8 ∧ yX8_put.cls ≠ "java/lang/invoke/MethodHandle" ∧ yX8_put.cls ≠ "java/lang/invoke/VarHandle" ∧ (parseMethodDescriptor yX8_put.desc).map (fun d => d.parameters.length) = some 3 := by decide +kernel
set_option maxHeartbeats 4000000 in
set_option maxRecDepth 100000 in
theorem c_X8_put (l : Launch) (G : GT) (a_this a_squares : Nat) (g_places : Int32) (g_squares : (Nat → Int32)) (x1 : Int32) (x2 : Int32) (x3 : Int32) {u : (Nat → Int32)} (hu : X8_put x1 x2 x3 g_squares = some u) : Ctr l G yX8_put wsX8_put rmX8_put [.ref a_this, .int x1, .int x2, .int x3] [(a_this, .inr (8, [.int g_places, .ref a_squares])), (a_squares, .inl (G.2.1 1, 49, .inl g_squares))] none [(a_this, .inr (8, [.int g_places, .ref a_squares])), (a_squares, .inl (G.2.1 1, 49, .inl u))] := by
  obtain ⟨enc, henc⟩ : ∃ enc : ((Nat → Int32)) → Option Value × va_W, enc = fun u => ((none : Option Value), ([(a_this, .inr (8, [.int g_places, .ref a_squares])), (a_squares, .inl (G.2.1 1, 49, .inl u))] : va_W)) := ⟨_, rfl⟩
  refine ctr_of (cc := cX8_put) (own := RX8) (E := Option.map enc) (o := X8_put x1 x2 x3 g_squares) (by decide) rfl rfl (L := [(0, .ref a_this), (1, .int x1), (2, .int x2), (3, .int x3)]) rfl (Nat.le_of_ble_eq_true rfl) (by rw [hu, henc]; rfl) ?_
  intro Z hX hl hG hr
  subst hl; subst hG
  have fl15 : (Cond.fieldLink RX8 15 "OnlyFar$Table" "squares" "[I").before (za Z) (zs Z) = true := hX.wd (mcC _ wd_134)
  have inX8 : ∀ w ∈ u_ws RX8 TX8 2, w ∈ wsX8_put := fun w h => mcC w (inC_X8 w h)
  unfold X8_put
  refine rn_iload_n hX dX8_put_0 1 rfl 1 rfl ?_
  refine rn_if_lt hX dX8_put_1 25 (by decide) 4 rfl ?_ ?_
  · exact rn_vret hX hr (by rw [henc]; rfl) dX8_put_25
  refine rn_iload_n hX dX8_put_4 1 rfl 5 rfl ?_
  refine rn_bipush hX dX8_put_5 7 rfl bp_7 ?_
  refine rn_icmp_ge hX dX8_put_7 25 (by decide) 10 rfl ?_ ?_
  · exact rn_vret hX hr (by rw [henc]; rfl) dX8_put_25
  refine rn_iload_n hX dX8_put_10 2 rfl 11 rfl ?_
  refine rn_if_lt hX dX8_put_11 25 (by decide) 14 rfl ?_ ?_
  · exact rn_vret hX hr (by rw [henc]; rfl) dX8_put_25
  refine rn_iload_n hX dX8_put_14 2 rfl 15 rfl ?_
  refine rn_bipush hX dX8_put_15 17 rfl bp_7 ?_
  refine rn_icmp_ge hX dX8_put_17 25 (by decide) 20 rfl ?_ ?_
  · exact rn_vret hX hr (by rw [henc]; rfl) dX8_put_25
  refine rn_iload_n hX dX8_put_20 1 rfl 21 rfl ?_
  refine rn_iload_n hX dX8_put_21 2 rfl 22 rfl ?_
  refine rn_icmp_ne hX dX8_put_22 26 (by decide) 25 rfl ?_ ?_
  · refine rn_aload_n hX dX8_put_26 0 rfl 27 rfl ?_
    refine rn_get hX inX8 0 rfl rfl 1 (by decide) fl15 rfl rfl dX8_put_27 30 rfl ?_
    refine rn_iload_n hX dX8_put_30 1 rfl 31 rfl ?_
    refine rn_bipush hX dX8_put_31 33 rfl bp_7 ?_
    refine rn_imul hX dX8_put_33 34 rfl ?_
    refine rn_iload_n hX dX8_put_34 2 rfl 35 rfl ?_
    refine rn_iadd hX dX8_put_35 36 rfl ?_
    refine rn_iload_n hX dX8_put_36 3 rfl 37 rfl ?_
    refine rn_gd (fun hi1 => ?_)
    refine rn_iast hX 1 rfl hi1 dX8_put_37 38 rfl (w1 := fun m2 => [(a_this, .inr (8, [.int g_places, .ref a_squares])), (a_squares, .inl ((zG Z).2.1 1, 49, .inl m2))]) (fun _ => rfl) (fun m2 => ?_)
    refine rn_aload_n hX dX8_put_38 0 rfl 39 rfl ?_
    refine rn_get hX inX8 0 rfl rfl 1 (by decide) fl15 rfl rfl dX8_put_39 42 rfl ?_
    refine rn_iload_n hX dX8_put_42 2 rfl 43 rfl ?_
    refine rn_bipush hX dX8_put_43 45 rfl bp_7 ?_
    refine rn_imul hX dX8_put_45 46 rfl ?_
    refine rn_iload_n hX dX8_put_46 1 rfl 47 rfl ?_
    refine rn_iadd hX dX8_put_47 48 rfl ?_
    refine rn_iload_n hX dX8_put_48 3 rfl 49 rfl ?_
    refine rn_gd (fun hi3 => ?_)
    refine rn_iast hX 1 rfl hi3 dX8_put_49 50 rfl (w1 := fun m4 => [(a_this, .inr (8, [.int g_places, .ref a_squares])), (a_squares, .inl ((zG Z).2.1 1, 49, .inl m4))]) (fun _ => rfl) (fun m4 => ?_)
    exact rn_vret hX hr (by rw [henc]; rfl) dX8_put_50
  exact rn_vret hX hr (by rw [henc]; rfl) dX8_put_25
