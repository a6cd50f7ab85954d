abbrev rmX0_draw : Room := { frames := 4, cells := 0, slots := 0, locals := 101 }
theorem hdV_X0_draw : yX0_draw.cls = RX0 ∧ yX0_draw.cls ≠ "java/lang/invoke/MethodHandle" ∧ yX0_draw.cls ≠ "java/lang/invoke/VarHandle" ∧ (parseMethodDescriptor yX0_draw.desc).map (fun d => d.parameters.length) = some 3 := by decide +kernel
set_option maxHeartbeats 4000000 in
set_option maxRecDepth 100000 in
theorem c_X0_draw (l : Launch) (G : GT) (a_this a_bonds a_sides a_sixthOf a_table a_table_squares : Nat) (g_laid : Int32) (g_groups : Int32) (g_stands : Int32) (g_offLine : Int32) (g_bonds : (Nat → Int32)) (g_sides : (Nat → Int32)) (g_sixthOf_middle : Int64) (g_sixthOf_spread : Int64) (g_sixthOf_divisor : Int64) (g_table_places : Int32) (g_table_squares : (Nat → Int32)) (x1 : Int32) (x2 : Int32) (x3 : Int32) {u : Int32 × Int32 × Int32 × Int32 × (Nat → Int32) × (Nat → Int32) × Int64 × Int64 × Int64} (hu : X0_draw x1 x2 x3 g_groups g_laid g_offLine g_stands g_bonds g_sides g_sixthOf_divisor g_sixthOf_middle g_sixthOf_spread g_table_places g_table_squares = some u) : Ctr l G yX0_draw wsX0_draw rmX0_draw [.ref a_this, .int x1, .int x2, .int x3] [(a_this, .inr (0, [.int g_laid, .int g_groups, .int g_stands, .ref a_table, .ref a_sixthOf, .ref a_sides, .ref a_bonds, .int g_offLine])), (a_bonds, .inl (G.2.1 1, 49, .inl g_bonds)), (a_sides, .inl (G.2.1 1, 7, .inl g_sides)), (a_sixthOf, .inr (7, [.long g_sixthOf_middle, .long g_sixthOf_spread, .long g_sixthOf_divisor])), (a_table, .inr (8, [.int g_table_places, .ref a_table_squares])), (a_table_squares, .inl (G.2.1 1, 49, .inl g_table_squares))] none [(a_this, .inr (0, [.int u.2.1, .int u.1, .int u.2.2.2.1, .ref a_table, .ref a_sixthOf, .ref a_sides, .ref a_bonds, .int u.2.2.1])), (a_bonds, .inl (G.2.1 1, 49, .inl u.2.2.2.2.1)), (a_sides, .inl (G.2.1 1, 7, .inl u.2.2.2.2.2.1)), (a_sixthOf, .inr (7, [.long u.2.2.2.2.2.2.2.1, .long u.2.2.2.2.2.2.2.2, .long u.2.2.2.2.2.2.1])), (a_table, .inr (8, [.int g_table_places, .ref a_table_squares])), (a_table_squares, .inl (G.2.1 1, 49, .inl g_table_squares))] := by
  obtain ⟨enc, henc⟩ : ∃ enc : (Int32 × Int32 × Int32 × Int32 × (Nat → Int32) × (Nat → Int32) × Int64 × Int64 × Int64) → Option Value × va_W, enc = fun u => ((none : Option Value), ([(a_this, .inr (0, [.int u.2.1, .int u.1, .int u.2.2.2.1, .ref a_table, .ref a_sixthOf, .ref a_sides, .ref a_bonds, .int u.2.2.1])), (a_bonds, .inl (G.2.1 1, 49, .inl u.2.2.2.2.1)), (a_sides, .inl (G.2.1 1, 7, .inl u.2.2.2.2.2.1)), (a_sixthOf, .inr (7, [.long u.2.2.2.2.2.2.2.1, .long u.2.2.2.2.2.2.2.2, .long u.2.2.2.2.2.2.1])), (a_table, .inr (8, [.int g_table_places, .ref a_table_squares])), (a_table_squares, .inl (G.2.1 1, 49, .inl g_table_squares))] : va_W)) := ⟨_, rfl⟩
  refine ctr_of (cc := cX0_draw) (own := RX0) (E := Option.map enc) (o := X0_draw x1 x2 x3 g_groups g_laid g_offLine g_stands g_bonds g_sides g_sixthOf_divisor g_sixthOf_middle g_sixthOf_spread g_table_places g_table_squares) (by decide) rfl rfl (L := [(0, .ref a_this), (1, .int x1), (2, .int x2), (3, .int x3)]) rfl (Nat.le_of_ble_eq_true rfl) (by rw [hu, henc]; rfl) ?_
  intro Z hX hl hG hr
  subst hl; subst hG
  have fl26 : (Cond.fieldLink RX0 26 "OnlyFar$Drawing" "bonds" "[I").before (za Z) (zs Z) = true := hX.wd (mcC _ wd_309)
  have fl53 : (Cond.fieldLink RX0 53 "OnlyFar$Drawing" "stands" "Z").before (za Z) (zs Z) = true := hX.wd (mcC _ wd_304)
  have fl9 : (Cond.fieldLink RX0 9 "OnlyFar$Drawing" "table" "LOnlyFar$Table;").before (za Z) (zs Z) = true := hX.wd (mcC _ wd_306)
  have inX0 : ∀ w ∈ u_ws RX0 TX0 8, w ∈ wsX0_draw := fun w h => mcC w (inC_X0 w h)
  have hJ182 : ∀ (again : Int32 → Int32 → Int32 → Int32 → Int32 → (Nat → Int32) → (Nat → Int32) → Int64 → Int64 → Int64 → Option (Int32 × Int32 × Int32 × Int32 × (Nat → Int32) × (Nat → Int32) × Int64 × Int64 × Int64)) (hagain : ∀ (x4 : Int32) (g_groups : Int32) (g_laid : Int32) (g_offLine : Int32) (g_stands : Int32) (g_bonds : (Nat → Int32)) (g_sides : (Nat → Int32)) (g_sixthOf_divisor : Int64) (g_sixthOf_middle : Int64) (g_sixthOf_spread : Int64), Rn Z 7 (Option.map enc) 0 0 132 [(0, .ref a_this), (4, .int x4)] [] [(a_this, .inr (0, [.int g_laid, .int g_groups, .int g_stands, .ref a_table, .ref a_sixthOf, .ref a_sides, .ref a_bonds, .int g_offLine])), (a_bonds, .inl ((zG Z).2.1 1, 49, .inl g_bonds)), (a_sides, .inl ((zG Z).2.1 1, 7, .inl g_sides)), (a_sixthOf, .inr (7, [.long g_sixthOf_middle, .long g_sixthOf_spread, .long g_sixthOf_divisor])), (a_table, .inr (8, [.int g_table_places, .ref a_table_squares])), (a_table_squares, .inl ((zG Z).2.1 1, 49, .inl g_table_squares))] (again x4 g_groups g_laid g_offLine g_stands g_bonds g_sides g_sixthOf_divisor g_sixthOf_middle g_sixthOf_spread)) (x4 : Int32) (g_groups : Int32) (g_laid : Int32) (g_offLine : Int32) (g_stands : Int32) (g_bonds : (Nat → Int32)) (g_sides : (Nat → Int32)) (g_sixthOf_divisor : Int64) (g_sixthOf_middle : Int64) (g_sixthOf_spread : Int64), Rn Z 7 (Option.map enc) 0 0 182 [(0, .ref a_this), (4, .int x4)] [] [(a_this, .inr (0, [.int g_laid, .int g_groups, .int g_stands, .ref a_table, .ref a_sixthOf, .ref a_sides, .ref a_bonds, .int g_offLine])), (a_bonds, .inl ((zG Z).2.1 1, 49, .inl g_bonds)), (a_sides, .inl ((zG Z).2.1 1, 7, .inl g_sides)), (a_sixthOf, .inr (7, [.long g_sixthOf_middle, .long g_sixthOf_spread, .long g_sixthOf_divisor])), (a_table, .inr (8, [.int g_table_places, .ref a_table_squares])), (a_table_squares, .inl ((zG Z).2.1 1, 49, .inl g_table_squares))] (X0_draw_J182 again x4 g_groups g_laid g_offLine g_stands g_bonds g_sides g_sixthOf_divisor g_sixthOf_middle g_sixthOf_spread) := by
    intro again hagain x4 g_groups g_laid g_offLine g_stands g_bonds g_sides g_sixthOf_divisor g_sixthOf_middle g_sixthOf_spread
    unfold X0_draw_J182
    refine rn_iinc hX dX0_draw_182 1 rfl ic_1 (by decide) (L' := fun v1 => [(4, .int v1), (0, .ref a_this)]) (fun _ => rfl) 185 rfl (fun v1 => ?_)
    refine rn_goto hX dX0_draw_185 132 (by decide) ?_
    refine rn_sub [1, 0] rfl ?_
    exact hagain v1 g_groups g_laid g_offLine g_stands g_bonds g_sides g_sixthOf_divisor g_sixthOf_middle g_sixthOf_spread
  have hJ173 : ∀ (again : Int32 → Int32 → Int32 → Int32 → Int32 → Int32 → (Nat → Int32) → (Nat → Int32) → Int64 → Int64 → Int64 → Option (Int32 × Int32 × Int32 × Int32 × (Nat → Int32) × (Nat → Int32) × Int64 × Int64 × Int64)) (k182 : Int32 → Int32 → Int32 → Int32 → Int32 → (Nat → Int32) → (Nat → Int32) → Int64 → Int64 → Int64 → Option (Int32 × Int32 × Int32 × Int32 × (Nat → Int32) × (Nat → Int32) × Int64 × Int64 × Int64)) (hagain : ∀ (x4 : Int32) (x5 : Int32) (g_groups : Int32) (g_laid : Int32) (g_offLine : Int32) (g_stands : Int32) (g_bonds : (Nat → Int32)) (g_sides : (Nat → Int32)) (g_sixthOf_divisor : Int64) (g_sixthOf_middle : Int64) (g_sixthOf_spread : Int64), Rn Z 7 (Option.map enc) 0 0 142 [(0, .ref a_this), (4, .int x4), (5, .int x5)] [] [(a_this, .inr (0, [.int g_laid, .int g_groups, .int g_stands, .ref a_table, .ref a_sixthOf, .ref a_sides, .ref a_bonds, .int g_offLine])), (a_bonds, .inl ((zG Z).2.1 1, 49, .inl g_bonds)), (a_sides, .inl ((zG Z).2.1 1, 7, .inl g_sides)), (a_sixthOf, .inr (7, [.long g_sixthOf_middle, .long g_sixthOf_spread, .long g_sixthOf_divisor])), (a_table, .inr (8, [.int g_table_places, .ref a_table_squares])), (a_table_squares, .inl ((zG Z).2.1 1, 49, .inl g_table_squares))] (again x4 x5 g_groups g_laid g_offLine g_stands g_bonds g_sides g_sixthOf_divisor g_sixthOf_middle g_sixthOf_spread)) (hk182 : ∀ (x4 : Int32) (g_groups : Int32) (g_laid : Int32) (g_offLine : Int32) (g_stands : Int32) (g_bonds : (Nat → Int32)) (g_sides : (Nat → Int32)) (g_sixthOf_divisor : Int64) (g_sixthOf_middle : Int64) (g_sixthOf_spread : Int64), Rn Z 7 (Option.map enc) 0 0 182 [(0, .ref a_this), (4, .int x4)] [] [(a_this, .inr (0, [.int g_laid, .int g_groups, .int g_stands, .ref a_table, .ref a_sixthOf, .ref a_sides, .ref a_bonds, .int g_offLine])), (a_bonds, .inl ((zG Z).2.1 1, 49, .inl g_bonds)), (a_sides, .inl ((zG Z).2.1 1, 7, .inl g_sides)), (a_sixthOf, .inr (7, [.long g_sixthOf_middle, .long g_sixthOf_spread, .long g_sixthOf_divisor])), (a_table, .inr (8, [.int g_table_places, .ref a_table_squares])), (a_table_squares, .inl ((zG Z).2.1 1, 49, .inl g_table_squares))] (k182 x4 g_groups g_laid g_offLine g_stands g_bonds g_sides g_sixthOf_divisor g_sixthOf_middle g_sixthOf_spread)) (x4 : Int32) (x5 : Int32) (s1 : Int32) (g_groups : Int32) (g_laid : Int32) (g_offLine : Int32) (g_stands : Int32) (g_bonds : (Nat → Int32)) (g_sides : (Nat → Int32)) (g_sixthOf_divisor : Int64) (g_sixthOf_middle : Int64) (g_sixthOf_spread : Int64), Rn Z 7 (Option.map enc) 0 0 173 [(0, .ref a_this), (4, .int x4), (5, .int x5)] [.int s1, .ref a_this] [(a_this, .inr (0, [.int g_laid, .int g_groups, .int g_stands, .ref a_table, .ref a_sixthOf, .ref a_sides, .ref a_bonds, .int g_offLine])), (a_bonds, .inl ((zG Z).2.1 1, 49, .inl g_bonds)), (a_sides, .inl ((zG Z).2.1 1, 7, .inl g_sides)), (a_sixthOf, .inr (7, [.long g_sixthOf_middle, .long g_sixthOf_spread, .long g_sixthOf_divisor])), (a_table, .inr (8, [.int g_table_places, .ref a_table_squares])), (a_table_squares, .inl ((zG Z).2.1 1, 49, .inl g_table_squares))] (X0_draw_J173 again k182 x4 x5 s1 g_groups g_laid g_offLine g_stands g_bonds g_sides g_sixthOf_divisor g_sixthOf_middle g_sixthOf_spread) := by
    intro again k182 hagain hk182 x4 x5 s1 g_groups g_laid g_offLine g_stands g_bonds g_sides g_sixthOf_divisor g_sixthOf_middle g_sixthOf_spread
    unfold X0_draw_J173
    refine rn_gz (fun hz2 => ?_)
    refine rn_put hX inX0 tyX0_ok nmX0 0 rfl rfl 2 (by decide) fl53 rfl rfl (nar_z hz2) (fit_z hz2) (Nat.le_of_ble_eq_true rfl) dX0_draw_173 176 rfl (w1 := [(a_this, .inr (0, [.int g_laid, .int g_groups, .int s1, .ref a_table, .ref a_sixthOf, .ref a_sides, .ref a_bonds, .int g_offLine])), (a_bonds, .inl ((zG Z).2.1 1, 49, .inl g_bonds)), (a_sides, .inl ((zG Z).2.1 1, 7, .inl g_sides)), (a_sixthOf, .inr (7, [.long g_sixthOf_middle, .long g_sixthOf_spread, .long g_sixthOf_divisor])), (a_table, .inr (8, [.int g_table_places, .ref a_table_squares])), (a_table_squares, .inl ((zG Z).2.1 1, 49, .inl g_table_squares))]) rfl ?_
    refine rn_iinc hX dX0_draw_176 2 rfl ic_1 (by decide) (L' := fun v3 => [(5, .int v3), (0, .ref a_this), (4, .int x4)]) (fun _ => rfl) 179 rfl (fun v3 => ?_)
    refine rn_goto hX dX0_draw_179 142 (by decide) ?_
    refine rn_sub [1, 2, 0] rfl ?_
    exact hagain x4 v3 g_groups g_laid g_offLine s1 g_bonds g_sides g_sixthOf_divisor g_sixthOf_middle g_sixthOf_spread
  have hJ172 : ∀ (again : Int32 → Int32 → Int32 → Int32 → Int32 → Int32 → (Nat → Int32) → (Nat → Int32) → Int64 → Int64 → Int64 → Option (Int32 × Int32 × Int32 × Int32 × (Nat → Int32) × (Nat → Int32) × Int64 × Int64 × Int64)) (k182 : Int32 → Int32 → Int32 → Int32 → Int32 → (Nat → Int32) → (Nat → Int32) → Int64 → Int64 → Int64 → Option (Int32 × Int32 × Int32 × Int32 × (Nat → Int32) × (Nat → Int32) × Int64 × Int64 × Int64)) (hagain : ∀ (x4 : Int32) (x5 : Int32) (g_groups : Int32) (g_laid : Int32) (g_offLine : Int32) (g_stands : Int32) (g_bonds : (Nat → Int32)) (g_sides : (Nat → Int32)) (g_sixthOf_divisor : Int64) (g_sixthOf_middle : Int64) (g_sixthOf_spread : Int64), Rn Z 7 (Option.map enc) 0 0 142 [(0, .ref a_this), (4, .int x4), (5, .int x5)] [] [(a_this, .inr (0, [.int g_laid, .int g_groups, .int g_stands, .ref a_table, .ref a_sixthOf, .ref a_sides, .ref a_bonds, .int g_offLine])), (a_bonds, .inl ((zG Z).2.1 1, 49, .inl g_bonds)), (a_sides, .inl ((zG Z).2.1 1, 7, .inl g_sides)), (a_sixthOf, .inr (7, [.long g_sixthOf_middle, .long g_sixthOf_spread, .long g_sixthOf_divisor])), (a_table, .inr (8, [.int g_table_places, .ref a_table_squares])), (a_table_squares, .inl ((zG Z).2.1 1, 49, .inl g_table_squares))] (again x4 x5 g_groups g_laid g_offLine g_stands g_bonds g_sides g_sixthOf_divisor g_sixthOf_middle g_sixthOf_spread)) (hk182 : ∀ (x4 : Int32) (g_groups : Int32) (g_laid : Int32) (g_offLine : Int32) (g_stands : Int32) (g_bonds : (Nat → Int32)) (g_sides : (Nat → Int32)) (g_sixthOf_divisor : Int64) (g_sixthOf_middle : Int64) (g_sixthOf_spread : Int64), Rn Z 7 (Option.map enc) 0 0 182 [(0, .ref a_this), (4, .int x4)] [] [(a_this, .inr (0, [.int g_laid, .int g_groups, .int g_stands, .ref a_table, .ref a_sixthOf, .ref a_sides, .ref a_bonds, .int g_offLine])), (a_bonds, .inl ((zG Z).2.1 1, 49, .inl g_bonds)), (a_sides, .inl ((zG Z).2.1 1, 7, .inl g_sides)), (a_sixthOf, .inr (7, [.long g_sixthOf_middle, .long g_sixthOf_spread, .long g_sixthOf_divisor])), (a_table, .inr (8, [.int g_table_places, .ref a_table_squares])), (a_table_squares, .inl ((zG Z).2.1 1, 49, .inl g_table_squares))] (k182 x4 g_groups g_laid g_offLine g_stands g_bonds g_sides g_sixthOf_divisor g_sixthOf_middle g_sixthOf_spread)) (x4 : Int32) (x5 : Int32) (g_groups : Int32) (g_laid : Int32) (g_offLine : Int32) (g_stands : Int32) (g_bonds : (Nat → Int32)) (g_sides : (Nat → Int32)) (g_sixthOf_divisor : Int64) (g_sixthOf_middle : Int64) (g_sixthOf_spread : Int64), Rn Z 7 (Option.map enc) 0 0 172 [(0, .ref a_this), (4, .int x4), (5, .int x5)] [.ref a_this] [(a_this, .inr (0, [.int g_laid, .int g_groups, .int g_stands, .ref a_table, .ref a_sixthOf, .ref a_sides, .ref a_bonds, .int g_offLine])), (a_bonds, .inl ((zG Z).2.1 1, 49, .inl g_bonds)), (a_sides, .inl ((zG Z).2.1 1, 7, .inl g_sides)), (a_sixthOf, .inr (7, [.long g_sixthOf_middle, .long g_sixthOf_spread, .long g_sixthOf_divisor])), (a_table, .inr (8, [.int g_table_places, .ref a_table_squares])), (a_table_squares, .inl ((zG Z).2.1 1, 49, .inl g_table_squares))] (X0_draw_J172 again k182 x4 x5 g_groups g_laid g_offLine g_stands g_bonds g_sides g_sixthOf_divisor g_sixthOf_middle g_sixthOf_spread) := by
    intro again k182 hagain hk182 x4 x5 g_groups g_laid g_offLine g_stands g_bonds g_sides g_sixthOf_divisor g_sixthOf_middle g_sixthOf_spread
    unfold X0_draw_J172
    refine rn_iconst hX dX0_draw_172 173 rfl ic_0 ?_
    exact (hJ173 _ _ hagain hk182) x4 x5 (0 : Int32) g_groups g_laid g_offLine g_stands g_bonds g_sides g_sixthOf_divisor g_sixthOf_middle g_sixthOf_spread
  have hB142 : ∀ (again : Int32 → Int32 → Int32 → Int32 → Int32 → Int32 → (Nat → Int32) → (Nat → Int32) → Int64 → Int64 → Int64 → Option (Int32 × Int32 × Int32 × Int32 × (Nat → Int32) × (Nat → Int32) × Int64 × Int64 × Int64)) (k182 : Int32 → Int32 → Int32 → Int32 → Int32 → (Nat → Int32) → (Nat → Int32) → Int64 → Int64 → Int64 → Option (Int32 × Int32 × Int32 × Int32 × (Nat → Int32) × (Nat → Int32) × Int64 × Int64 × Int64)) (hagain : ∀ (x4 : Int32) (x5 : Int32) (g_groups : Int32) (g_laid : Int32) (g_offLine : Int32) (g_stands : Int32) (g_bonds : (Nat → Int32)) (g_sides : (Nat → Int32)) (g_sixthOf_divisor : Int64) (g_sixthOf_middle : Int64) (g_sixthOf_spread : Int64), Rn Z 7 (Option.map enc) 0 0 142 [(0, .ref a_this), (4, .int x4), (5, .int x5)] [] [(a_this, .inr (0, [.int g_laid, .int g_groups, .int g_stands, .ref a_table, .ref a_sixthOf, .ref a_sides, .ref a_bonds, .int g_offLine])), (a_bonds, .inl ((zG Z).2.1 1, 49, .inl g_bonds)), (a_sides, .inl ((zG Z).2.1 1, 7, .inl g_sides)), (a_sixthOf, .inr (7, [.long g_sixthOf_middle, .long g_sixthOf_spread, .long g_sixthOf_divisor])), (a_table, .inr (8, [.int g_table_places, .ref a_table_squares])), (a_table_squares, .inl ((zG Z).2.1 1, 49, .inl g_table_squares))] (again x4 x5 g_groups g_laid g_offLine g_stands g_bonds g_sides g_sixthOf_divisor g_sixthOf_middle g_sixthOf_spread)) (hk182 : ∀ (x4 : Int32) (g_groups : Int32) (g_laid : Int32) (g_offLine : Int32) (g_stands : Int32) (g_bonds : (Nat → Int32)) (g_sides : (Nat → Int32)) (g_sixthOf_divisor : Int64) (g_sixthOf_middle : Int64) (g_sixthOf_spread : Int64), Rn Z 7 (Option.map enc) 0 0 182 [(0, .ref a_this), (4, .int x4)] [] [(a_this, .inr (0, [.int g_laid, .int g_groups, .int g_stands, .ref a_table, .ref a_sixthOf, .ref a_sides, .ref a_bonds, .int g_offLine])), (a_bonds, .inl ((zG Z).2.1 1, 49, .inl g_bonds)), (a_sides, .inl ((zG Z).2.1 1, 7, .inl g_sides)), (a_sixthOf, .inr (7, [.long g_sixthOf_middle, .long g_sixthOf_spread, .long g_sixthOf_divisor])), (a_table, .inr (8, [.int g_table_places, .ref a_table_squares])), (a_table_squares, .inl ((zG Z).2.1 1, 49, .inl g_table_squares))] (k182 x4 g_groups g_laid g_offLine g_stands g_bonds g_sides g_sixthOf_divisor g_sixthOf_middle g_sixthOf_spread)) (x4 : Int32) (x5 : Int32) (g_groups : Int32) (g_laid : Int32) (g_offLine : Int32) (g_stands : Int32) (g_bonds : (Nat → Int32)) (g_sides : (Nat → Int32)) (g_sixthOf_divisor : Int64) (g_sixthOf_middle : Int64) (g_sixthOf_spread : Int64), Rn Z 7 (Option.map enc) 0 0 142 [(0, .ref a_this), (4, .int x4), (5, .int x5)] [] [(a_this, .inr (0, [.int g_laid, .int g_groups, .int g_stands, .ref a_table, .ref a_sixthOf, .ref a_sides, .ref a_bonds, .int g_offLine])), (a_bonds, .inl ((zG Z).2.1 1, 49, .inl g_bonds)), (a_sides, .inl ((zG Z).2.1 1, 7, .inl g_sides)), (a_sixthOf, .inr (7, [.long g_sixthOf_middle, .long g_sixthOf_spread, .long g_sixthOf_divisor])), (a_table, .inr (8, [.int g_table_places, .ref a_table_squares])), (a_table_squares, .inl ((zG Z).2.1 1, 49, .inl g_table_squares))] (X0_draw_B142 again k182 x4 x5 g_groups g_laid g_offLine g_stands g_bonds g_sides g_sixthOf_divisor g_sixthOf_middle g_sixthOf_spread) := by
    intro again k182 hagain hk182 x4 x5 g_groups g_laid g_offLine g_stands g_bonds g_sides g_sixthOf_divisor g_sixthOf_middle g_sixthOf_spread
    unfold X0_draw_B142
    refine rn_iload hX dX0_draw_142 2 rfl 144 rfl ?_
    refine rn_iload hX dX0_draw_144 1 rfl 146 rfl ?_
    refine rn_icmp_ge hX dX0_draw_146 182 (by decide) 149 rfl ?_ ?_
    · refine rn_sub [0, 1] rfl ?_
      exact hk182 x4 g_groups g_laid g_offLine g_stands g_bonds g_sides g_sixthOf_divisor g_sixthOf_middle g_sixthOf_spread
    refine rn_aload_n hX dX0_draw_149 0 rfl 150 rfl ?_
    refine rn_aload_n hX dX0_draw_150 0 rfl 151 rfl ?_
    refine rn_get hX inX0 0 rfl rfl 2 (by decide) fl53 rfl rfl dX0_draw_151 154 rfl ?_
    refine rn_if_eq hX dX0_draw_154 172 (by decide) 157 rfl ?_ ?_
    · exact (hJ172 _ _ hagain hk182) x4 x5 g_groups g_laid g_offLine g_stands g_bonds g_sides g_sixthOf_divisor g_sixthOf_middle g_sixthOf_spread
    refine rn_aload_n hX dX0_draw_157 0 rfl 158 rfl ?_
    refine rn_iload hX dX0_draw_158 2 rfl 160 rfl ?_
    refine rn_iload hX dX0_draw_160 1 rfl 162 rfl ?_
    refine rn_bind (fun u4 hu4 => ?_)
    refine rn_callV0 hX (gV mcC wd_809 wd_811 wd_20 wd_79 wd_812) rfl hdV_X0_holds rfl rfl ⟨Nat.le_of_ble_eq_true rfl, Nat.le_of_ble_eq_true rfl⟩ (c_X0_holds (zl Z) (zG Z) a_this a_bonds a_sides a_table a_sixthOf g_laid g_groups g_stands g_offLine g_bonds g_sides x5 x4 hu4) rfl [0, 1, 2] rfl rfl (ci := 0) rfl rfl rfl (Nat.le_of_ble_eq_true rfl) dX0_draw_162 165 rfl (S' := [.int u4, .ref a_this]) rfl ⟨Nat.zero_le _, Nat.zero_le _⟩ ?_
    refine rn_if_eq hX dX0_draw_165 172 (by decide) 168 rfl ?_ ?_
    · exact (hJ172 _ _ hagain hk182) x4 x5 g_groups g_laid g_offLine g_stands g_bonds g_sides g_sixthOf_divisor g_sixthOf_middle g_sixthOf_spread
    refine rn_iconst hX dX0_draw_168 169 rfl ic_1 ?_
    refine rn_goto hX dX0_draw_169 173 (by decide) ?_
    exact (hJ173 _ _ hagain hk182) x4 x5 (1 : Int32) g_groups g_laid g_offLine g_stands g_bonds g_sides g_sixthOf_divisor g_sixthOf_middle g_sixthOf_spread
  have hL142 : ∀ (k182 : Int32 → Int32 → Int32 → Int32 → Int32 → (Nat → Int32) → (Nat → Int32) → Int64 → Int64 → Int64 → Option (Int32 × Int32 × Int32 × Int32 × (Nat → Int32) × (Nat → Int32) × Int64 × Int64 × Int64)) (hk182 : ∀ (x4 : Int32) (g_groups : Int32) (g_laid : Int32) (g_offLine : Int32) (g_stands : Int32) (g_bonds : (Nat → Int32)) (g_sides : (Nat → Int32)) (g_sixthOf_divisor : Int64) (g_sixthOf_middle : Int64) (g_sixthOf_spread : Int64), Rn Z 7 (Option.map enc) 0 0 182 [(0, .ref a_this), (4, .int x4)] [] [(a_this, .inr (0, [.int g_laid, .int g_groups, .int g_stands, .ref a_table, .ref a_sixthOf, .ref a_sides, .ref a_bonds, .int g_offLine])), (a_bonds, .inl ((zG Z).2.1 1, 49, .inl g_bonds)), (a_sides, .inl ((zG Z).2.1 1, 7, .inl g_sides)), (a_sixthOf, .inr (7, [.long g_sixthOf_middle, .long g_sixthOf_spread, .long g_sixthOf_divisor])), (a_table, .inr (8, [.int g_table_places, .ref a_table_squares])), (a_table_squares, .inl ((zG Z).2.1 1, 49, .inl g_table_squares))] (k182 x4 g_groups g_laid g_offLine g_stands g_bonds g_sides g_sixthOf_divisor g_sixthOf_middle g_sixthOf_spread)) (n : Nat) (x4 : Int32) (x5 : Int32) (g_groups : Int32) (g_laid : Int32) (g_offLine : Int32) (g_stands : Int32) (g_bonds : (Nat → Int32)) (g_sides : (Nat → Int32)) (g_sixthOf_divisor : Int64) (g_sixthOf_middle : Int64) (g_sixthOf_spread : Int64), Rn Z 7 (Option.map enc) 0 0 142 [(0, .ref a_this), (4, .int x4), (5, .int x5)] [] [(a_this, .inr (0, [.int g_laid, .int g_groups, .int g_stands, .ref a_table, .ref a_sixthOf, .ref a_sides, .ref a_bonds, .int g_offLine])), (a_bonds, .inl ((zG Z).2.1 1, 49, .inl g_bonds)), (a_sides, .inl ((zG Z).2.1 1, 7, .inl g_sides)), (a_sixthOf, .inr (7, [.long g_sixthOf_middle, .long g_sixthOf_spread, .long g_sixthOf_divisor])), (a_table, .inr (8, [.int g_table_places, .ref a_table_squares])), (a_table_squares, .inl ((zG Z).2.1 1, 49, .inl g_table_squares))] (X0_draw_L142 k182 n x4 x5 g_groups g_laid g_offLine g_stands g_bonds g_sides g_sixthOf_divisor g_sixthOf_middle g_sixthOf_spread) := by
    intro k182 hk182 n
    induction n with
    | zero => intros; exact rn_none
    | succ n ih => exact hB142 _ _ ih hk182
  have hB132 : ∀ (again : Int32 → Int32 → Int32 → Int32 → Int32 → (Nat → Int32) → (Nat → Int32) → Int64 → Int64 → Int64 → Option (Int32 × Int32 × Int32 × Int32 × (Nat → Int32) × (Nat → Int32) × Int64 × Int64 × Int64)) (hagain : ∀ (x4 : Int32) (g_groups : Int32) (g_laid : Int32) (g_offLine : Int32) (g_stands : Int32) (g_bonds : (Nat → Int32)) (g_sides : (Nat → Int32)) (g_sixthOf_divisor : Int64) (g_sixthOf_middle : Int64) (g_sixthOf_spread : Int64), Rn Z 7 (Option.map enc) 0 0 132 [(0, .ref a_this), (4, .int x4)] [] [(a_this, .inr (0, [.int g_laid, .int g_groups, .int g_stands, .ref a_table, .ref a_sixthOf, .ref a_sides, .ref a_bonds, .int g_offLine])), (a_bonds, .inl ((zG Z).2.1 1, 49, .inl g_bonds)), (a_sides, .inl ((zG Z).2.1 1, 7, .inl g_sides)), (a_sixthOf, .inr (7, [.long g_sixthOf_middle, .long g_sixthOf_spread, .long g_sixthOf_divisor])), (a_table, .inr (8, [.int g_table_places, .ref a_table_squares])), (a_table_squares, .inl ((zG Z).2.1 1, 49, .inl g_table_squares))] (again x4 g_groups g_laid g_offLine g_stands g_bonds g_sides g_sixthOf_divisor g_sixthOf_middle g_sixthOf_spread)) (x4 : Int32) (g_groups : Int32) (g_laid : Int32) (g_offLine : Int32) (g_stands : Int32) (g_bonds : (Nat → Int32)) (g_sides : (Nat → Int32)) (g_sixthOf_divisor : Int64) (g_sixthOf_middle : Int64) (g_sixthOf_spread : Int64), Rn Z 7 (Option.map enc) 0 0 132 [(0, .ref a_this), (4, .int x4)] [] [(a_this, .inr (0, [.int g_laid, .int g_groups, .int g_stands, .ref a_table, .ref a_sixthOf, .ref a_sides, .ref a_bonds, .int g_offLine])), (a_bonds, .inl ((zG Z).2.1 1, 49, .inl g_bonds)), (a_sides, .inl ((zG Z).2.1 1, 7, .inl g_sides)), (a_sixthOf, .inr (7, [.long g_sixthOf_middle, .long g_sixthOf_spread, .long g_sixthOf_divisor])), (a_table, .inr (8, [.int g_table_places, .ref a_table_squares])), (a_table_squares, .inl ((zG Z).2.1 1, 49, .inl g_table_squares))] (X0_draw_B132 again x4 g_groups g_laid g_offLine g_stands g_bonds g_sides g_sixthOf_divisor g_sixthOf_middle g_sixthOf_spread) := by
    intro again hagain x4 g_groups g_laid g_offLine g_stands g_bonds g_sides g_sixthOf_divisor g_sixthOf_middle g_sixthOf_spread
    unfold X0_draw_B132
    refine rn_iload hX dX0_draw_132 1 rfl 134 rfl ?_
    refine rn_bipush hX dX0_draw_134 136 rfl bp_7 ?_
    refine rn_icmp_ge hX dX0_draw_136 188 (by decide) 139 rfl ?_ ?_
    · exact rn_vret hX hr (by rw [henc]; rfl) dX0_draw_188
    refine rn_iconst hX dX0_draw_139 140 rfl ic_0 ?_
    refine rn_istore hX dX0_draw_140 (by decide) (L' := [(5, .int (0 : Int32)), (0, .ref a_this), (4, .int x4)]) rfl 142 rfl ?_
    refine rn_sub [1, 2, 0] rfl ?_
    exact (hL142 _ (hJ182 _ hagain) 1000) x4 (0 : Int32) g_groups g_laid g_offLine g_stands g_bonds g_sides g_sixthOf_divisor g_sixthOf_middle g_sixthOf_spread
  have hL132 : ∀ (n : Nat) (x4 : Int32) (g_groups : Int32) (g_laid : Int32) (g_offLine : Int32) (g_stands : Int32) (g_bonds : (Nat → Int32)) (g_sides : (Nat → Int32)) (g_sixthOf_divisor : Int64) (g_sixthOf_middle : Int64) (g_sixthOf_spread : Int64), Rn Z 7 (Option.map enc) 0 0 132 [(0, .ref a_this), (4, .int x4)] [] [(a_this, .inr (0, [.int g_laid, .int g_groups, .int g_stands, .ref a_table, .ref a_sixthOf, .ref a_sides, .ref a_bonds, .int g_offLine])), (a_bonds, .inl ((zG Z).2.1 1, 49, .inl g_bonds)), (a_sides, .inl ((zG Z).2.1 1, 7, .inl g_sides)), (a_sixthOf, .inr (7, [.long g_sixthOf_middle, .long g_sixthOf_spread, .long g_sixthOf_divisor])), (a_table, .inr (8, [.int g_table_places, .ref a_table_squares])), (a_table_squares, .inl ((zG Z).2.1 1, 49, .inl g_table_squares))] (X0_draw_L132 n x4 g_groups g_laid g_offLine g_stands g_bonds g_sides g_sixthOf_divisor g_sixthOf_middle g_sixthOf_spread) := by
    intro n
    induction n with
    | zero => intros; exact rn_none
    | succ n ih => exact hB132 _ ih
  have hJ120 : ∀ (g_groups : Int32) (g_laid : Int32) (g_offLine : Int32) (g_stands : Int32) (g_bonds : (Nat → Int32)) (g_sides : (Nat → Int32)) (g_sixthOf_divisor : Int64) (g_sixthOf_middle : Int64) (g_sixthOf_spread : Int64), Rn Z 7 (Option.map enc) 0 0 120 [(0, .ref a_this)] [] [(a_this, .inr (0, [.int g_laid, .int g_groups, .int g_stands, .ref a_table, .ref a_sixthOf, .ref a_sides, .ref a_bonds, .int g_offLine])), (a_bonds, .inl ((zG Z).2.1 1, 49, .inl g_bonds)), (a_sides, .inl ((zG Z).2.1 1, 7, .inl g_sides)), (a_sixthOf, .inr (7, [.long g_sixthOf_middle, .long g_sixthOf_spread, .long g_sixthOf_divisor])), (a_table, .inr (8, [.int g_table_places, .ref a_table_squares])), (a_table_squares, .inl ((zG Z).2.1 1, 49, .inl g_table_squares))] (X0_draw_J120 g_groups g_laid g_offLine g_stands g_bonds g_sides g_sixthOf_divisor g_sixthOf_middle g_sixthOf_spread) := by
    intro g_groups g_laid g_offLine g_stands g_bonds g_sides g_sixthOf_divisor g_sixthOf_middle g_sixthOf_spread
    unfold X0_draw_J120
    refine rn_aload_n hX dX0_draw_120 0 rfl 121 rfl ?_
    refine rn_bind (fun u5 hu5 => ?_)
    refine rn_callV hX (gV mcC wd_800 wd_802 wd_18 wd_79 wd_803) rfl hdV_X0_findGroups rfl rfl ⟨Nat.le_of_ble_eq_true rfl, Nat.le_of_ble_eq_true rfl⟩ (c_X0_findGroups (zl Z) (zG Z) a_this a_bonds a_sides a_table a_sixthOf g_laid g_groups g_stands g_offLine g_bonds g_sides hu5) rfl [0, 1, 2] rfl rfl rfl (ci := 0) rfl rfl rfl (Nat.le_of_ble_eq_true rfl) dX0_draw_121 124 rfl (wn := [(a_this, .inr (0, [.int g_laid, .int u5.1, .int g_stands, .ref a_table, .ref a_sixthOf, .ref a_sides, .ref a_bonds, .int g_offLine])), (a_bonds, .inl ((zG Z).2.1 1, 49, .inl g_bonds)), (a_sides, .inl ((zG Z).2.1 1, 7, .inl u5.2)), (a_sixthOf, .inr (7, [.long g_sixthOf_middle, .long g_sixthOf_spread, .long g_sixthOf_divisor])), (a_table, .inr (8, [.int g_table_places, .ref a_table_squares])), (a_table_squares, .inl ((zG Z).2.1 1, 49, .inl g_table_squares))]) rfl (S' := []) rfl ⟨Nat.zero_le _, Nat.zero_le _⟩ ?_
    refine rn_aload_n hX dX0_draw_124 0 rfl 125 rfl ?_
    refine rn_iconst hX dX0_draw_125 126 rfl ic_1 ?_
    refine rn_put hX inX0 tyX0_ok nmX0 0 rfl rfl 2 (by decide) fl53 rfl rfl rfl rfl (Nat.le_of_ble_eq_true rfl) dX0_draw_126 129 rfl (w1 := [(a_this, .inr (0, [.int g_laid, .int u5.1, .int (1 : Int32), .ref a_table, .ref a_sixthOf, .ref a_sides, .ref a_bonds, .int g_offLine])), (a_bonds, .inl ((zG Z).2.1 1, 49, .inl g_bonds)), (a_sides, .inl ((zG Z).2.1 1, 7, .inl u5.2)), (a_sixthOf, .inr (7, [.long g_sixthOf_middle, .long g_sixthOf_spread, .long g_sixthOf_divisor])), (a_table, .inr (8, [.int g_table_places, .ref a_table_squares])), (a_table_squares, .inl ((zG Z).2.1 1, 49, .inl g_table_squares))]) rfl ?_
    refine rn_iconst hX dX0_draw_129 130 rfl ic_0 ?_
    refine rn_istore hX dX0_draw_130 (by decide) (L' := [(4, .int (0 : Int32)), (0, .ref a_this)]) rfl 132 rfl ?_
    refine rn_sub [1, 0] rfl ?_
    exact (hL132  1000) (0 : Int32) u5.1 g_laid g_offLine (1 : Int32) g_bonds u5.2 g_sixthOf_divisor g_sixthOf_middle g_sixthOf_spread
  have hJ114 : ∀ (again : Int32 → Int32 → Int32 → Int32 → Int32 → Int32 → Int32 → Int32 → (Nat → Int32) → (Nat → Int32) → Int64 → Int64 → Int64 → Option (Int32 × Int32 × Int32 × Int32 × (Nat → Int32) × (Nat → Int32) × Int64 × Int64 × Int64)) (k120 : Int32 → Int32 → Int32 → Int32 → (Nat → Int32) → (Nat → Int32) → Int64 → Int64 → Int64 → Option (Int32 × Int32 × Int32 × Int32 × (Nat → Int32) × (Nat → Int32) × Int64 × Int64 × Int64)) (hagain : ∀ (x1 : Int32) (x2 : Int32) (x3 : Int32) (x4 : Int32) (g_groups : Int32) (g_laid : Int32) (g_offLine : Int32) (g_stands : Int32) (g_bonds : (Nat → Int32)) (g_sides : (Nat → Int32)) (g_sixthOf_divisor : Int64) (g_sixthOf_middle : Int64) (g_sixthOf_spread : Int64), Rn Z 7 (Option.map enc) 0 0 9 [(0, .ref a_this), (1, .int x1), (2, .int x2), (3, .int x3), (4, .int x4)] [] [(a_this, .inr (0, [.int g_laid, .int g_groups, .int g_stands, .ref a_table, .ref a_sixthOf, .ref a_sides, .ref a_bonds, .int g_offLine])), (a_bonds, .inl ((zG Z).2.1 1, 49, .inl g_bonds)), (a_sides, .inl ((zG Z).2.1 1, 7, .inl g_sides)), (a_sixthOf, .inr (7, [.long g_sixthOf_middle, .long g_sixthOf_spread, .long g_sixthOf_divisor])), (a_table, .inr (8, [.int g_table_places, .ref a_table_squares])), (a_table_squares, .inl ((zG Z).2.1 1, 49, .inl g_table_squares))] (again x1 x2 x3 x4 g_groups g_laid g_offLine g_stands g_bonds g_sides g_sixthOf_divisor g_sixthOf_middle g_sixthOf_spread)) (hk120 : ∀ (g_groups : Int32) (g_laid : Int32) (g_offLine : Int32) (g_stands : Int32) (g_bonds : (Nat → Int32)) (g_sides : (Nat → Int32)) (g_sixthOf_divisor : Int64) (g_sixthOf_middle : Int64) (g_sixthOf_spread : Int64), Rn Z 7 (Option.map enc) 0 0 120 [(0, .ref a_this)] [] [(a_this, .inr (0, [.int g_laid, .int g_groups, .int g_stands, .ref a_table, .ref a_sixthOf, .ref a_sides, .ref a_bonds, .int g_offLine])), (a_bonds, .inl ((zG Z).2.1 1, 49, .inl g_bonds)), (a_sides, .inl ((zG Z).2.1 1, 7, .inl g_sides)), (a_sixthOf, .inr (7, [.long g_sixthOf_middle, .long g_sixthOf_spread, .long g_sixthOf_divisor])), (a_table, .inr (8, [.int g_table_places, .ref a_table_squares])), (a_table_squares, .inl ((zG Z).2.1 1, 49, .inl g_table_squares))] (k120 g_groups g_laid g_offLine g_stands g_bonds g_sides g_sixthOf_divisor g_sixthOf_middle g_sixthOf_spread)) (x1 : Int32) (x2 : Int32) (x3 : Int32) (x4 : Int32) (g_groups : Int32) (g_laid : Int32) (g_offLine : Int32) (g_stands : Int32) (g_bonds : (Nat → Int32)) (g_sides : (Nat → Int32)) (g_sixthOf_divisor : Int64) (g_sixthOf_middle : Int64) (g_sixthOf_spread : Int64), Rn Z 7 (Option.map enc) 0 0 114 [(0, .ref a_this), (1, .int x1), (2, .int x2), (3, .int x3), (4, .int x4)] [] [(a_this, .inr (0, [.int g_laid, .int g_groups, .int g_stands, .ref a_table, .ref a_sixthOf, .ref a_sides, .ref a_bonds, .int g_offLine])), (a_bonds, .inl ((zG Z).2.1 1, 49, .inl g_bonds)), (a_sides, .inl ((zG Z).2.1 1, 7, .inl g_sides)), (a_sixthOf, .inr (7, [.long g_sixthOf_middle, .long g_sixthOf_spread, .long g_sixthOf_divisor])), (a_table, .inr (8, [.int g_table_places, .ref a_table_squares])), (a_table_squares, .inl ((zG Z).2.1 1, 49, .inl g_table_squares))] (X0_draw_J114 again k120 x1 x2 x3 x4 g_groups g_laid g_offLine g_stands g_bonds g_sides g_sixthOf_divisor g_sixthOf_middle g_sixthOf_spread) := by
    intro again k120 hagain hk120 x1 x2 x3 x4 g_groups g_laid g_offLine g_stands g_bonds g_sides g_sixthOf_divisor g_sixthOf_middle g_sixthOf_spread
    unfold X0_draw_J114
    refine rn_iinc hX dX0_draw_114 4 rfl ic_1 (by decide) (L' := fun v6 => [(4, .int v6), (0, .ref a_this), (1, .int x1), (2, .int x2), (3, .int x3)]) (fun _ => rfl) 117 rfl (fun v6 => ?_)
    refine rn_goto hX dX0_draw_117 9 (by decide) ?_
    refine rn_sub [1, 2, 3, 4, 0] rfl ?_
    exact hagain x1 x2 x3 v6 g_groups g_laid g_offLine g_stands g_bonds g_sides g_sixthOf_divisor g_sixthOf_middle g_sixthOf_spread
  have hJ107 : ∀ (again : Int32 → Int32 → Int32 → Int32 → Int32 → Int32 → Int32 → Int32 → Int32 → (Nat → Int32) → (Nat → Int32) → Int64 → Int64 → Int64 → Option (Int32 × Int32 × Int32 × Int32 × (Nat → Int32) × (Nat → Int32) × Int64 × Int64 × Int64)) (k114 : Int32 → Int32 → Int32 → Int32 → Int32 → Int32 → Int32 → Int32 → (Nat → Int32) → (Nat → Int32) → Int64 → Int64 → Int64 → Option (Int32 × Int32 × Int32 × Int32 × (Nat → Int32) × (Nat → Int32) × Int64 × Int64 × Int64)) (hagain : ∀ (x1 : Int32) (x2 : Int32) (x3 : Int32) (x4 : Int32) (x5 : Int32) (g_groups : Int32) (g_laid : Int32) (g_offLine : Int32) (g_stands : Int32) (g_bonds : (Nat → Int32)) (g_sides : (Nat → Int32)) (g_sixthOf_divisor : Int64) (g_sixthOf_middle : Int64) (g_sixthOf_spread : Int64), Rn Z 7 (Option.map enc) 0 0 19 [(0, .ref a_this), (1, .int x1), (2, .int x2), (3, .int x3), (4, .int x4), (5, .int x5)] [] [(a_this, .inr (0, [.int g_laid, .int g_groups, .int g_stands, .ref a_table, .ref a_sixthOf, .ref a_sides, .ref a_bonds, .int g_offLine])), (a_bonds, .inl ((zG Z).2.1 1, 49, .inl g_bonds)), (a_sides, .inl ((zG Z).2.1 1, 7, .inl g_sides)), (a_sixthOf, .inr (7, [.long g_sixthOf_middle, .long g_sixthOf_spread, .long g_sixthOf_divisor])), (a_table, .inr (8, [.int g_table_places, .ref a_table_squares])), (a_table_squares, .inl ((zG Z).2.1 1, 49, .inl g_table_squares))] (again x1 x2 x3 x4 x5 g_groups g_laid g_offLine g_stands g_bonds g_sides g_sixthOf_divisor g_sixthOf_middle g_sixthOf_spread)) (hk114 : ∀ (x1 : Int32) (x2 : Int32) (x3 : Int32) (x4 : Int32) (g_groups : Int32) (g_laid : Int32) (g_offLine : Int32) (g_stands : Int32) (g_bonds : (Nat → Int32)) (g_sides : (Nat → Int32)) (g_sixthOf_divisor : Int64) (g_sixthOf_middle : Int64) (g_sixthOf_spread : Int64), Rn Z 7 (Option.map enc) 0 0 114 [(0, .ref a_this), (1, .int x1), (2, .int x2), (3, .int x3), (4, .int x4)] [] [(a_this, .inr (0, [.int g_laid, .int g_groups, .int g_stands, .ref a_table, .ref a_sixthOf, .ref a_sides, .ref a_bonds, .int g_offLine])), (a_bonds, .inl ((zG Z).2.1 1, 49, .inl g_bonds)), (a_sides, .inl ((zG Z).2.1 1, 7, .inl g_sides)), (a_sixthOf, .inr (7, [.long g_sixthOf_middle, .long g_sixthOf_spread, .long g_sixthOf_divisor])), (a_table, .inr (8, [.int g_table_places, .ref a_table_squares])), (a_table_squares, .inl ((zG Z).2.1 1, 49, .inl g_table_squares))] (k114 x1 x2 x3 x4 g_groups g_laid g_offLine g_stands g_bonds g_sides g_sixthOf_divisor g_sixthOf_middle g_sixthOf_spread)) (x1 : Int32) (x2 : Int32) (x3 : Int32) (x4 : Int32) (x5 : Int32) (s1 : Int32) (s2 : Int32) (g_groups : Int32) (g_laid : Int32) (g_offLine : Int32) (g_stands : Int32) (g_bonds : (Nat → Int32)) (g_sides : (Nat → Int32)) (g_sixthOf_divisor : Int64) (g_sixthOf_middle : Int64) (g_sixthOf_spread : Int64), Rn Z 7 (Option.map enc) 0 0 107 [(0, .ref a_this), (1, .int x1), (2, .int x2), (3, .int x3), (4, .int x4), (5, .int x5)] [.int s2, .int s1, .ref a_bonds] [(a_this, .inr (0, [.int g_laid, .int g_groups, .int g_stands, .ref a_table, .ref a_sixthOf, .ref a_sides, .ref a_bonds, .int g_offLine])), (a_bonds, .inl ((zG Z).2.1 1, 49, .inl g_bonds)), (a_sides, .inl ((zG Z).2.1 1, 7, .inl g_sides)), (a_sixthOf, .inr (7, [.long g_sixthOf_middle, .long g_sixthOf_spread, .long g_sixthOf_divisor])), (a_table, .inr (8, [.int g_table_places, .ref a_table_squares])), (a_table_squares, .inl ((zG Z).2.1 1, 49, .inl g_table_squares))] (X0_draw_J107 again k114 x1 x2 x3 x4 x5 s1 s2 g_groups g_laid g_offLine g_stands g_bonds g_sides g_sixthOf_divisor g_sixthOf_middle g_sixthOf_spread) := by
    intro again k114 hagain hk114 x1 x2 x3 x4 x5 s1 s2 g_groups g_laid g_offLine g_stands g_bonds g_sides g_sixthOf_divisor g_sixthOf_middle g_sixthOf_spread
    unfold X0_draw_J107
    refine rn_gd (fun hi7 => ?_)
    refine rn_iast hX 1 rfl hi7 dX0_draw_107 108 rfl (w1 := fun m8 => [(a_this, .inr (0, [.int g_laid, .int g_groups, .int g_stands, .ref a_table, .ref a_sixthOf, .ref a_sides, .ref a_bonds, .int g_offLine])), (a_bonds, .inl ((zG Z).2.1 1, 49, .inl m8)), (a_sides, .inl ((zG Z).2.1 1, 7, .inl g_sides)), (a_sixthOf, .inr (7, [.long g_sixthOf_middle, .long g_sixthOf_spread, .long g_sixthOf_divisor])), (a_table, .inr (8, [.int g_table_places, .ref a_table_squares])), (a_table_squares, .inl ((zG Z).2.1 1, 49, .inl g_table_squares))]) (fun _ => rfl) (fun m8 => ?_)
    refine rn_iinc hX dX0_draw_108 5 rfl ic_1 (by decide) (L' := fun v9 => [(5, .int v9), (0, .ref a_this), (1, .int x1), (2, .int x2), (3, .int x3), (4, .int x4)]) (fun _ => rfl) 111 rfl (fun v9 => ?_)
    refine rn_goto hX dX0_draw_111 19 (by decide) ?_
    refine rn_sub [1, 2, 3, 4, 5, 0] rfl ?_
    exact hagain x1 x2 x3 x4 v9 g_groups g_laid g_offLine g_stands m8 g_sides g_sixthOf_divisor g_sixthOf_middle g_sixthOf_spread
  have hJ74 : ∀ (again : Int32 → Int32 → Int32 → Int32 → Int32 → Int32 → Int32 → Int32 → Int32 → (Nat → Int32) → (Nat → Int32) → Int64 → Int64 → Int64 → Option (Int32 × Int32 × Int32 × Int32 × (Nat → Int32) × (Nat → Int32) × Int64 × Int64 × Int64)) (k114 : Int32 → Int32 → Int32 → Int32 → Int32 → Int32 → Int32 → Int32 → (Nat → Int32) → (Nat → Int32) → Int64 → Int64 → Int64 → Option (Int32 × Int32 × Int32 × Int32 × (Nat → Int32) × (Nat → Int32) × Int64 × Int64 × Int64)) (hagain : ∀ (x1 : Int32) (x2 : Int32) (x3 : Int32) (x4 : Int32) (x5 : Int32) (g_groups : Int32) (g_laid : Int32) (g_offLine : Int32) (g_stands : Int32) (g_bonds : (Nat → Int32)) (g_sides : (Nat → Int32)) (g_sixthOf_divisor : Int64) (g_sixthOf_middle : Int64) (g_sixthOf_spread : Int64), Rn Z 7 (Option.map enc) 0 0 19 [(0, .ref a_this), (1, .int x1), (2, .int x2), (3, .int x3), (4, .int x4), (5, .int x5)] [] [(a_this, .inr (0, [.int g_laid, .int g_groups, .int g_stands, .ref a_table, .ref a_sixthOf, .ref a_sides, .ref a_bonds, .int g_offLine])), (a_bonds, .inl ((zG Z).2.1 1, 49, .inl g_bonds)), (a_sides, .inl ((zG Z).2.1 1, 7, .inl g_sides)), (a_sixthOf, .inr (7, [.long g_sixthOf_middle, .long g_sixthOf_spread, .long g_sixthOf_divisor])), (a_table, .inr (8, [.int g_table_places, .ref a_table_squares])), (a_table_squares, .inl ((zG Z).2.1 1, 49, .inl g_table_squares))] (again x1 x2 x3 x4 x5 g_groups g_laid g_offLine g_stands g_bonds g_sides g_sixthOf_divisor g_sixthOf_middle g_sixthOf_spread)) (hk114 : ∀ (x1 : Int32) (x2 : Int32) (x3 : Int32) (x4 : Int32) (g_groups : Int32) (g_laid : Int32) (g_offLine : Int32) (g_stands : Int32) (g_bonds : (Nat → Int32)) (g_sides : (Nat → Int32)) (g_sixthOf_divisor : Int64) (g_sixthOf_middle : Int64) (g_sixthOf_spread : Int64), Rn Z 7 (Option.map enc) 0 0 114 [(0, .ref a_this), (1, .int x1), (2, .int x2), (3, .int x3), (4, .int x4)] [] [(a_this, .inr (0, [.int g_laid, .int g_groups, .int g_stands, .ref a_table, .ref a_sixthOf, .ref a_sides, .ref a_bonds, .int g_offLine])), (a_bonds, .inl ((zG Z).2.1 1, 49, .inl g_bonds)), (a_sides, .inl ((zG Z).2.1 1, 7, .inl g_sides)), (a_sixthOf, .inr (7, [.long g_sixthOf_middle, .long g_sixthOf_spread, .long g_sixthOf_divisor])), (a_table, .inr (8, [.int g_table_places, .ref a_table_squares])), (a_table_squares, .inl ((zG Z).2.1 1, 49, .inl g_table_squares))] (k114 x1 x2 x3 x4 g_groups g_laid g_offLine g_stands g_bonds g_sides g_sixthOf_divisor g_sixthOf_middle g_sixthOf_spread)) (x1 : Int32) (x2 : Int32) (x3 : Int32) (x4 : Int32) (x5 : Int32) (s0 : Int32) (g_groups : Int32) (g_laid : Int32) (g_offLine : Int32) (g_stands : Int32) (g_bonds : (Nat → Int32)) (g_sides : (Nat → Int32)) (g_sixthOf_divisor : Int64) (g_sixthOf_middle : Int64) (g_sixthOf_spread : Int64), Rn Z 7 (Option.map enc) 0 0 74 [(0, .ref a_this), (1, .int x1), (2, .int x2), (3, .int x3), (4, .int x4), (5, .int x5)] [.int s0] [(a_this, .inr (0, [.int g_laid, .int g_groups, .int g_stands, .ref a_table, .ref a_sixthOf, .ref a_sides, .ref a_bonds, .int g_offLine])), (a_bonds, .inl ((zG Z).2.1 1, 49, .inl g_bonds)), (a_sides, .inl ((zG Z).2.1 1, 7, .inl g_sides)), (a_sixthOf, .inr (7, [.long g_sixthOf_middle, .long g_sixthOf_spread, .long g_sixthOf_divisor])), (a_table, .inr (8, [.int g_table_places, .ref a_table_squares])), (a_table_squares, .inl ((zG Z).2.1 1, 49, .inl g_table_squares))] (X0_draw_J74 g_table_squares again k114 x1 x2 x3 x4 x5 s0 g_groups g_laid g_offLine g_stands g_bonds g_sides g_sixthOf_divisor g_sixthOf_middle g_sixthOf_spread) := by
    intro again k114 hagain hk114 x1 x2 x3 x4 x5 s0 g_groups g_laid g_offLine g_stands g_bonds g_sides g_sixthOf_divisor g_sixthOf_middle g_sixthOf_spread
    unfold X0_draw_J74
    refine rn_istore hX dX0_draw_74 (by decide) (L' := [(6, .int s0), (0, .ref a_this), (1, .int x1), (2, .int x2), (3, .int x3), (4, .int x4), (5, .int x5)]) rfl 76 rfl ?_
    refine rn_aload_n hX dX0_draw_76 1 rfl 77 rfl ?_
    refine rn_get hX inX0 0 rfl rfl 6 (by decide) fl26 rfl rfl dX0_draw_77 80 rfl ?_
    refine rn_iload hX dX0_draw_80 6 rfl 82 rfl ?_
    refine rn_bipush hX dX0_draw_82 84 rfl bp_7 ?_
    refine rn_imul hX dX0_draw_84 85 rfl ?_
    refine rn_iload hX dX0_draw_85 5 rfl 87 rfl ?_
    refine rn_iadd hX dX0_draw_87 88 rfl ?_
    refine rn_iload hX dX0_draw_88 0 rfl 90 rfl ?_
    refine rn_if_eq hX dX0_draw_90 106 (by decide) 93 rfl ?_ ?_
    · refine rn_iconst hX dX0_draw_106 107 rfl ic_0 ?_
      refine rn_sub [1, 2, 3, 4, 5, 6] rfl ?_
      exact (hJ107 _ _ hagain hk114) x1 x2 x3 x4 x5 ((x5 * (7 : Int32)) + x4) (0 : Int32) g_groups g_laid g_offLine g_stands g_bonds g_sides g_sixthOf_divisor g_sixthOf_middle g_sixthOf_spread
    refine rn_aload_n hX dX0_draw_93 1 rfl 94 rfl ?_
    refine rn_iload hX dX0_draw_94 6 rfl 96 rfl ?_
    refine rn_iload hX dX0_draw_96 5 rfl 98 rfl ?_
    refine rn_iload_n hX dX0_draw_98 2 rfl 99 rfl ?_
    refine rn_iload_n hX dX0_draw_99 3 rfl 100 rfl ?_
    refine rn_bind (fun u10 hu10 => ?_)
    refine rn_callV hX (gV mcC wd_795 wd_797 wd_17 wd_79 wd_798) rfl hdV_X0_bondOf rfl rfl ⟨Nat.le_of_ble_eq_true rfl, Nat.le_of_ble_eq_true rfl⟩ (c_X0_bondOf (zl Z) (zG Z) a_this a_sixthOf a_table a_table_squares a_sides a_bonds g_laid g_groups g_stands g_offLine g_sixthOf_middle g_sixthOf_spread g_sixthOf_divisor g_table_places g_table_squares x5 x4 x1 x2 hu10) rfl [0, 3, 4, 5] rfl rfl rfl (ci := 0) rfl rfl rfl (Nat.le_of_ble_eq_true rfl) dX0_draw_100 103 rfl (wn := [(a_this, .inr (0, [.int g_laid, .int g_groups, .int g_stands, .ref a_table, .ref a_sixthOf, .ref a_sides, .ref a_bonds, .int g_offLine])), (a_bonds, .inl ((zG Z).2.1 1, 49, .inl g_bonds)), (a_sides, .inl ((zG Z).2.1 1, 7, .inl g_sides)), (a_sixthOf, .inr (7, [.long u10.2.2.1, .long u10.2.2.2, .long u10.2.1])), (a_table, .inr (8, [.int g_table_places, .ref a_table_squares])), (a_table_squares, .inl ((zG Z).2.1 1, 49, .inl g_table_squares))]) rfl (S' := [.int u10.1, .int ((x5 * (7 : Int32)) + x4), .ref a_bonds]) rfl ⟨Nat.zero_le _, Nat.zero_le _⟩ ?_
    refine rn_goto hX dX0_draw_103 107 (by decide) ?_
    refine rn_sub [1, 2, 3, 4, 5, 6] rfl ?_
    exact (hJ107 _ _ hagain hk114) x1 x2 x3 x4 x5 ((x5 * (7 : Int32)) + x4) u10.1 g_groups g_laid g_offLine g_stands g_bonds g_sides u10.2.1 u10.2.2.1 u10.2.2.2
  have hJ73 : ∀ (again : Int32 → Int32 → Int32 → Int32 → Int32 → Int32 → Int32 → Int32 → Int32 → (Nat → Int32) → (Nat → Int32) → Int64 → Int64 → Int64 → Option (Int32 × Int32 × Int32 × Int32 × (Nat → Int32) × (Nat → Int32) × Int64 × Int64 × Int64)) (k114 : Int32 → Int32 → Int32 → Int32 → Int32 → Int32 → Int32 → Int32 → (Nat → Int32) → (Nat → Int32) → Int64 → Int64 → Int64 → Option (Int32 × Int32 × Int32 × Int32 × (Nat → Int32) × (Nat → Int32) × Int64 × Int64 × Int64)) (hagain : ∀ (x1 : Int32) (x2 : Int32) (x3 : Int32) (x4 : Int32) (x5 : Int32) (g_groups : Int32) (g_laid : Int32) (g_offLine : Int32) (g_stands : Int32) (g_bonds : (Nat → Int32)) (g_sides : (Nat → Int32)) (g_sixthOf_divisor : Int64) (g_sixthOf_middle : Int64) (g_sixthOf_spread : Int64), Rn Z 7 (Option.map enc) 0 0 19 [(0, .ref a_this), (1, .int x1), (2, .int x2), (3, .int x3), (4, .int x4), (5, .int x5)] [] [(a_this, .inr (0, [.int g_laid, .int g_groups, .int g_stands, .ref a_table, .ref a_sixthOf, .ref a_sides, .ref a_bonds, .int g_offLine])), (a_bonds, .inl ((zG Z).2.1 1, 49, .inl g_bonds)), (a_sides, .inl ((zG Z).2.1 1, 7, .inl g_sides)), (a_sixthOf, .inr (7, [.long g_sixthOf_middle, .long g_sixthOf_spread, .long g_sixthOf_divisor])), (a_table, .inr (8, [.int g_table_places, .ref a_table_squares])), (a_table_squares, .inl ((zG Z).2.1 1, 49, .inl g_table_squares))] (again x1 x2 x3 x4 x5 g_groups g_laid g_offLine g_stands g_bonds g_sides g_sixthOf_divisor g_sixthOf_middle g_sixthOf_spread)) (hk114 : ∀ (x1 : Int32) (x2 : Int32) (x3 : Int32) (x4 : Int32) (g_groups : Int32) (g_laid : Int32) (g_offLine : Int32) (g_stands : Int32) (g_bonds : (Nat → Int32)) (g_sides : (Nat → Int32)) (g_sixthOf_divisor : Int64) (g_sixthOf_middle : Int64) (g_sixthOf_spread : Int64), Rn Z 7 (Option.map enc) 0 0 114 [(0, .ref a_this), (1, .int x1), (2, .int x2), (3, .int x3), (4, .int x4)] [] [(a_this, .inr (0, [.int g_laid, .int g_groups, .int g_stands, .ref a_table, .ref a_sixthOf, .ref a_sides, .ref a_bonds, .int g_offLine])), (a_bonds, .inl ((zG Z).2.1 1, 49, .inl g_bonds)), (a_sides, .inl ((zG Z).2.1 1, 7, .inl g_sides)), (a_sixthOf, .inr (7, [.long g_sixthOf_middle, .long g_sixthOf_spread, .long g_sixthOf_divisor])), (a_table, .inr (8, [.int g_table_places, .ref a_table_squares])), (a_table_squares, .inl ((zG Z).2.1 1, 49, .inl g_table_squares))] (k114 x1 x2 x3 x4 g_groups g_laid g_offLine g_stands g_bonds g_sides g_sixthOf_divisor g_sixthOf_middle g_sixthOf_spread)) (x1 : Int32) (x2 : Int32) (x3 : Int32) (x4 : Int32) (x5 : Int32) (g_groups : Int32) (g_laid : Int32) (g_offLine : Int32) (g_stands : Int32) (g_bonds : (Nat → Int32)) (g_sides : (Nat → Int32)) (g_sixthOf_divisor : Int64) (g_sixthOf_middle : Int64) (g_sixthOf_spread : Int64), Rn Z 7 (Option.map enc) 0 0 73 [(0, .ref a_this), (1, .int x1), (2, .int x2), (3, .int x3), (4, .int x4), (5, .int x5)] [] [(a_this, .inr (0, [.int g_laid, .int g_groups, .int g_stands, .ref a_table, .ref a_sixthOf, .ref a_sides, .ref a_bonds, .int g_offLine])), (a_bonds, .inl ((zG Z).2.1 1, 49, .inl g_bonds)), (a_sides, .inl ((zG Z).2.1 1, 7, .inl g_sides)), (a_sixthOf, .inr (7, [.long g_sixthOf_middle, .long g_sixthOf_spread, .long g_sixthOf_divisor])), (a_table, .inr (8, [.int g_table_places, .ref a_table_squares])), (a_table_squares, .inl ((zG Z).2.1 1, 49, .inl g_table_squares))] (X0_draw_J73 g_table_squares again k114 x1 x2 x3 x4 x5 g_groups g_laid g_offLine g_stands g_bonds g_sides g_sixthOf_divisor g_sixthOf_middle g_sixthOf_spread) := by
    intro again k114 hagain hk114 x1 x2 x3 x4 x5 g_groups g_laid g_offLine g_stands g_bonds g_sides g_sixthOf_divisor g_sixthOf_middle g_sixthOf_spread
    unfold X0_draw_J73
    refine rn_iconst hX dX0_draw_73 74 rfl ic_0 ?_
    exact (hJ74 _ _ hagain hk114) x1 x2 x3 x4 x5 (0 : Int32) g_groups g_laid g_offLine g_stands g_bonds g_sides g_sixthOf_divisor g_sixthOf_middle g_sixthOf_spread
  have hB19 : ∀ (again : Int32 → Int32 → Int32 → Int32 → Int32 → Int32 → Int32 → Int32 → Int32 → (Nat → Int32) → (Nat → Int32) → Int64 → Int64 → Int64 → Option (Int32 × Int32 × Int32 × Int32 × (Nat → Int32) × (Nat → Int32) × Int64 × Int64 × Int64)) (k114 : Int32 → Int32 → Int32 → Int32 → Int32 → Int32 → Int32 → Int32 → (Nat → Int32) → (Nat → Int32) → Int64 → Int64 → Int64 → Option (Int32 × Int32 × Int32 × Int32 × (Nat → Int32) × (Nat → Int32) × Int64 × Int64 × Int64)) (hagain : ∀ (x1 : Int32) (x2 : Int32) (x3 : Int32) (x4 : Int32) (x5 : Int32) (g_groups : Int32) (g_laid : Int32) (g_offLine : Int32) (g_stands : Int32) (g_bonds : (Nat → Int32)) (g_sides : (Nat → Int32)) (g_sixthOf_divisor : Int64) (g_sixthOf_middle : Int64) (g_sixthOf_spread : Int64), Rn Z 7 (Option.map enc) 0 0 19 [(0, .ref a_this), (1, .int x1), (2, .int x2), (3, .int x3), (4, .int x4), (5, .int x5)] [] [(a_this, .inr (0, [.int g_laid, .int g_groups, .int g_stands, .ref a_table, .ref a_sixthOf, .ref a_sides, .ref a_bonds, .int g_offLine])), (a_bonds, .inl ((zG Z).2.1 1, 49, .inl g_bonds)), (a_sides, .inl ((zG Z).2.1 1, 7, .inl g_sides)), (a_sixthOf, .inr (7, [.long g_sixthOf_middle, .long g_sixthOf_spread, .long g_sixthOf_divisor])), (a_table, .inr (8, [.int g_table_places, .ref a_table_squares])), (a_table_squares, .inl ((zG Z).2.1 1, 49, .inl g_table_squares))] (again x1 x2 x3 x4 x5 g_groups g_laid g_offLine g_stands g_bonds g_sides g_sixthOf_divisor g_sixthOf_middle g_sixthOf_spread)) (hk114 : ∀ (x1 : Int32) (x2 : Int32) (x3 : Int32) (x4 : Int32) (g_groups : Int32) (g_laid : Int32) (g_offLine : Int32) (g_stands : Int32) (g_bonds : (Nat → Int32)) (g_sides : (Nat → Int32)) (g_sixthOf_divisor : Int64) (g_sixthOf_middle : Int64) (g_sixthOf_spread : Int64), Rn Z 7 (Option.map enc) 0 0 114 [(0, .ref a_this), (1, .int x1), (2, .int x2), (3, .int x3), (4, .int x4)] [] [(a_this, .inr (0, [.int g_laid, .int g_groups, .int g_stands, .ref a_table, .ref a_sixthOf, .ref a_sides, .ref a_bonds, .int g_offLine])), (a_bonds, .inl ((zG Z).2.1 1, 49, .inl g_bonds)), (a_sides, .inl ((zG Z).2.1 1, 7, .inl g_sides)), (a_sixthOf, .inr (7, [.long g_sixthOf_middle, .long g_sixthOf_spread, .long g_sixthOf_divisor])), (a_table, .inr (8, [.int g_table_places, .ref a_table_squares])), (a_table_squares, .inl ((zG Z).2.1 1, 49, .inl g_table_squares))] (k114 x1 x2 x3 x4 g_groups g_laid g_offLine g_stands g_bonds g_sides g_sixthOf_divisor g_sixthOf_middle g_sixthOf_spread)) (x1 : Int32) (x2 : Int32) (x3 : Int32) (x4 : Int32) (x5 : Int32) (g_groups : Int32) (g_laid : Int32) (g_offLine : Int32) (g_stands : Int32) (g_bonds : (Nat → Int32)) (g_sides : (Nat → Int32)) (g_sixthOf_divisor : Int64) (g_sixthOf_middle : Int64) (g_sixthOf_spread : Int64), Rn Z 7 (Option.map enc) 0 0 19 [(0, .ref a_this), (1, .int x1), (2, .int x2), (3, .int x3), (4, .int x4), (5, .int x5)] [] [(a_this, .inr (0, [.int g_laid, .int g_groups, .int g_stands, .ref a_table, .ref a_sixthOf, .ref a_sides, .ref a_bonds, .int g_offLine])), (a_bonds, .inl ((zG Z).2.1 1, 49, .inl g_bonds)), (a_sides, .inl ((zG Z).2.1 1, 7, .inl g_sides)), (a_sixthOf, .inr (7, [.long g_sixthOf_middle, .long g_sixthOf_spread, .long g_sixthOf_divisor])), (a_table, .inr (8, [.int g_table_places, .ref a_table_squares])), (a_table_squares, .inl ((zG Z).2.1 1, 49, .inl g_table_squares))] (X0_draw_B19 g_table_squares again k114 x1 x2 x3 x4 x5 g_groups g_laid g_offLine g_stands g_bonds g_sides g_sixthOf_divisor g_sixthOf_middle g_sixthOf_spread) := by
    intro again k114 hagain hk114 x1 x2 x3 x4 x5 g_groups g_laid g_offLine g_stands g_bonds g_sides g_sixthOf_divisor g_sixthOf_middle g_sixthOf_spread
    unfold X0_draw_B19
    refine rn_iload hX dX0_draw_19 5 rfl 21 rfl ?_
    refine rn_bipush hX dX0_draw_21 23 rfl bp_7 ?_
    refine rn_icmp_ge hX dX0_draw_23 114 (by decide) 26 rfl ?_ ?_
    · refine rn_sub [0, 1, 2, 3, 4] rfl ?_
      exact hk114 x1 x2 x3 x4 g_groups g_laid g_offLine g_stands g_bonds g_sides g_sixthOf_divisor g_sixthOf_middle g_sixthOf_spread
    refine rn_aload_n hX dX0_draw_26 0 rfl 27 rfl ?_
    refine rn_get hX inX0 0 rfl rfl 3 (by decide) fl9 rfl rfl dX0_draw_27 30 rfl ?_
    refine rn_iload hX dX0_draw_30 5 rfl 32 rfl ?_
    refine rn_iload hX dX0_draw_32 4 rfl 34 rfl ?_
    refine rn_bind (fun u11 hu11 => ?_)
    refine rn_callV0 hX (gV mcC wd_788 wd_512 wd_513 wd_73 wd_514) rfl hdV_X8_square rfl rfl ⟨Nat.le_of_ble_eq_true rfl, Nat.le_of_ble_eq_true rfl⟩ (c_X8_square (zl Z) (zG Z) a_table a_table_squares g_table_places g_table_squares x5 x4 hu11) rfl [4, 5] rfl rfl (ci := 8) rfl rfl rfl (Nat.le_of_ble_eq_true rfl) dX0_draw_34 37 rfl (S' := [.int u11]) rfl ⟨Nat.zero_le _, Nat.zero_le _⟩ ?_
    refine rn_if_le hX dX0_draw_37 73 (by decide) 40 rfl ?_ ?_
    · exact (hJ73 _ _ hagain hk114) x1 x2 x3 x4 x5 g_groups g_laid g_offLine g_stands g_bonds g_sides g_sixthOf_divisor g_sixthOf_middle g_sixthOf_spread
    refine rn_aload_n hX dX0_draw_40 0 rfl 41 rfl ?_
    refine rn_iload hX dX0_draw_41 5 rfl 43 rfl ?_
    refine rn_bind (fun u12 hu12 => ?_)
    refine rn_callV0 hX (gV mcC wd_789 wd_790 wd_791 wd_79 wd_792) rfl hdV_X0_isLaid rfl rfl ⟨Nat.le_of_ble_eq_true rfl, Nat.le_of_ble_eq_true rfl⟩ (c_X0_isLaid (zl Z) (zG Z) a_this a_table a_sixthOf a_sides a_bonds g_laid g_groups g_stands g_offLine x5 hu12) rfl [0] rfl rfl (ci := 0) rfl rfl rfl (Nat.le_of_ble_eq_true rfl) dX0_draw_43 46 rfl (S' := [.int u12]) rfl ⟨Nat.zero_le _, Nat.zero_le _⟩ ?_
    refine rn_if_eq hX dX0_draw_46 73 (by decide) 49 rfl ?_ ?_
    · exact (hJ73 _ _ hagain hk114) x1 x2 x3 x4 x5 g_groups g_laid g_offLine g_stands g_bonds g_sides g_sixthOf_divisor g_sixthOf_middle g_sixthOf_spread
    refine rn_aload_n hX dX0_draw_49 0 rfl 50 rfl ?_
    refine rn_iload hX dX0_draw_50 4 rfl 52 rfl ?_
    refine rn_bind (fun u13 hu13 => ?_)
    refine rn_callV0 hX (gV mcC wd_789 wd_790 wd_791 wd_79 wd_792) rfl hdV_X0_isLaid rfl rfl ⟨Nat.le_of_ble_eq_true rfl, Nat.le_of_ble_eq_true rfl⟩ (c_X0_isLaid (zl Z) (zG Z) a_this a_table a_sixthOf a_sides a_bonds g_laid g_groups g_stands g_offLine x4 hu13) rfl [0] rfl rfl (ci := 0) rfl rfl rfl (Nat.le_of_ble_eq_true rfl) dX0_draw_52 55 rfl (S' := [.int u13]) rfl ⟨Nat.zero_le _, Nat.zero_le _⟩ ?_
    refine rn_if_eq hX dX0_draw_55 73 (by decide) 58 rfl ?_ ?_
    · exact (hJ73 _ _ hagain hk114) x1 x2 x3 x4 x5 g_groups g_laid g_offLine g_stands g_bonds g_sides g_sixthOf_divisor g_sixthOf_middle g_sixthOf_spread
    refine rn_iload hX dX0_draw_58 5 rfl 60 rfl ?_
    refine rn_iload hX dX0_draw_60 4 rfl 62 rfl ?_
    refine rn_callSN0 hX (goodK mcC wd_564) rfl (host := "OnlyFar") hn_X0_43 (hX.wd (mcC _ wd_70)) (hX.wd (mcC _ wd_563)) hdS_X10_pairOf rfl rfl ⟨Nat.le_of_ble_eq_true rfl, Nat.le_of_ble_eq_true rfl⟩ (c_X10_pairOf (zl Z) (zG Z) x5 x4 rfl) rfl [] rfl rfl rfl (Nat.le_of_ble_eq_true rfl) dX0_draw_62 65 rfl (S' := [.int (X10_pairOf x5 x4)]) rfl ⟨Nat.zero_le _, Nat.zero_le _⟩ ?_
    refine rn_iload_n hX dX0_draw_65 3 rfl 66 rfl ?_
    refine rn_icmp_eq hX dX0_draw_66 73 (by decide) 69 rfl ?_ ?_
    · exact (hJ73 _ _ hagain hk114) x1 x2 x3 x4 x5 g_groups g_laid g_offLine g_stands g_bonds g_sides g_sixthOf_divisor g_sixthOf_middle g_sixthOf_spread
    refine rn_iconst hX dX0_draw_69 70 rfl ic_1 ?_
    refine rn_goto hX dX0_draw_70 74 (by decide) ?_
    exact (hJ74 _ _ hagain hk114) x1 x2 x3 x4 x5 (1 : Int32) g_groups g_laid g_offLine g_stands g_bonds g_sides g_sixthOf_divisor g_sixthOf_middle g_sixthOf_spread
  have hL19 : ∀ (k114 : Int32 → Int32 → Int32 → Int32 → Int32 → Int32 → Int32 → Int32 → (Nat → Int32) → (Nat → Int32) → Int64 → Int64 → Int64 → Option (Int32 × Int32 × Int32 × Int32 × (Nat → Int32) × (Nat → Int32) × Int64 × Int64 × Int64)) (hk114 : ∀ (x1 : Int32) (x2 : Int32) (x3 : Int32) (x4 : Int32) (g_groups : Int32) (g_laid : Int32) (g_offLine : Int32) (g_stands : Int32) (g_bonds : (Nat → Int32)) (g_sides : (Nat → Int32)) (g_sixthOf_divisor : Int64) (g_sixthOf_middle : Int64) (g_sixthOf_spread : Int64), Rn Z 7 (Option.map enc) 0 0 114 [(0, .ref a_this), (1, .int x1), (2, .int x2), (3, .int x3), (4, .int x4)] [] [(a_this, .inr (0, [.int g_laid, .int g_groups, .int g_stands, .ref a_table, .ref a_sixthOf, .ref a_sides, .ref a_bonds, .int g_offLine])), (a_bonds, .inl ((zG Z).2.1 1, 49, .inl g_bonds)), (a_sides, .inl ((zG Z).2.1 1, 7, .inl g_sides)), (a_sixthOf, .inr (7, [.long g_sixthOf_middle, .long g_sixthOf_spread, .long g_sixthOf_divisor])), (a_table, .inr (8, [.int g_table_places, .ref a_table_squares])), (a_table_squares, .inl ((zG Z).2.1 1, 49, .inl g_table_squares))] (k114 x1 x2 x3 x4 g_groups g_laid g_offLine g_stands g_bonds g_sides g_sixthOf_divisor g_sixthOf_middle g_sixthOf_spread)) (n : Nat) (x1 : Int32) (x2 : Int32) (x3 : Int32) (x4 : Int32) (x5 : Int32) (g_groups : Int32) (g_laid : Int32) (g_offLine : Int32) (g_stands : Int32) (g_bonds : (Nat → Int32)) (g_sides : (Nat → Int32)) (g_sixthOf_divisor : Int64) (g_sixthOf_middle : Int64) (g_sixthOf_spread : Int64), Rn Z 7 (Option.map enc) 0 0 19 [(0, .ref a_this), (1, .int x1), (2, .int x2), (3, .int x3), (4, .int x4), (5, .int x5)] [] [(a_this, .inr (0, [.int g_laid, .int g_groups, .int g_stands, .ref a_table, .ref a_sixthOf, .ref a_sides, .ref a_bonds, .int g_offLine])), (a_bonds, .inl ((zG Z).2.1 1, 49, .inl g_bonds)), (a_sides, .inl ((zG Z).2.1 1, 7, .inl g_sides)), (a_sixthOf, .inr (7, [.long g_sixthOf_middle, .long g_sixthOf_spread, .long g_sixthOf_divisor])), (a_table, .inr (8, [.int g_table_places, .ref a_table_squares])), (a_table_squares, .inl ((zG Z).2.1 1, 49, .inl g_table_squares))] (X0_draw_L19 g_table_squares k114 n x1 x2 x3 x4 x5 g_groups g_laid g_offLine g_stands g_bonds g_sides g_sixthOf_divisor g_sixthOf_middle g_sixthOf_spread) := by
    intro k114 hk114 n
    induction n with
    | zero => intros; exact rn_none
    | succ n ih => exact hB19 _ _ ih hk114
  have hB9 : ∀ (again : Int32 → Int32 → Int32 → Int32 → Int32 → Int32 → Int32 → Int32 → (Nat → Int32) → (Nat → Int32) → Int64 → Int64 → Int64 → Option (Int32 × Int32 × Int32 × Int32 × (Nat → Int32) × (Nat → Int32) × Int64 × Int64 × Int64)) (k120 : Int32 → Int32 → Int32 → Int32 → (Nat → Int32) → (Nat → Int32) → Int64 → Int64 → Int64 → Option (Int32 × Int32 × Int32 × Int32 × (Nat → Int32) × (Nat → Int32) × Int64 × Int64 × Int64)) (hagain : ∀ (x1 : Int32) (x2 : Int32) (x3 : Int32) (x4 : Int32) (g_groups : Int32) (g_laid : Int32) (g_offLine : Int32) (g_stands : Int32) (g_bonds : (Nat → Int32)) (g_sides : (Nat → Int32)) (g_sixthOf_divisor : Int64) (g_sixthOf_middle : Int64) (g_sixthOf_spread : Int64), Rn Z 7 (Option.map enc) 0 0 9 [(0, .ref a_this), (1, .int x1), (2, .int x2), (3, .int x3), (4, .int x4)] [] [(a_this, .inr (0, [.int g_laid, .int g_groups, .int g_stands, .ref a_table, .ref a_sixthOf, .ref a_sides, .ref a_bonds, .int g_offLine])), (a_bonds, .inl ((zG Z).2.1 1, 49, .inl g_bonds)), (a_sides, .inl ((zG Z).2.1 1, 7, .inl g_sides)), (a_sixthOf, .inr (7, [.long g_sixthOf_middle, .long g_sixthOf_spread, .long g_sixthOf_divisor])), (a_table, .inr (8, [.int g_table_places, .ref a_table_squares])), (a_table_squares, .inl ((zG Z).2.1 1, 49, .inl g_table_squares))] (again x1 x2 x3 x4 g_groups g_laid g_offLine g_stands g_bonds g_sides g_sixthOf_divisor g_sixthOf_middle g_sixthOf_spread)) (hk120 : ∀ (g_groups : Int32) (g_laid : Int32) (g_offLine : Int32) (g_stands : Int32) (g_bonds : (Nat → Int32)) (g_sides : (Nat → Int32)) (g_sixthOf_divisor : Int64) (g_sixthOf_middle : Int64) (g_sixthOf_spread : Int64), Rn Z 7 (Option.map enc) 0 0 120 [(0, .ref a_this)] [] [(a_this, .inr (0, [.int g_laid, .int g_groups, .int g_stands, .ref a_table, .ref a_sixthOf, .ref a_sides, .ref a_bonds, .int g_offLine])), (a_bonds, .inl ((zG Z).2.1 1, 49, .inl g_bonds)), (a_sides, .inl ((zG Z).2.1 1, 7, .inl g_sides)), (a_sixthOf, .inr (7, [.long g_sixthOf_middle, .long g_sixthOf_spread, .long g_sixthOf_divisor])), (a_table, .inr (8, [.int g_table_places, .ref a_table_squares])), (a_table_squares, .inl ((zG Z).2.1 1, 49, .inl g_table_squares))] (k120 g_groups g_laid g_offLine g_stands g_bonds g_sides g_sixthOf_divisor g_sixthOf_middle g_sixthOf_spread)) (x1 : Int32) (x2 : Int32) (x3 : Int32) (x4 : Int32) (g_groups : Int32) (g_laid : Int32) (g_offLine : Int32) (g_stands : Int32) (g_bonds : (Nat → Int32)) (g_sides : (Nat → Int32)) (g_sixthOf_divisor : Int64) (g_sixthOf_middle : Int64) (g_sixthOf_spread : Int64), Rn Z 7 (Option.map enc) 0 0 9 [(0, .ref a_this), (1, .int x1), (2, .int x2), (3, .int x3), (4, .int x4)] [] [(a_this, .inr (0, [.int g_laid, .int g_groups, .int g_stands, .ref a_table, .ref a_sixthOf, .ref a_sides, .ref a_bonds, .int g_offLine])), (a_bonds, .inl ((zG Z).2.1 1, 49, .inl g_bonds)), (a_sides, .inl ((zG Z).2.1 1, 7, .inl g_sides)), (a_sixthOf, .inr (7, [.long g_sixthOf_middle, .long g_sixthOf_spread, .long g_sixthOf_divisor])), (a_table, .inr (8, [.int g_table_places, .ref a_table_squares])), (a_table_squares, .inl ((zG Z).2.1 1, 49, .inl g_table_squares))] (X0_draw_B9 g_table_squares again k120 x1 x2 x3 x4 g_groups g_laid g_offLine g_stands g_bonds g_sides g_sixthOf_divisor g_sixthOf_middle g_sixthOf_spread) := by
    intro again k120 hagain hk120 x1 x2 x3 x4 g_groups g_laid g_offLine g_stands g_bonds g_sides g_sixthOf_divisor g_sixthOf_middle g_sixthOf_spread
    unfold X0_draw_B9
    refine rn_iload hX dX0_draw_9 4 rfl 11 rfl ?_
    refine rn_bipush hX dX0_draw_11 13 rfl bp_7 ?_
    refine rn_icmp_ge hX dX0_draw_13 120 (by decide) 16 rfl ?_ ?_
    · refine rn_sub [0] rfl ?_
      exact hk120 g_groups g_laid g_offLine g_stands g_bonds g_sides g_sixthOf_divisor g_sixthOf_middle g_sixthOf_spread
    refine rn_iconst hX dX0_draw_16 17 rfl ic_0 ?_
    refine rn_istore hX dX0_draw_17 (by decide) (L' := [(5, .int (0 : Int32)), (0, .ref a_this), (1, .int x1), (2, .int x2), (3, .int x3), (4, .int x4)]) rfl 19 rfl ?_
    refine rn_sub [1, 2, 3, 4, 5, 0] rfl ?_
    exact (hL19 _ (hJ114 _ _ hagain hk120) 1000) x1 x2 x3 x4 (0 : Int32) g_groups g_laid g_offLine g_stands g_bonds g_sides g_sixthOf_divisor g_sixthOf_middle g_sixthOf_spread
  have hL9 : ∀ (k120 : Int32 → Int32 → Int32 → Int32 → (Nat → Int32) → (Nat → Int32) → Int64 → Int64 → Int64 → Option (Int32 × Int32 × Int32 × Int32 × (Nat → Int32) × (Nat → Int32) × Int64 × Int64 × Int64)) (hk120 : ∀ (g_groups : Int32) (g_laid : Int32) (g_offLine : Int32) (g_stands : Int32) (g_bonds : (Nat → Int32)) (g_sides : (Nat → Int32)) (g_sixthOf_divisor : Int64) (g_sixthOf_middle : Int64) (g_sixthOf_spread : Int64), Rn Z 7 (Option.map enc) 0 0 120 [(0, .ref a_this)] [] [(a_this, .inr (0, [.int g_laid, .int g_groups, .int g_stands, .ref a_table, .ref a_sixthOf, .ref a_sides, .ref a_bonds, .int g_offLine])), (a_bonds, .inl ((zG Z).2.1 1, 49, .inl g_bonds)), (a_sides, .inl ((zG Z).2.1 1, 7, .inl g_sides)), (a_sixthOf, .inr (7, [.long g_sixthOf_middle, .long g_sixthOf_spread, .long g_sixthOf_divisor])), (a_table, .inr (8, [.int g_table_places, .ref a_table_squares])), (a_table_squares, .inl ((zG Z).2.1 1, 49, .inl g_table_squares))] (k120 g_groups g_laid g_offLine g_stands g_bonds g_sides g_sixthOf_divisor g_sixthOf_middle g_sixthOf_spread)) (n : Nat) (x1 : Int32) (x2 : Int32) (x3 : Int32) (x4 : Int32) (g_groups : Int32) (g_laid : Int32) (g_offLine : Int32) (g_stands : Int32) (g_bonds : (Nat → Int32)) (g_sides : (Nat → Int32)) (g_sixthOf_divisor : Int64) (g_sixthOf_middle : Int64) (g_sixthOf_spread : Int64), Rn Z 7 (Option.map enc) 0 0 9 [(0, .ref a_this), (1, .int x1), (2, .int x2), (3, .int x3), (4, .int x4)] [] [(a_this, .inr (0, [.int g_laid, .int g_groups, .int g_stands, .ref a_table, .ref a_sixthOf, .ref a_sides, .ref a_bonds, .int g_offLine])), (a_bonds, .inl ((zG Z).2.1 1, 49, .inl g_bonds)), (a_sides, .inl ((zG Z).2.1 1, 7, .inl g_sides)), (a_sixthOf, .inr (7, [.long g_sixthOf_middle, .long g_sixthOf_spread, .long g_sixthOf_divisor])), (a_table, .inr (8, [.int g_table_places, .ref a_table_squares])), (a_table_squares, .inl ((zG Z).2.1 1, 49, .inl g_table_squares))] (X0_draw_L9 g_table_squares k120 n x1 x2 x3 x4 g_groups g_laid g_offLine g_stands g_bonds g_sides g_sixthOf_divisor g_sixthOf_middle g_sixthOf_spread) := by
    intro k120 hk120 n
    induction n with
    | zero => intros; exact rn_none
    | succ n ih => exact hB9 _ _ ih hk120
  unfold X0_draw
  refine rn_aload_n hX dX0_draw_0 0 rfl 1 rfl ?_
  refine rn_iload_n hX dX0_draw_1 1 rfl 2 rfl ?_
  refine rn_iload_n hX dX0_draw_2 2 rfl 3 rfl ?_
  refine rn_bind (fun u14 hu14 => ?_)
  refine rn_callV hX (gV mcC wd_782 wd_784 wd_16 wd_79 wd_785) rfl hdV_X0_layPlaces rfl rfl ⟨Nat.le_of_ble_eq_true rfl, Nat.le_of_ble_eq_true rfl⟩ (c_X0_layPlaces (zl Z) (zG Z) a_this a_table a_table_squares a_sixthOf a_sides a_bonds g_laid g_groups g_stands g_offLine g_table_places g_table_squares x1 x2 hu14) rfl [0, 4, 5] rfl rfl rfl (ci := 0) rfl rfl rfl (Nat.le_of_ble_eq_true rfl) dX0_draw_3 6 rfl (wn := [(a_this, .inr (0, [.int u14.1, .int g_groups, .int g_stands, .ref a_table, .ref a_sixthOf, .ref a_sides, .ref a_bonds, .int u14.2])), (a_bonds, .inl ((zG Z).2.1 1, 49, .inl g_bonds)), (a_sides, .inl ((zG Z).2.1 1, 7, .inl g_sides)), (a_sixthOf, .inr (7, [.long g_sixthOf_middle, .long g_sixthOf_spread, .long g_sixthOf_divisor])), (a_table, .inr (8, [.int g_table_places, .ref a_table_squares])), (a_table_squares, .inl ((zG Z).2.1 1, 49, .inl g_table_squares))]) rfl (S' := []) rfl ⟨Nat.zero_le _, Nat.zero_le _⟩ ?_
  refine rn_iconst hX dX0_draw_6 7 rfl ic_0 ?_
  refine rn_istore hX dX0_draw_7 (by decide) (L' := [(4, .int (0 : Int32)), (0, .ref a_this), (1, .int x1), (2, .int x2), (3, .int x3)]) rfl 9 rfl ?_
  refine rn_sub [1, 2, 3, 4, 0] rfl ?_
  exact (hL9 _ hJ120 1000) x1 x2 x3 (0 : Int32) g_groups u14.1 u14.2 g_stands g_bonds g_sides g_sixthOf_divisor g_sixthOf_middle g_sixthOf_spread
abbrev rmX0_ways : Room := { frames := 0, cells := 0, slots := 0, locals := 0 }
theorem hdV_X0_ways : yX0_ways.cls = RX0 ∧ yX0_ways.cls ≠ "java/lang/invoke/MethodHandle" ∧ yX0_ways.cls ≠ "java/lang/invoke/VarHandle" ∧ (parseMethodDescriptor yX0_ways.desc).map (fun d => d.parameters.length) = some 0 := by decide +kernel
set_option maxHeartbeats 4000000 in
set_option maxRecDepth 100000 in
theorem c_X0_ways (l : Launch) (G : GT) (a_this a_table a_sixthOf a_sides a_bonds : Nat) (g_laid : Int32) (g_groups : Int32) (g_stands : Int32) (g_offLine : Int32) {u : Int32} (hu : X0_ways g_groups g_stands = u) : Ctr l G yX0_ways wsX0_ways rmX0_ways [.ref a_this] [(a_this, .inr (0, [.int g_laid, .int g_groups, .int g_stands, .ref a_table, .ref a_sixthOf, .ref a_sides, .ref a_bonds, .int g_offLine]))] (some (.int u)) [(a_this, .inr (0, [.int g_laid, .int g_groups, .int g_stands, .ref a_table, .ref a_sixthOf, .ref a_sides, .ref a_bonds, .int g_offLine]))] := by
  obtain ⟨enc, henc⟩ : ∃ enc : (Int32) → Option Value × va_W, enc = fun u => (((some (.int u)) : Option Value), ([(a_this, .inr (0, [.int g_laid, .int g_groups, .int g_stands, .ref a_table, .ref a_sixthOf, .ref a_sides, .ref a_bonds, .int g_offLine]))] : va_W)) := ⟨_, rfl⟩
  refine ctr_of (cc := cX0_ways) (own := RX0) (E := fun o => some (enc o)) (o := X0_ways g_groups g_stands) (by decide) rfl rfl (L := [(0, .ref a_this)]) rfl (Nat.le_of_ble_eq_true rfl) (by rw [hu, henc]) ?_
  intro Z hX hl hG hr
  subst hl; subst hG
  have fl53 : (Cond.fieldLink RX0 53 "OnlyFar$Drawing" "stands" "Z").before (za Z) (zs Z) = true := hX.wd (mcC _ wd_304)
  have fl61 : (Cond.fieldLink RX0 61 "OnlyFar$Drawing" "groups" "I").before (za Z) (zs Z) = true := hX.wd (mcC _ wd_302)
  have inX0 : ∀ w ∈ u_ws RX0 TX0 8, w ∈ wsX0_ways := fun w h => mcC w (inC_X0 w h)
  unfold X0_ways
  refine rn_aload_n hX dX0_ways_0 0 rfl 1 rfl ?_
  refine rn_get hX inX0 0 rfl rfl 2 (by decide) fl53 rfl rfl dX0_ways_1 4 rfl ?_
  refine rn_if_ne hX dX0_ways_4 9 (by decide) 7 rfl ?_ ?_
  · refine rn_aload_n hX dX0_ways_9 0 rfl 10 rfl ?_
    refine rn_get hX inX0 0 rfl rfl 1 (by decide) fl61 rfl rfl dX0_ways_10 13 rfl ?_
    refine rn_iconst hX dX0_ways_13 14 rfl ic_1 ?_
    refine rn_icmp_le hX dX0_ways_14 28 (by decide) 17 rfl ?_ ?_
    · refine rn_iconst hX dX0_ways_28 29 rfl ic_1 ?_
      exact rn_iret hX hr (by rw [henc]) dX0_ways_29
    refine rn_iconst hX dX0_ways_17 18 rfl ic_1 ?_
    refine rn_aload_n hX dX0_ways_18 0 rfl 19 rfl ?_
    refine rn_get hX inX0 0 rfl rfl 1 (by decide) fl61 rfl rfl dX0_ways_19 22 rfl ?_
    refine rn_iconst hX dX0_ways_22 23 rfl ic_1 ?_
    refine rn_isub hX dX0_ways_23 24 rfl ?_
    refine rn_ishl hX dX0_ways_24 25 rfl ?_
    refine rn_goto hX dX0_ways_25 29 (by decide) ?_
    exact rn_iret hX hr (by rw [henc]) dX0_ways_29
  refine rn_iconst hX dX0_ways_7 8 rfl ic_0 ?_
  exact rn_iret hX hr (by rw [henc]) dX0_ways_8
abbrev rmX0_sideOf : Room := { frames := 0, cells := 0, slots := 0, locals := 0 }
theorem hdV_X0_sideOf : yX0_sideOf.cls = RX0 ∧ yX0_sideOf.cls ≠ "java/lang/invoke/MethodHandle" ∧ yX0_sideOf.cls ≠ "java/lang/invoke/VarHandle" ∧ (parseMethodDescriptor yX0_sideOf.desc).map (fun d => d.parameters.length) = some 1 := by decide +kernel
set_option maxHeartbeats 4000000 in
set_option maxRecDepth 100000 in
theorem c_X0_sideOf (l : Launch) (G : GT) (a_this a_sides a_table a_sixthOf a_bonds : Nat) (g_laid : Int32) (g_groups : Int32) (g_stands : Int32) (g_offLine : Int32) (g_sides : (Nat → Int32)) (x1 : Int32) {u : Int32} (hu : X0_sideOf x1 g_sides = some u) : Ctr l G yX0_sideOf wsX0_sideOf rmX0_sideOf [.ref a_this, .int x1] [(a_this, .inr (0, [.int g_laid, .int g_groups, .int g_stands, .ref a_table, .ref a_sixthOf, .ref a_sides, .ref a_bonds, .int g_offLine])), (a_sides, .inl (G.2.1 1, 7, .inl g_sides))] (some (.int u)) [(a_this, .inr (0, [.int g_laid, .int g_groups, .int g_stands, .ref a_table, .ref a_sixthOf, .ref a_sides, .ref a_bonds, .int g_offLine])), (a_sides, .inl (G.2.1 1, 7, .inl g_sides))] := by
  obtain ⟨enc, henc⟩ : ∃ enc : (Int32) → Option Value × va_W, enc = fun u => (((some (.int u)) : Option Value), ([(a_this, .inr (0, [.int g_laid, .int g_groups, .int g_stands, .ref a_table, .ref a_sixthOf, .ref a_sides, .ref a_bonds, .int g_offLine])), (a_sides, .inl (G.2.1 1, 7, .inl g_sides))] : va_W)) := ⟨_, rfl⟩
  refine ctr_of (cc := cX0_sideOf) (own := RX0) (E := Option.map enc) (o := X0_sideOf x1 g_sides) (by decide) rfl rfl (L := [(0, .ref a_this), (1, .int x1)]) rfl (Nat.le_of_ble_eq_true rfl) (by rw [hu, henc]; rfl) ?_
  intro Z hX hl hG hr
  subst hl; subst hG
  have fl22 : (Cond.fieldLink RX0 22 "OnlyFar$Drawing" "sides" "[I").before (za Z) (zs Z) = true := hX.wd (mcC _ wd_308)
  have inX0 : ∀ w ∈ u_ws RX0 TX0 8, w ∈ wsX0_sideOf := fun w h => mcC w (inC_X0 w h)
  unfold X0_sideOf
  refine rn_iload_n hX dX0_sideOf_0 1 rfl 1 rfl ?_
  refine rn_if_lt hX dX0_sideOf_1 19 (by decide) 4 rfl ?_ ?_
  · refine rn_iconst hX dX0_sideOf_19 20 rfl ic_0 ?_
    exact rn_iret hX hr (by rw [henc]; rfl) dX0_sideOf_20
  refine rn_iload_n hX dX0_sideOf_4 1 rfl 5 rfl ?_
  refine rn_bipush hX dX0_sideOf_5 7 rfl bp_7 ?_
  refine rn_icmp_ge hX dX0_sideOf_7 19 (by decide) 10 rfl ?_ ?_
  · refine rn_iconst hX dX0_sideOf_19 20 rfl ic_0 ?_
    exact rn_iret hX hr (by rw [henc]; rfl) dX0_sideOf_20
  refine rn_aload_n hX dX0_sideOf_10 0 rfl 11 rfl ?_
  refine rn_get hX inX0 0 rfl rfl 5 (by decide) fl22 rfl rfl dX0_sideOf_11 14 rfl ?_
  refine rn_iload_n hX dX0_sideOf_14 1 rfl 15 rfl ?_
  refine rn_gd (fun hi1 => ?_)
  refine rn_iald hX 1 rfl hi1 dX0_sideOf_15 16 rfl ?_
  refine rn_goto hX dX0_sideOf_16 20 (by decide) ?_
  exact rn_iret hX hr (by rw [henc]; rfl) dX0_sideOf_20
abbrev rmX1_pairsOfThree : Room := { frames := 2, cells := 0, slots := 0, locals := 43 }
theorem hdS_X1_pairsOfThree : yX1_pairsOfThree.cls ≠ "java/lang/invoke/MethodHandle" ∧ yX1_pairsOfThree.cls ≠ "java/lang/invoke/VarHandle" ∧ (parseMethodDescriptor yX1_pairsOfThree.desc).map (fun d => d.parameters.length) = some 3 := by decide +kernel
set_option maxHeartbeats 4000000 in
set_option maxRecDepth 100000 in
theorem c_X1_pairsOfThree (l : Launch) (G : GT) (x0 : Int32) (x1 : Int32) (x2 : Int32) {u : Int32} (hu : X1_pairsOfThree x0 x1 x2 = u) : Ctr l G yX1_pairsOfThree wsX1_pairsOfThree rmX1_pairsOfThree [.int x0, .int x1, .int x2] [] (some (.int u)) [] := by
  obtain ⟨enc, henc⟩ : ∃ enc : (Int32) → Option Value × va_W, enc = fun u => (((some (.int u)) : Option Value), ([] : va_W)) := ⟨_, rfl⟩
  refine ctr_of (cc := cX1_pairsOfThree) (own := RX1) (E := fun o => some (enc o)) (o := X1_pairsOfThree x0 x1 x2) (by decide) rfl rfl (L := [(0, .int x0), (1, .int x1), (2, .int x2)]) rfl (Nat.le_of_ble_eq_true rfl) (by rw [hu, henc]) ?_
  intro Z hX hl hG hr
  subst hl; subst hG
  unfold X1_pairsOfThree
  refine rn_iconst hX dX1_pairsOfThree_0 1 rfl ic_1 ?_
  refine rn_iload_n hX dX1_pairsOfThree_1 0 rfl 2 rfl ?_
  refine rn_iload_n hX dX1_pairsOfThree_2 1 rfl 3 rfl ?_
  refine rn_callSN0 hX (goodK mcC wd_564) rfl (host := "OnlyFar") hn_X1_63 (hX.wd (mcC _ wd_70)) (hX.wd (mcC _ wd_563)) hdS_X10_pairOf rfl rfl ⟨Nat.le_of_ble_eq_true rfl, Nat.le_of_ble_eq_true rfl⟩ (c_X10_pairOf (zl Z) (zG Z) x0 x1 rfl) rfl [] rfl rfl rfl (Nat.le_of_ble_eq_true rfl) dX1_pairsOfThree_3 6 rfl (S' := [.int (X10_pairOf x0 x1), .int (1 : Int32)]) rfl ⟨Nat.zero_le _, Nat.zero_le _⟩ ?_
  refine rn_ishl hX dX1_pairsOfThree_6 7 rfl ?_
  refine rn_iconst hX dX1_pairsOfThree_7 8 rfl ic_1 ?_
  refine rn_iload_n hX dX1_pairsOfThree_8 0 rfl 9 rfl ?_
  refine rn_iload_n hX dX1_pairsOfThree_9 2 rfl 10 rfl ?_
  refine rn_callSN0 hX (goodK mcC wd_564) rfl (host := "OnlyFar") hn_X1_63 (hX.wd (mcC _ wd_70)) (hX.wd (mcC _ wd_563)) hdS_X10_pairOf rfl rfl ⟨Nat.le_of_ble_eq_true rfl, Nat.le_of_ble_eq_true rfl⟩ (c_X10_pairOf (zl Z) (zG Z) x0 x2 rfl) rfl [] rfl rfl rfl (Nat.le_of_ble_eq_true rfl) dX1_pairsOfThree_10 13 rfl (S' := [.int (X10_pairOf x0 x2), .int (1 : Int32), .int ((1 : Int32) <<< ((X10_pairOf x0 x1) &&& 31))]) rfl ⟨Nat.zero_le _, Nat.zero_le _⟩ ?_
  refine rn_ishl hX dX1_pairsOfThree_13 14 rfl ?_
  refine rn_ior hX dX1_pairsOfThree_14 15 rfl ?_
  refine rn_iconst hX dX1_pairsOfThree_15 16 rfl ic_1 ?_
  refine rn_iload_n hX dX1_pairsOfThree_16 1 rfl 17 rfl ?_
  refine rn_iload_n hX dX1_pairsOfThree_17 2 rfl 18 rfl ?_
  refine rn_callSN0 hX (goodK mcC wd_564) rfl (host := "OnlyFar") hn_X1_63 (hX.wd (mcC _ wd_70)) (hX.wd (mcC _ wd_563)) hdS_X10_pairOf rfl rfl ⟨Nat.le_of_ble_eq_true rfl, Nat.le_of_ble_eq_true rfl⟩ (c_X10_pairOf (zl Z) (zG Z) x1 x2 rfl) rfl [] rfl rfl rfl (Nat.le_of_ble_eq_true rfl) dX1_pairsOfThree_18 21 rfl (S' := [.int (X10_pairOf x1 x2), .int (1 : Int32), .int (((1 : Int32) <<< ((X10_pairOf x0 x1) &&& 31)) ||| ((1 : Int32) <<< ((X10_pairOf x0 x2) &&& 31)))]) rfl ⟨Nat.zero_le _, Nat.zero_le _⟩ ?_
  refine rn_ishl hX dX1_pairsOfThree_21 22 rfl ?_
  refine rn_ior hX dX1_pairsOfThree_22 23 rfl ?_
  exact rn_iret hX hr (by rw [henc]) dX1_pairsOfThree_23
abbrev rmX1_add : Room := { frames := 0, cells := 0, slots := 0, locals := 0 }
theorem hdV_X1_add : yX1_add.cls = RX1 ∧ yX1_add.cls ≠ "java/lang/invoke/MethodHandle" ∧ yX1_add.cls ≠ "java/lang/invoke/VarHandle" ∧ (parseMethodDescriptor yX1_add.desc).map (fun d => d.parameters.length) = some 1 := by decide +kernel
set_option maxHeartbeats 4000000 in
set_option maxRecDepth 100000 in
theorem c_X1_add (l : Launch) (G : GT) (a_this a_flaws : Nat) (g_badThrees : Int32) (g_badFours : Int32) (g_flatThrees : Int32) (g_toldThrees : Int32) (g_size : Int32) (g_fewest : Int32) (g_flaws : (Nat → Int32)) (x1 : Int32) {u : Int32 × (Nat → Int32)} (hu : X1_add x1 g_size g_flaws = some u) : Ctr l G yX1_add wsX1_add rmX1_add [.ref a_this, .int x1] [(a_this, .inr (1, [.int g_badThrees, .int g_badFours, .int g_flatThrees, .int g_toldThrees, .ref a_flaws, .int g_size, .int g_fewest])), (a_flaws, .inl (G.2.1 1, 70, .inl g_flaws))] none [(a_this, .inr (1, [.int g_badThrees, .int g_badFours, .int g_flatThrees, .int g_toldThrees, .ref a_flaws, .int u.1, .int g_fewest])), (a_flaws, .inl (G.2.1 1, 70, .inl u.2))] := by
  obtain ⟨enc, henc⟩ : ∃ enc : (Int32 × (Nat → Int32)) → Option Value × va_W, enc = fun u => ((none : Option Value), ([(a_this, .inr (1, [.int g_badThrees, .int g_badFours, .int g_flatThrees, .int g_toldThrees, .ref a_flaws, .int u.1, .int g_fewest])), (a_flaws, .inl (G.2.1 1, 70, .inl u.2))] : va_W)) := ⟨_, rfl⟩
  refine ctr_of (cc := cX1_add) (own := RX1) (E := Option.map enc) (o := X1_add x1 g_size g_flaws) (by decide) rfl rfl (L := [(0, .ref a_this), (1, .int x1)]) rfl (Nat.le_of_ble_eq_true rfl) (by rw [hu, henc]; rfl) ?_
  intro Z hX hl hG hr
  subst hl; subst hG
  have fl11 : (Cond.fieldLink RX1 11 "OnlyFar$Flaws" "flaws" "[I").before (za Z) (zs Z) = true := hX.wd (mcC _ wd_252)
  have fl28 : (Cond.fieldLink RX1 28 "OnlyFar$Flaws" "size" "I").before (za Z) (zs Z) = true := hX.wd (mcC _ wd_253)
  have inX1 : ∀ w ∈ u_ws RX1 TX1 7, w ∈ wsX1_add := fun w h => mcC w (inC_X1 w h)
  unfold X1_add
  refine rn_aload_n hX dX1_add_0 0 rfl 1 rfl ?_
  refine rn_get hX inX1 0 rfl rfl 5 (by decide) fl28 rfl rfl dX1_add_1 4 rfl ?_
  refine rn_if_lt hX dX1_add_4 36 (by decide) 7 rfl ?_ ?_
  · exact rn_vret hX hr (by rw [henc]; rfl) dX1_add_36
  refine rn_aload_n hX dX1_add_7 0 rfl 8 rfl ?_
  refine rn_get hX inX1 0 rfl rfl 5 (by decide) fl28 rfl rfl dX1_add_8 11 rfl ?_
  refine rn_bipush hX dX1_add_11 13 rfl bp_70 ?_
  refine rn_icmp_ge hX dX1_add_13 36 (by decide) 16 rfl ?_ ?_
  · exact rn_vret hX hr (by rw [henc]; rfl) dX1_add_36
  refine rn_aload_n hX dX1_add_16 0 rfl 17 rfl ?_
  refine rn_get hX inX1 0 rfl rfl 4 (by decide) fl11 rfl rfl dX1_add_17 20 rfl ?_
  refine rn_aload_n hX dX1_add_20 0 rfl 21 rfl ?_
  refine rn_get hX inX1 0 rfl rfl 5 (by decide) fl28 rfl rfl dX1_add_21 24 rfl ?_
  refine rn_iload_n hX dX1_add_24 1 rfl 25 rfl ?_
  refine rn_gd (fun hi1 => ?_)
  refine rn_iast hX 1 rfl hi1 dX1_add_25 26 rfl (w1 := fun m2 => [(a_this, .inr (1, [.int g_badThrees, .int g_badFours, .int g_flatThrees, .int g_toldThrees, .ref a_flaws, .int g_size, .int g_fewest])), (a_flaws, .inl ((zG Z).2.1 1, 70, .inl m2))]) (fun _ => rfl) (fun m2 => ?_)
  refine rn_aload_n hX dX1_add_26 0 rfl 27 rfl ?_
  refine rn_dup hX dX1_add_27 28 rfl rfl ?_
  refine rn_get hX inX1 0 rfl rfl 5 (by decide) fl28 rfl rfl dX1_add_28 31 rfl ?_
  refine rn_iconst hX dX1_add_31 32 rfl ic_1 ?_
  refine rn_iadd hX dX1_add_32 33 rfl ?_
  refine rn_lati (fun v3 => ?_)
  refine rn_put hX inX1 tyX1_ok nmX1 0 rfl rfl 5 (by decide) fl28 rfl rfl rfl rfl (Nat.le_of_ble_eq_true rfl) dX1_add_33 36 rfl (w1 := [(a_this, .inr (1, [.int g_badThrees, .int g_badFours, .int g_flatThrees, .int g_toldThrees, .ref a_flaws, .int v3, .int g_fewest])), (a_flaws, .inl ((zG Z).2.1 1, 70, .inl m2))]) rfl ?_
  exact rn_vret hX hr (by rw [henc]; rfl) dX1_add_36
abbrev rmX8_isToldFour : Room := { frames := 2, cells := 0, slots := 0, locals := 45 }
theorem hdV_X8_isToldFour : yX8_isToldFour.cls = RX8 ∧ yX8_isToldFour.cls ≠ "java/lang/invoke/MethodHandle" ∧ yX8_isToldFour.cls ≠ "java/lang/invoke/VarHandle" ∧ (parseMethodDescriptor yX8_isToldFour.desc).map (fun d => d.parameters.length) = some 4 := by decide +kernel
set_option maxHeartbeats 4000000 in
set_option maxRecDepth 100000 in
theorem c_X8_isToldFour (l : Launch) (G : GT) (a_this a_squares : Nat) (g_places : Int32) (g_squares : (Nat → Int32)) (x1 : Int32) (x2 : Int32) (x3 : Int32) (x4 : Int32) {u : Int32} (hu : X8_isToldFour x1 x2 x3 x4 g_squares = some u) : Ctr l G yX8_isToldFour wsX8_isToldFour rmX8_isToldFour [.ref a_this, .int x1, .int x2, .int x3, .int x4] [(a_this, .inr (8, [.int g_places, .ref a_squares])), (a_squares, .inl (G.2.1 1, 49, .inl g_squares))] (some (.int u)) [(a_this, .inr (8, [.int g_places, .ref a_squares])), (a_squares, .inl (G.2.1 1, 49, .inl g_squares))] := by
  obtain ⟨enc, henc⟩ : ∃ enc : (Int32) → Option Value × va_W, enc = fun u => (((some (.int u)) : Option Value), ([(a_this, .inr (8, [.int g_places, .ref a_squares])), (a_squares, .inl (G.2.1 1, 49, .inl g_squares))] : va_W)) := ⟨_, rfl⟩
  refine ctr_of (cc := cX8_isToldFour) (own := RX8) (E := Option.map enc) (o := X8_isToldFour x1 x2 x3 x4 g_squares) (by decide) rfl rfl (L := [(0, .ref a_this), (1, .int x1), (2, .int x2), (3, .int x3), (4, .int x4)]) rfl (Nat.le_of_ble_eq_true rfl) (by rw [hu, henc]; rfl) ?_
  intro Z hX hl hG hr
  subst hl; subst hG
  unfold X8_isToldFour
  refine rn_aload_n hX dX8_isToldFour_0 0 rfl 1 rfl ?_
  refine rn_iload_n hX dX8_isToldFour_1 1 rfl 2 rfl ?_
  refine rn_iload_n hX dX8_isToldFour_2 2 rfl 3 rfl ?_
  refine rn_iload_n hX dX8_isToldFour_3 3 rfl 4 rfl ?_
  refine rn_bind (fun u1 hu1 => ?_)
  refine rn_callV0 hX (gV mcC wd_617 wd_580 wd_581 wd_73 wd_582) rfl hdV_X8_isToldThree rfl rfl ⟨Nat.le_of_ble_eq_true rfl, Nat.le_of_ble_eq_true rfl⟩ (c_X8_isToldThree (zl Z) (zG Z) a_this a_squares g_places g_squares x1 x2 x3 hu1) rfl [0, 1] rfl rfl (ci := 8) rfl rfl rfl (Nat.le_of_ble_eq_true rfl) dX8_isToldFour_4 7 rfl (S' := [.int u1]) rfl ⟨Nat.zero_le _, Nat.zero_le _⟩ ?_
  refine rn_if_eq hX dX8_isToldFour_7 35 (by decide) 10 rfl ?_ ?_
  · refine rn_iconst hX dX8_isToldFour_35 36 rfl ic_0 ?_
    exact rn_zret hX rfl hr (by rw [henc]; rfl) dX8_isToldFour_36
  refine rn_aload_n hX dX8_isToldFour_10 0 rfl 11 rfl ?_
  refine rn_iload_n hX dX8_isToldFour_11 1 rfl 12 rfl ?_
  refine rn_iload_n hX dX8_isToldFour_12 2 rfl 13 rfl ?_
  refine rn_iload hX dX8_isToldFour_13 4 rfl 15 rfl ?_
  refine rn_bind (fun u2 hu2 => ?_)
  refine rn_callV0 hX (gV mcC wd_617 wd_580 wd_581 wd_73 wd_582) rfl hdV_X8_isToldThree rfl rfl ⟨Nat.le_of_ble_eq_true rfl, Nat.le_of_ble_eq_true rfl⟩ (c_X8_isToldThree (zl Z) (zG Z) a_this a_squares g_places g_squares x1 x2 x4 hu2) rfl [0, 1] rfl rfl (ci := 8) rfl rfl rfl (Nat.le_of_ble_eq_true rfl) dX8_isToldFour_15 18 rfl (S' := [.int u2]) rfl ⟨Nat.zero_le _, Nat.zero_le _⟩ ?_
  refine rn_if_eq hX dX8_isToldFour_18 35 (by decide) 21 rfl ?_ ?_
  · refine rn_iconst hX dX8_isToldFour_35 36 rfl ic_0 ?_
    exact rn_zret hX rfl hr (by rw [henc]; rfl) dX8_isToldFour_36
  refine rn_aload_n hX dX8_isToldFour_21 0 rfl 22 rfl ?_
  refine rn_iload_n hX dX8_isToldFour_22 3 rfl 23 rfl ?_
  refine rn_iload hX dX8_isToldFour_23 4 rfl 25 rfl ?_
  refine rn_bind (fun u3 hu3 => ?_)
  refine rn_callV0 hX (gV mcC wd_549 wd_512 wd_513 wd_73 wd_514) rfl hdV_X8_square rfl rfl ⟨Nat.le_of_ble_eq_true rfl, Nat.le_of_ble_eq_true rfl⟩ (c_X8_square (zl Z) (zG Z) a_this a_squares g_places g_squares x3 x4 hu3) rfl [0, 1] rfl rfl (ci := 8) rfl rfl rfl (Nat.le_of_ble_eq_true rfl) dX8_isToldFour_25 28 rfl (S' := [.int u3]) rfl ⟨Nat.zero_le _, Nat.zero_le _⟩ ?_
  refine rn_if_le hX dX8_isToldFour_28 35 (by decide) 31 rfl ?_ ?_
  · refine rn_iconst hX dX8_isToldFour_35 36 rfl ic_0 ?_
    exact rn_zret hX rfl hr (by rw [henc]; rfl) dX8_isToldFour_36
  refine rn_iconst hX dX8_isToldFour_31 32 rfl ic_1 ?_
  refine rn_goto hX dX8_isToldFour_32 36 (by decide) ?_
  exact rn_zret hX rfl hr (by rw [henc]; rfl) dX8_isToldFour_36
abbrev rmX8_canBeThree : Room := { frames := 2, cells := 0, slots := 0, locals := 50 }
theorem hdV_X8_canBeThree : yX8_canBeThree.cls = RX8 ∧ yX8_canBeThree.cls ≠ "java/lang/invoke/MethodHandle" ∧ yX8_canBeThree.cls ≠ "java/lang/invoke/VarHandle" ∧ (parseMethodDescriptor yX8_canBeThree.desc).map (fun d => d.parameters.length) = some 3 := by decide +kernel
set_option maxHeartbeats 4000000 in
set_option maxRecDepth 100000 in
theorem c_X8_canBeThree (l : Launch) (G : GT) (a_this a_squares : Nat) (g_places : Int32) (g_squares : (Nat → Int32)) (x1 : Int32) (x2 : Int32) (x3 : Int32) {u : Int32} (hu : X8_canBeThree x1 x2 x3 g_squares = some u) : Ctr l G yX8_canBeThree wsX8_canBeThree rmX8_canBeThree [.ref a_this, .int x1, .int x2, .int x3] [(a_this, .inr (8, [.int g_places, .ref a_squares])), (a_squares, .inl (G.2.1 1, 49, .inl g_squares))] (some (.int u)) [(a_this, .inr (8, [.int g_places, .ref a_squares])), (a_squares, .inl (G.2.1 1, 49, .inl g_squares))] := by
  obtain ⟨enc, henc⟩ : ∃ enc : (Int32) → Option Value × va_W, enc = fun u => (((some (.int u)) : Option Value), ([(a_this, .inr (8, [.int g_places, .ref a_squares])), (a_squares, .inl (G.2.1 1, 49, .inl g_squares))] : va_W)) := ⟨_, rfl⟩
  refine ctr_of (cc := cX8_canBeThree) (own := RX8) (E := Option.map enc) (o := X8_canBeThree x1 x2 x3 g_squares) (by decide) rfl rfl (L := [(0, .ref a_this), (1, .int x1), (2, .int x2), (3, .int x3)]) rfl (Nat.le_of_ble_eq_true rfl) (by rw [hu, henc]; rfl) ?_
  intro Z hX hl hG hr
  subst hl; subst hG
  unfold X8_canBeThree
  refine rn_aload_n hX dX8_canBeThree_0 0 rfl 1 rfl ?_
  refine rn_iload_n hX dX8_canBeThree_1 1 rfl 2 rfl ?_
  refine rn_iload_n hX dX8_canBeThree_2 2 rfl 3 rfl ?_
  refine rn_iload_n hX dX8_canBeThree_3 3 rfl 4 rfl ?_
  refine rn_bind (fun u1 hu1 => ?_)
  refine rn_callV0 hX (gV mcC wd_600 wd_584 wd_585 wd_73 wd_586) rfl hdV_X8_wideOf rfl rfl ⟨Nat.le_of_ble_eq_true rfl, Nat.le_of_ble_eq_true rfl⟩ (c_X8_wideOf (zl Z) (zG Z) a_this a_squares g_places g_squares x1 x2 x3 hu1) rfl [0, 1] rfl rfl (ci := 8) rfl rfl rfl (Nat.le_of_ble_eq_true rfl) dX8_canBeThree_4 7 rfl (S' := [.long u1]) rfl ⟨Nat.zero_le _, Nat.zero_le _⟩ ?_
  refine rn_lconst hX dX8_canBeThree_7 8 rfl lc_0 ?_
  refine rn_lcmp_lt hX dX8_canBeThree_8 9 rfl dX8_canBeThree_9 16 (by decide) 12 rfl ?_ ?_
  · refine rn_iconst hX dX8_canBeThree_16 17 rfl ic_0 ?_
    exact rn_zret hX rfl hr (by rw [henc]; rfl) dX8_canBeThree_17
  refine rn_iconst hX dX8_canBeThree_12 13 rfl ic_1 ?_
  refine rn_goto hX dX8_canBeThree_13 17 (by decide) ?_
  exact rn_zret hX rfl hr (by rw [henc]; rfl) dX8_canBeThree_17
abbrev rmX8_isFlatFour : Room := { frames := 2, cells := 0, slots := 0, locals := 45 }
theorem hdV_X8_isFlatFour : yX8_isFlatFour.cls = RX8 ∧ yX8_isFlatFour.cls ≠ "java/lang/invoke/MethodHandle" ∧ yX8_isFlatFour.cls ≠ "java/lang/invoke/VarHandle" ∧ (parseMethodDescriptor yX8_isFlatFour.desc).map (fun d => d.parameters.length) = some 4 := by decide +kernel
set_option maxHeartbeats 4000000 in
set_option maxRecDepth 100000 in
theorem c_X8_isFlatFour (l : Launch) (G : GT) (a_this a_squares : Nat) (g_places : Int32) (g_squares : (Nat → Int32)) (x1 : Int32) (x2 : Int32) (x3 : Int32) (x4 : Int32) {u : Int32} (hu : X8_isFlatFour x1 x2 x3 x4 g_squares = some u) : Ctr l G yX8_isFlatFour wsX8_isFlatFour rmX8_isFlatFour [.ref a_this, .int x1, .int x2, .int x3, .int x4] [(a_this, .inr (8, [.int g_places, .ref a_squares])), (a_squares, .inl (G.2.1 1, 49, .inl g_squares))] (some (.int u)) [(a_this, .inr (8, [.int g_places, .ref a_squares])), (a_squares, .inl (G.2.1 1, 49, .inl g_squares))] := by
  obtain ⟨enc, henc⟩ : ∃ enc : (Int32) → Option Value × va_W, enc = fun u => (((some (.int u)) : Option Value), ([(a_this, .inr (8, [.int g_places, .ref a_squares])), (a_squares, .inl (G.2.1 1, 49, .inl g_squares))] : va_W)) := ⟨_, rfl⟩
  refine ctr_of (cc := cX8_isFlatFour) (own := RX8) (E := Option.map enc) (o := X8_isFlatFour x1 x2 x3 x4 g_squares) (by decide) rfl rfl (L := [(0, .ref a_this), (1, .int x1), (2, .int x2), (3, .int x3), (4, .int x4)]) rfl (Nat.le_of_ble_eq_true rfl) (by rw [hu, henc]; rfl) ?_
  intro Z hX hl hG hr
  subst hl; subst hG
  have kl69 : (Cond.constantLong RX8 69 (2)).before (za Z) (zs Z) = true := hX.wd (mcC _ wd_627)
  unfold X8_isFlatFour
  refine rn_ldc2 hX kl69 dX8_isFlatFour_0 3 rfl ?_
  refine rn_aload_n hX dX8_isFlatFour_3 0 rfl 4 rfl ?_
  refine rn_iload_n hX dX8_isFlatFour_4 1 rfl 5 rfl ?_
  refine rn_iload_n hX dX8_isFlatFour_5 2 rfl 6 rfl ?_
  refine rn_bind (fun u1 hu1 => ?_)
  refine rn_callV0 hX (gV mcC wd_549 wd_512 wd_513 wd_73 wd_514) rfl hdV_X8_square rfl rfl ⟨Nat.le_of_ble_eq_true rfl, Nat.le_of_ble_eq_true rfl⟩ (c_X8_square (zl Z) (zG Z) a_this a_squares g_places g_squares x1 x2 hu1) rfl [0, 1] rfl rfl (ci := 8) rfl rfl rfl (Nat.le_of_ble_eq_true rfl) dX8_isFlatFour_6 9 rfl (S' := [.int u1, .long (2 : Int64)]) rfl ⟨Nat.zero_le _, Nat.zero_le _⟩ ?_
  refine rn_i2l hX dX8_isFlatFour_9 10 rfl ?_
  refine rn_lmul hX dX8_isFlatFour_10 11 rfl ?_
  refine rn_latl (fun v2 => ?_)
  refine rn_lstore hX dX8_isFlatFour_11 (by decide) (L' := [(5, .long v2), (0, .ref a_this), (1, .int x1), (2, .int x2), (3, .int x3), (4, .int x4)]) rfl 13 rfl ?_
  refine rn_ldc2 hX kl69 dX8_isFlatFour_13 16 rfl ?_
  refine rn_aload_n hX dX8_isFlatFour_16 1 rfl 17 rfl ?_
  refine rn_iload_n hX dX8_isFlatFour_17 2 rfl 18 rfl ?_
  refine rn_iload_n hX dX8_isFlatFour_18 4 rfl 19 rfl ?_
  refine rn_bind (fun u3 hu3 => ?_)
  refine rn_callV0 hX (gV mcC wd_549 wd_512 wd_513 wd_73 wd_514) rfl hdV_X8_square rfl rfl ⟨Nat.le_of_ble_eq_true rfl, Nat.le_of_ble_eq_true rfl⟩ (c_X8_square (zl Z) (zG Z) a_this a_squares g_places g_squares x1 x3 hu3) rfl [0, 1] rfl rfl (ci := 8) rfl rfl rfl (Nat.le_of_ble_eq_true rfl) dX8_isFlatFour_19 22 rfl (S' := [.int u3, .long (2 : Int64)]) rfl ⟨Nat.zero_le _, Nat.zero_le _⟩ ?_
  refine rn_i2l hX dX8_isFlatFour_22 23 rfl ?_
  refine rn_lmul hX dX8_isFlatFour_23 24 rfl ?_
  refine rn_latl (fun v4 => ?_)
  refine rn_lstore hX dX8_isFlatFour_24 (by decide) (L' := [(7, .long v4), (5, .long v2), (0, .ref a_this), (1, .int x1), (2, .int x2), (3, .int x3), (4, .int x4)]) rfl 26 rfl ?_
  refine rn_ldc2 hX kl69 dX8_isFlatFour_26 29 rfl ?_
  refine rn_aload_n hX dX8_isFlatFour_29 2 rfl 30 rfl ?_
  refine rn_iload_n hX dX8_isFlatFour_30 3 rfl 31 rfl ?_
  refine rn_iload hX dX8_isFlatFour_31 6 rfl 33 rfl ?_
  refine rn_bind (fun u5 hu5 => ?_)
  refine rn_callV0 hX (gV mcC wd_549 wd_512 wd_513 wd_73 wd_514) rfl hdV_X8_square rfl rfl ⟨Nat.le_of_ble_eq_true rfl, Nat.le_of_ble_eq_true rfl⟩ (c_X8_square (zl Z) (zG Z) a_this a_squares g_places g_squares x1 x4 hu5) rfl [0, 1] rfl rfl (ci := 8) rfl rfl rfl (Nat.le_of_ble_eq_true rfl) dX8_isFlatFour_33 36 rfl (S' := [.int u5, .long (2 : Int64)]) rfl ⟨Nat.zero_le _, Nat.zero_le _⟩ ?_
  refine rn_i2l hX dX8_isFlatFour_36 37 rfl ?_
  refine rn_lmul hX dX8_isFlatFour_37 38 rfl ?_
  refine rn_latl (fun v6 => ?_)
  refine rn_lstore hX dX8_isFlatFour_38 (by decide) (L' := [(9, .long v6), (7, .long v4), (5, .long v2), (0, .ref a_this), (1, .int x1), (2, .int x2), (3, .int x3), (4, .int x4)]) rfl 40 rfl ?_
  refine rn_aload_n hX dX8_isFlatFour_40 3 rfl 41 rfl ?_
  refine rn_iload_n hX dX8_isFlatFour_41 4 rfl 42 rfl ?_
  refine rn_iload_n hX dX8_isFlatFour_42 5 rfl 43 rfl ?_
  refine rn_iload_n hX dX8_isFlatFour_43 6 rfl 44 rfl ?_
  refine rn_bind (fun u7 hu7 => ?_)
  refine rn_callV0 hX (gV mcC wd_628 wd_629 wd_630 wd_73 wd_631) rfl hdV_X8_leaning rfl rfl ⟨Nat.le_of_ble_eq_true rfl, Nat.le_of_ble_eq_true rfl⟩ (c_X8_leaning (zl Z) (zG Z) a_this a_squares g_places g_squares x1 x2 x3 hu7) rfl [0, 1] rfl rfl (ci := 8) rfl rfl rfl (Nat.le_of_ble_eq_true rfl) dX8_isFlatFour_44 47 rfl (S' := [.long u7]) rfl ⟨Nat.zero_le _, Nat.zero_le _⟩ ?_
  refine rn_lstore hX dX8_isFlatFour_47 (by decide) (L' := [(11, .long u7), (9, .long v6), (7, .long v4), (5, .long v2), (0, .ref a_this), (1, .int x1), (2, .int x2), (3, .int x3), (4, .int x4)]) rfl 49 rfl ?_
  refine rn_aload_n hX dX8_isFlatFour_49 4 rfl 50 rfl ?_
  refine rn_iload_n hX dX8_isFlatFour_50 5 rfl 51 rfl ?_
  refine rn_iload_n hX dX8_isFlatFour_51 6 rfl 52 rfl ?_
  refine rn_iload hX dX8_isFlatFour_52 8 rfl 54 rfl ?_
  refine rn_bind (fun u8 hu8 => ?_)
  refine rn_callV0 hX (gV mcC wd_628 wd_629 wd_630 wd_73 wd_631) rfl hdV_X8_leaning rfl rfl ⟨Nat.le_of_ble_eq_true rfl, Nat.le_of_ble_eq_true rfl⟩ (c_X8_leaning (zl Z) (zG Z) a_this a_squares g_places g_squares x1 x2 x4 hu8) rfl [0, 1] rfl rfl (ci := 8) rfl rfl rfl (Nat.le_of_ble_eq_true rfl) dX8_isFlatFour_54 57 rfl (S' := [.long u8]) rfl ⟨Nat.zero_le _, Nat.zero_le _⟩ ?_
  refine rn_lstore hX dX8_isFlatFour_57 (by decide) (L' := [(13, .long u8), (11, .long u7), (9, .long v6), (7, .long v4), (5, .long v2), (0, .ref a_this), (1, .int x1), (2, .int x2), (3, .int x3), (4, .int x4)]) rfl 59 rfl ?_
  refine rn_aload_n hX dX8_isFlatFour_59 5 rfl 60 rfl ?_
  refine rn_iload_n hX dX8_isFlatFour_60 6 rfl 61 rfl ?_
  refine rn_iload_n hX dX8_isFlatFour_61 8 rfl 62 rfl ?_
  refine rn_iload hX dX8_isFlatFour_62 9 rfl 64 rfl ?_
  refine rn_bind (fun u9 hu9 => ?_)
  refine rn_callV0 hX (gV mcC wd_628 wd_629 wd_630 wd_73 wd_631) rfl hdV_X8_leaning rfl rfl ⟨Nat.le_of_ble_eq_true rfl, Nat.le_of_ble_eq_true rfl⟩ (c_X8_leaning (zl Z) (zG Z) a_this a_squares g_places g_squares x1 x3 x4 hu9) rfl [0, 1] rfl rfl (ci := 8) rfl rfl rfl (Nat.le_of_ble_eq_true rfl) dX8_isFlatFour_64 67 rfl (S' := [.long u9]) rfl ⟨Nat.zero_le _, Nat.zero_le _⟩ ?_
  refine rn_lstore hX dX8_isFlatFour_67 (by decide) (L' := [(15, .long u9), (13, .long u8), (11, .long u7), (9, .long v6), (7, .long v4), (5, .long v2), (0, .ref a_this), (1, .int x1), (2, .int x2), (3, .int x3), (4, .int x4)]) rfl 69 rfl ?_
  refine rn_lload hX dX8_isFlatFour_69 5 rfl 71 rfl ?_
  refine rn_lload hX dX8_isFlatFour_71 4 rfl 73 rfl ?_
  refine rn_lmul hX dX8_isFlatFour_73 74 rfl ?_
  refine rn_lload hX dX8_isFlatFour_74 3 rfl 76 rfl ?_
  refine rn_lmul hX dX8_isFlatFour_76 77 rfl ?_
  refine rn_ldc2 hX kl69 dX8_isFlatFour_77 80 rfl ?_
  refine rn_lload hX dX8_isFlatFour_80 2 rfl 82 rfl ?_
  refine rn_lmul hX dX8_isFlatFour_82 83 rfl ?_
  refine rn_lload hX dX8_isFlatFour_83 1 rfl 85 rfl ?_
  refine rn_lmul hX dX8_isFlatFour_85 86 rfl ?_
  refine rn_lload hX dX8_isFlatFour_86 0 rfl 88 rfl ?_
  refine rn_lmul hX dX8_isFlatFour_88 89 rfl ?_
  refine rn_ladd hX dX8_isFlatFour_89 90 rfl ?_
  refine rn_lload hX dX8_isFlatFour_90 5 rfl 92 rfl ?_
  refine rn_lload hX dX8_isFlatFour_92 0 rfl 94 rfl ?_
  refine rn_lmul hX dX8_isFlatFour_94 95 rfl ?_
  refine rn_lload hX dX8_isFlatFour_95 0 rfl 97 rfl ?_
  refine rn_lmul hX dX8_isFlatFour_97 98 rfl ?_
  refine rn_lsub hX dX8_isFlatFour_98 99 rfl ?_
  refine rn_lload hX dX8_isFlatFour_99 4 rfl 101 rfl ?_
  refine rn_lload hX dX8_isFlatFour_101 1 rfl 103 rfl ?_
  refine rn_lmul hX dX8_isFlatFour_103 104 rfl ?_
  refine rn_lload hX dX8_isFlatFour_104 1 rfl 106 rfl ?_
  refine rn_lmul hX dX8_isFlatFour_106 107 rfl ?_
  refine rn_lsub hX dX8_isFlatFour_107 108 rfl ?_
  refine rn_lload hX dX8_isFlatFour_108 3 rfl 110 rfl ?_
  refine rn_lload hX dX8_isFlatFour_110 2 rfl 112 rfl ?_
  refine rn_lmul hX dX8_isFlatFour_112 113 rfl ?_
  refine rn_lload hX dX8_isFlatFour_113 2 rfl 115 rfl ?_
  refine rn_lmul hX dX8_isFlatFour_115 116 rfl ?_
  refine rn_lsub hX dX8_isFlatFour_116 117 rfl ?_
  refine rn_lconst hX dX8_isFlatFour_117 118 rfl lc_0 ?_
  refine rn_lcmp_ne hX dX8_isFlatFour_118 119 rfl dX8_isFlatFour_119 126 (by decide) 122 rfl ?_ ?_
  · refine rn_iconst hX dX8_isFlatFour_126 127 rfl ic_0 ?_
    exact rn_zret hX rfl hr (by rw [henc]; rfl) dX8_isFlatFour_127
  refine rn_iconst hX dX8_isFlatFour_122 123 rfl ic_1 ?_
  refine rn_goto hX dX8_isFlatFour_123 127 (by decide) ?_
  exact rn_zret hX rfl hr (by rw [henc]; rfl) dX8_isFlatFour_127
abbrev rmX8_canBeFour : Room := { frames := 3, cells := 0, slots := 0, locals := 81 }
theorem hdV_X8_canBeFour : yX8_canBeFour.cls = RX8 ∧ yX8_canBeFour.cls ≠ "java/lang/invoke/MethodHandle" ∧ yX8_canBeFour.cls ≠ "java/lang/invoke/VarHandle" ∧ (parseMethodDescriptor yX8_canBeFour.desc).map (fun d => d.parameters.length) = some 4 := by decide +kernel
set_option maxHeartbeats 4000000 in
set_option maxRecDepth 100000 in
theorem c_X8_canBeFour (l : Launch) (G : GT) (a_this a_squares : Nat) (g_places : Int32) (g_squares : (Nat → Int32)) (x1 : Int32) (x2 : Int32) (x3 : Int32) (x4 : Int32) {u : Int32} (hu : X8_canBeFour x1 x2 x3 x4 g_squares = some u) : Ctr l G yX8_canBeFour wsX8_canBeFour rmX8_canBeFour [.ref a_this, .int x1, .int x2, .int x3, .int x4] [(a_this, .inr (8, [.int g_places, .ref a_squares])), (a_squares, .inl (G.2.1 1, 49, .inl g_squares))] (some (.int u)) [(a_this, .inr (8, [.int g_places, .ref a_squares])), (a_squares, .inl (G.2.1 1, 49, .inl g_squares))] := by
  obtain ⟨enc, henc⟩ : ∃ enc : (Int32) → Option Value × va_W, enc = fun u => (((some (.int u)) : Option Value), ([(a_this, .inr (8, [.int g_places, .ref a_squares])), (a_squares, .inl (G.2.1 1, 49, .inl g_squares))] : va_W)) := ⟨_, rfl⟩
  refine ctr_of (cc := cX8_canBeFour) (own := RX8) (E := Option.map enc) (o := X8_canBeFour x1 x2 x3 x4 g_squares) (by decide) rfl rfl (L := [(0, .ref a_this), (1, .int x1), (2, .int x2), (3, .int x3), (4, .int x4)]) rfl (Nat.le_of_ble_eq_true rfl) (by rw [hu, henc]; rfl) ?_
  intro Z hX hl hG hr
  subst hl; subst hG
  unfold X8_canBeFour
  refine rn_aload_n hX dX8_canBeFour_0 0 rfl 1 rfl ?_
  refine rn_iload_n hX dX8_canBeFour_1 1 rfl 2 rfl ?_
  refine rn_iload_n hX dX8_canBeFour_2 2 rfl 3 rfl ?_
  refine rn_iload_n hX dX8_canBeFour_3 3 rfl 4 rfl ?_
  refine rn_bind (fun u1 hu1 => ?_)
  refine rn_callV0 hX (gV mcC wd_622 wd_597 wd_598 wd_73 wd_599) rfl hdV_X8_canBeThree rfl rfl ⟨Nat.le_of_ble_eq_true rfl, Nat.le_of_ble_eq_true rfl⟩ (c_X8_canBeThree (zl Z) (zG Z) a_this a_squares g_places g_squares x1 x2 x3 hu1) rfl [0, 1] rfl rfl (ci := 8) rfl rfl rfl (Nat.le_of_ble_eq_true rfl) dX8_canBeFour_4 7 rfl (S' := [.int u1]) rfl ⟨Nat.zero_le _, Nat.zero_le _⟩ ?_
  refine rn_if_eq hX dX8_canBeFour_7 59 (by decide) 10 rfl ?_ ?_
  · refine rn_iconst hX dX8_canBeFour_59 60 rfl ic_0 ?_
    exact rn_zret hX rfl hr (by rw [henc]; rfl) dX8_canBeFour_60
  refine rn_aload_n hX dX8_canBeFour_10 0 rfl 11 rfl ?_
  refine rn_iload_n hX dX8_canBeFour_11 1 rfl 12 rfl ?_
  refine rn_iload_n hX dX8_canBeFour_12 2 rfl 13 rfl ?_
  refine rn_iload hX dX8_canBeFour_13 4 rfl 15 rfl ?_
  refine rn_bind (fun u2 hu2 => ?_)
  refine rn_callV0 hX (gV mcC wd_622 wd_597 wd_598 wd_73 wd_599) rfl hdV_X8_canBeThree rfl rfl ⟨Nat.le_of_ble_eq_true rfl, Nat.le_of_ble_eq_true rfl⟩ (c_X8_canBeThree (zl Z) (zG Z) a_this a_squares g_places g_squares x1 x2 x4 hu2) rfl [0, 1] rfl rfl (ci := 8) rfl rfl rfl (Nat.le_of_ble_eq_true rfl) dX8_canBeFour_15 18 rfl (S' := [.int u2]) rfl ⟨Nat.zero_le _, Nat.zero_le _⟩ ?_
  refine rn_if_eq hX dX8_canBeFour_18 59 (by decide) 21 rfl ?_ ?_
  · refine rn_iconst hX dX8_canBeFour_59 60 rfl ic_0 ?_
    exact rn_zret hX rfl hr (by rw [henc]; rfl) dX8_canBeFour_60
  refine rn_aload_n hX dX8_canBeFour_21 0 rfl 22 rfl ?_
  refine rn_iload_n hX dX8_canBeFour_22 1 rfl 23 rfl ?_
  refine rn_iload_n hX dX8_canBeFour_23 3 rfl 24 rfl ?_
  refine rn_iload hX dX8_canBeFour_24 4 rfl 26 rfl ?_
  refine rn_bind (fun u3 hu3 => ?_)
  refine rn_callV0 hX (gV mcC wd_622 wd_597 wd_598 wd_73 wd_599) rfl hdV_X8_canBeThree rfl rfl ⟨Nat.le_of_ble_eq_true rfl, Nat.le_of_ble_eq_true rfl⟩ (c_X8_canBeThree (zl Z) (zG Z) a_this a_squares g_places g_squares x1 x3 x4 hu3) rfl [0, 1] rfl rfl (ci := 8) rfl rfl rfl (Nat.le_of_ble_eq_true rfl) dX8_canBeFour_26 29 rfl (S' := [.int u3]) rfl ⟨Nat.zero_le _, Nat.zero_le _⟩ ?_
  refine rn_if_eq hX dX8_canBeFour_29 59 (by decide) 32 rfl ?_ ?_
  · refine rn_iconst hX dX8_canBeFour_59 60 rfl ic_0 ?_
    exact rn_zret hX rfl hr (by rw [henc]; rfl) dX8_canBeFour_60
  refine rn_aload_n hX dX8_canBeFour_32 0 rfl 33 rfl ?_
  refine rn_iload_n hX dX8_canBeFour_33 2 rfl 34 rfl ?_
  refine rn_iload_n hX dX8_canBeFour_34 3 rfl 35 rfl ?_
  refine rn_iload hX dX8_canBeFour_35 4 rfl 37 rfl ?_
  refine rn_bind (fun u4 hu4 => ?_)
  refine rn_callV0 hX (gV mcC wd_622 wd_597 wd_598 wd_73 wd_599) rfl hdV_X8_canBeThree rfl rfl ⟨Nat.le_of_ble_eq_true rfl, Nat.le_of_ble_eq_true rfl⟩ (c_X8_canBeThree (zl Z) (zG Z) a_this a_squares g_places g_squares x2 x3 x4 hu4) rfl [0, 1] rfl rfl (ci := 8) rfl rfl rfl (Nat.le_of_ble_eq_true rfl) dX8_canBeFour_37 40 rfl (S' := [.int u4]) rfl ⟨Nat.zero_le _, Nat.zero_le _⟩ ?_
  refine rn_if_eq hX dX8_canBeFour_40 59 (by decide) 43 rfl ?_ ?_
  · refine rn_iconst hX dX8_canBeFour_59 60 rfl ic_0 ?_
    exact rn_zret hX rfl hr (by rw [henc]; rfl) dX8_canBeFour_60
  refine rn_aload_n hX dX8_canBeFour_43 0 rfl 44 rfl ?_
  refine rn_iload_n hX dX8_canBeFour_44 1 rfl 45 rfl ?_
  refine rn_iload_n hX dX8_canBeFour_45 2 rfl 46 rfl ?_
  refine rn_iload_n hX dX8_canBeFour_46 3 rfl 47 rfl ?_
  refine rn_iload hX dX8_canBeFour_47 4 rfl 49 rfl ?_
  refine rn_bind (fun u5 hu5 => ?_)
  refine rn_callV0 hX (gV mcC wd_623 wd_625 wd_9 wd_73 wd_626) rfl hdV_X8_isFlatFour rfl rfl ⟨Nat.le_of_ble_eq_true rfl, Nat.le_of_ble_eq_true rfl⟩ (c_X8_isFlatFour (zl Z) (zG Z) a_this a_squares g_places g_squares x1 x2 x3 x4 hu5) rfl [0, 1] rfl rfl (ci := 8) rfl rfl rfl (Nat.le_of_ble_eq_true rfl) dX8_canBeFour_49 52 rfl (S' := [.int u5]) rfl ⟨Nat.zero_le _, Nat.zero_le _⟩ ?_
  refine rn_if_eq hX dX8_canBeFour_52 59 (by decide) 55 rfl ?_ ?_
  · refine rn_iconst hX dX8_canBeFour_59 60 rfl ic_0 ?_
    exact rn_zret hX rfl hr (by rw [henc]; rfl) dX8_canBeFour_60
  refine rn_iconst hX dX8_canBeFour_55 56 rfl ic_1 ?_
  refine rn_goto hX dX8_canBeFour_56 60 (by decide) ?_
  exact rn_zret hX rfl hr (by rw [henc]; rfl) dX8_canBeFour_60
