theorem ci_0 : Cond.instantiable RX0 8 ∈ Com := wd_293
theorem ci_1 : Cond.instantiable RX1 7 ∈ Com := wd_239
theorem ci_2 : Cond.instantiable RX2 3 ∈ Com := wd_197
theorem ci_3 : Cond.instantiable RX3 7 ∈ Com := wd_329
theorem ci_4 : Cond.instantiable RX4 11 ∈ Com := wd_117
theorem ci_5 : Cond.instantiable RX5 2 ∈ Com := wd_182
theorem ci_6 : Cond.instantiable RX6 3 ∈ Com := wd_221
theorem ci_7 : Cond.instantiable RX7 3 ∈ Com := wd_271
theorem ci_8 : Cond.instantiable RX8 2 ∈ Com := wd_123
theorem ci_9 : Cond.instantiable RX9 2 ∈ Com := wd_100
theorem ci_10 : Cond.instantiable RX10 12 ∈ Com := wd_92
theorem ci_11 : Cond.instantiable RX11 30 ∈ Com := wd_985
theorem tbl_at {w : Cond} (i : Nat) (h : lw_tbl[i]? = some w) : w ∈ lw_tbl := List.mem_of_getElem? h
set_option maxRecDepth 20000 in
theorem tb_aB : Cond.arrayClass .byte ∈ lw_tbl := tbl_at 115 (by decide +kernel)
set_option maxRecDepth 20000 in
theorem tb_aI : Cond.arrayClass .int ∈ lw_tbl := tbl_at 140 (by decide +kernel)
set_option maxRecDepth 20000 in
theorem tb_aZ : Cond.arrayClass .boolean ∈ lw_tbl := tbl_at 1081 (by decide +kernel)
set_option maxRecDepth 20000 in
theorem tb_oI : Cond.arrayOver (.object "OnlyFar$Image") ∈ lw_tbl := tbl_at 196 (by decide +kernel)
set_option maxRecDepth 20000 in
theorem tb_oS : Cond.arrayOver (.object "OnlyFar$Sheet") ∈ lw_tbl := tbl_at 220 (by decide +kernel)
set_option maxRecDepth 20000 in
theorem tb_lsC : Cond.laysStatic "java/lang/String" "COMPACT_STRINGS" "Z" ∈ lw_tbl := tbl_at 455 (by decide +kernel)
set_option maxRecDepth 20000 in
theorem tb_inS : Cond.initialized "java/lang/String" ∈ lw_tbl := tbl_at 83 (by decide +kernel)
set_option maxRecDepth 20000 in
theorem tb_lsF : Cond.laysStatic "jdk/internal/util/Preconditions" "SIOOBE_FORMATTER" "Ljava/util/function/BiFunction;" ∈ lw_tbl := tbl_at 471 (by decide +kernel)
set_option maxRecDepth 20000 in
theorem tb_inP : Cond.initialized "jdk/internal/util/Preconditions" ∈ lw_tbl := tbl_at 85 (by decide +kernel)
set_option maxRecDepth 20000 in
theorem tb_sr0 : Cond.stringRef "OnlyFar$Reader" 67 "places" ∈ lw_tbl := tbl_at 441 (by decide +kernel)
set_option maxRecDepth 20000 in
theorem tb_sr1 : Cond.stringRef "OnlyFar$Reader" 78 "far" ∈ lw_tbl := tbl_at 506 (by decide +kernel)
set_option maxRecDepth 20000 in
theorem tb_ns : ∀ q ∈ nsL, Cond.methodLinkNest q.1 q.2.1 q.2.2.1 q.2.2.2 ∈ lw_tbl := by
  intro q hq
  simp only [nsL, List.mem_cons, List.not_mem_nil, or_false] at hq
  rcases hq with rfl | rfl | rfl | rfl | rfl | rfl | rfl | rfl | rfl | rfl | rfl | rfl
  · exact tbl_at 272 (by decide +kernel)
  · exact tbl_at 299 (by decide +kernel)
  · exact tbl_at 794 (by decide +kernel)
  · exact tbl_at 793 (by decide +kernel)
  · exact tbl_at 649 (by decide +kernel)
  · exact tbl_at 682 (by decide +kernel)
  · exact tbl_at 698 (by decide +kernel)
  · exact tbl_at 874 (by decide +kernel)
  · exact tbl_at 763 (by decide +kernel)
  · exact tbl_at 931 (by decide +kernel)
  · exact tbl_at 587 (by decide +kernel)
  · exact tbl_at 839 (by decide +kernel)
set_option maxHeartbeats 4000000 in
set_option maxRecDepth 100000 in
theorem law_world {b : Nat} {s : State} (hts : ∀ w ∈ lw_tbl, w.before #[Value.ref b] s = true) (hgv : (Jvm.Cond.and given_1 narrow_1).before #[Value.ref b] s = true) : ∃ G : GT, va_K G.1 vwCl (tyL G.2.1) s ∧ Nst s ∧ Str G.2.2 (fun q : Nat => s.heap.size ≤ q) s s.heap := by
  obtain ⟨c0, i0, hK0⟩ := u_known (C := RX0) (T := TX0) (N := 8) (n := 8) hts (fun w h => com_lw (inC_X0 w h)) (hts _ (com_lw ci_0))
  obtain ⟨c1, i1, hK1⟩ := u_known (C := RX1) (T := TX1) (N := 7) (n := 7) hts (fun w h => com_lw (inC_X1 w h)) (hts _ (com_lw ci_1))
  obtain ⟨c2, i2, hK2⟩ := u_known (C := RX2) (T := TX2) (N := 3) (n := 3) hts (fun w h => com_lw (inC_X2 w h)) (hts _ (com_lw ci_2))
  obtain ⟨c3, i3, hK3⟩ := u_known (C := RX3) (T := TX3) (N := 7) (n := 7) hts (fun w h => com_lw (inC_X3 w h)) (hts _ (com_lw ci_3))
  obtain ⟨c4, i4, hK4⟩ := u_known (C := RX4) (T := TX4) (N := 11) (n := 11) hts (fun w h => com_lw (inC_X4 w h)) (hts _ (com_lw ci_4))
  obtain ⟨c5, i5, hK5⟩ := u_known (C := RX5) (T := TX5) (N := 2) (n := 2) hts (fun w h => com_lw (inC_X5 w h)) (hts _ (com_lw ci_5))
  obtain ⟨c6, i6, hK6⟩ := u_known (C := RX6) (T := TX6) (N := 3) (n := 3) hts (fun w h => com_lw (inC_X6 w h)) (hts _ (com_lw ci_6))
  obtain ⟨c7, i7, hK7⟩ := u_known (C := RX7) (T := TX7) (N := 3) (n := 3) hts (fun w h => com_lw (inC_X7 w h)) (hts _ (com_lw ci_7))
  obtain ⟨c8, i8, hK8⟩ := u_known (C := RX8) (T := TX8) (N := 2) (n := 2) hts (fun w h => com_lw (inC_X8 w h)) (hts _ (com_lw ci_8))
  obtain ⟨c9, i9, hK9⟩ := u_known (C := RX9) (T := TX9) (N := 2) (n := 2) hts (fun w h => com_lw (inC_X9 w h)) (hts _ (com_lw ci_9))
  obtain ⟨c10, i10, hK10⟩ := u_known (C := RX10) (T := TX10) (N := 12) (n := 12) hts (fun w h => com_lw (inC_X10 w h)) (hts _ (com_lw ci_10))
  obtain ⟨c11, i11, hK11⟩ := u_known (C := RX11) (T := TX11) (N := 30) (n := 30) hts (fun w h => com_lw (inC_X11 w h)) (hts _ (com_lw ci_11))
  obtain ⟨dC, dI, hKc⟩ : ∃ (dC : Nat → ClassId) (dI : Nat → Nat → Nat), ∀ (k : Nat) (q : vw_C), vwCl[k]? = some q → u_Kn s q.1 q.2.1 q.2.2 (dC k) (dI k) := by
    refine ⟨fun k => [c0, c1, c2, c3, c4, c5, c6, c7, c8, c9, c10, c11].getD k c0, fun k => [i0, i1, i2, i3, i4, i5, i6, i7, i8, i9, i10, i11].getD k i0, ?_⟩
    intro k q hq
    match k, hq with
    | 0, hq => cases hq; exact hK0
    | 1, hq => cases hq; exact hK1
    | 2, hq => cases hq; exact hK2
    | 3, hq => cases hq; exact hK3
    | 4, hq => cases hq; exact hK4
    | 5, hq => cases hq; exact hK5
    | 6, hq => cases hq; exact hK6
    | 7, hq => cases hq; exact hK7
    | 8, hq => cases hq; exact hK8
    | 9, hq => cases hq; exact hK9
    | 10, hq => cases hq; exact hK10
    | 11, hq => cases hq; exact hK11
    | k + 12, hq => simp [vwCl] at hq
  obtain ⟨t0, k0, p0, f0, g0, j0⟩ := Cond.arrayClass_spec (hts _ tb_aB)
  obtain ⟨t1, k1, p1, f1, g1, j1⟩ := Cond.arrayClass_spec (hts _ tb_aI)
  obtain ⟨t2, k2, p2, f2, g2, j2⟩ := Cond.arrayClass_spec (hts _ tb_aZ)
  obtain ⟨p3, t3, k3, e3, -, g3, j3, f3⟩ := Cond.arrayOver_spec (hts _ tb_oI)
  obtain ⟨p4, t4, k4, e4, -, g4, j4, f4⟩ := Cond.arrayOver_spec (hts _ tb_oS)
  have hs := flat_of_before _ hgv
  have hA : ∀ a : Nat, a < s.heap.size → ¬ (fun q : Nat => s.heap.size ≤ q) a := fun a h => Nat.not_le.mpr h
  have stm : ∃ adK adV : Nat → Nat, vk_S 2 sxL sxB adK adV (fun q : Nat => s.heap.size ≤ q) s s.heap ∧ ∀ i : Nat, i < 2 → ((fun i => if i = 0 then Term.string "OnlyFar$Reader" 67 else Term.string "OnlyFar$Reader" 78) i).eval #[Value.ref b] s none [] s = some (.ref (adK i)) := by
    refine vk_Sof (tm := fun i => if i = 0 then Term.string "OnlyFar$Reader" 67 else Term.string "OnlyFar$Reader" 78) ?_ ?_ ?_ ?_ ?_ ?_ ?_ hA
    · intro i hi; rcases (show i = 0 ∨ i = 1 by omega) with rfl | rfl <;> decide
    · intro i hi; rcases (show i = 0 ∨ i = 1 by omega) with rfl | rfl <;> exact hs _ (by decide +kernel)
    · intro i hi; rcases (show i = 0 ∨ i = 1 by omega) with rfl | rfl <;> exact hs _ (by decide +kernel)
    · intro i hi; rcases (show i = 0 ∨ i = 1 by omega) with rfl | rfl <;> exact hs _ (by decide +kernel)
    · intro i hi; rcases (show i = 0 ∨ i = 1 by omega) with rfl | rfl <;> exact hs _ (by decide +kernel)
    · intro i hi j hj
      rcases (show i = 0 ∨ i = 1 by omega) with rfl | rfl
      · rcases (show j = 0 ∨ j = 1 ∨ j = 2 ∨ j = 3 ∨ j = 4 ∨ j = 5 by have : j < 6 := hj; omega) with rfl | rfl | rfl | rfl | rfl | rfl <;> exact hs _ (by decide +kernel)
      · rcases (show j = 0 ∨ j = 1 ∨ j = 2 by have : j < 3 := hj; omega) with rfl | rfl | rfl <;> exact hs _ (by decide +kernel)
    · intro i j hi hj hij
      rcases (show (i = 0 ∧ j = 1) ∨ (i = 1 ∧ j = 0) by omega) with ⟨rfl, rfl⟩ | ⟨rfl, rfl⟩
      · exact Or.inl (hs _ (by decide +kernel))
      · exact Or.inr (hs _ (by decide +kernel))
  obtain ⟨adK, adV, hvk, hev⟩ := stm
  refine ⟨((dC, dI), (fun k => [t0, t1, t2, t3, t4].getD k t0), (adK, adV)), ⟨hKc, ?_⟩, ⟨fun q hq => va_Nw.of rfl (hts _ (tb_ns q hq)), va_AO.of (hts _ tb_oI), va_AO.of (hts _ tb_oS)⟩, hvk, ?_, ?_, ?_, ?_⟩
  · intro k q hq
    match k, hq with
    | 0, hq => cases hq; exact ⟨fun N z => ⟨fun k h => (by cases h), k0, g0, p0, j0⟩, f0⟩
    | 1, hq => cases hq; exact ⟨fun N z => ⟨fun k h => (by cases h), k1, g1, p1, j1⟩, f1⟩
    | 2, hq => cases hq; exact ⟨fun N z => ⟨fun k h => (by cases h), k2, g2, p2, j2⟩, f2⟩
    | 3, hq => cases hq; exact ⟨fun N z => ⟨fun k h => (by cases h), k3, g3, p3, j3⟩, k3, p3, g3, j3, e3, f3⟩
    | 4, hq => cases hq; exact ⟨fun N z => ⟨fun k h => (by cases h), k4, g4, p4, j4⟩, k4, p4, g4, j4, e4, f4⟩
    | k + 5, hq => simp [tyL] at hq
  · exact va_Zof (hts _ tb_lsC) (hts _ tb_inS) (va_eqt (hs _ (by decide +kernel))) hA
  · exact vk_R.of (hts _ tb_sr0) (hev 0 (by decide))
  · exact vk_R.of (hts _ tb_sr1) (hev 1 (by decide))
  · exact va_Zqof (hts _ tb_lsF) (hts _ tb_inP) (hs _ (by decide +kernel)) hA
theorem inv0 : Inv (0 : Int32) (0 : Int32) (0 : Int32) (fun _ => 0) (3 : Int32) (fun _ => 0) (0 : Int32) (fun _ => 0) (0 : Int32) (3 : Int32) (fun _ => 0) (0 : Int32) (fun _ => 0) (0 : Int32) (3 : Int32) (fun _ => 0) (0 : Int32) (fun _ => 0) (-1 : Int32) (0 : Int32) (fun _ => 0) (-1 : Int32) (0 : Int32) (fun _ => 0) (-1 : Int32) (0 : Int32) (fun _ => 0) (-1 : Int32) (0 : Int32) (fun _ => 0) (fun _ => 0) (fun _ => 0) (upd (upd (upd (upd (upd (upd (upd (upd (upd (fun _ => 0) 0 (112 : Int32)) 1 (108 : Int32)) 2 (97 : Int32)) 3 (99 : Int32)) 4 (101 : Int32)) 5 (115 : Int32)) 6 (102 : Int32)) 7 (97 : Int32)) 8 (114 : Int32)) (fun _ => 0) (upd (upd (upd (upd (fun _ => 0) 0 (-4 : Int32)) 1 (-4 : Int32)) 2 (-4 : Int32)) 3 (-4 : Int32)) (fun _ => 0) (fun _ => 0) 0 0 0 0 := by
  refine ⟨((3, fun _ => 0), (0, fun _ => 0), (fun _ => (false, (3, fun _ => 0), (0, fun _ => 0))), (0, fun _ => 0), 0, 0, fun _ => (-1, 0, fun _ => 0)), ?_, ?_, ?_⟩
  · refine ⟨⟨by decide, by decide, fun _ => by simp, fun _ _ => rfl⟩, ⟨by simp, fun k h => by simp at h⟩, ⟨fun h => by simp at h, fun h => by simp at h⟩, ⟨by simp, fun _ => by simp⟩, ?_, ?_, ?_, ?_⟩ <;> exact ⟨Or.inl rfl, by simp⟩
  · have t0 : ∀ a b : Nat, (0 : Int32) = nI (tv (fun _ => 0) a b) := fun a b => by unfold tv; split <;> exact nI_0.symm
    refine ⟨rfl, rfl, ⟨by decide, fun k h => by simp at h⟩, ⟨by decide, fun a b _ _ => t0 a b⟩, ⟨by decide, fun k h => by simp at h⟩, ⟨rfl, fun h => by simp at h⟩, ⟨rfl, fun h => by simp at h⟩, ?_, ?_, ?_, ?_⟩ <;> exact ⟨rfl, by decide, fun _ _ => rfl⟩
  · refine ⟨Or.inr ⟨rfl, rfl, rfl⟩, fun k _ => nI_0.symm, ⟨by decide, fun k h => by simp at h⟩, ⟨rfl, fun h => by simp at h⟩, ⟨rfl, fun h => by simp at h⟩, ⟨by decide, fun k h => by simp at h⟩, rfl, rfl, by decide, ?_, ?_, ?_, ?_, fun _ => ⟨rfl, rfl⟩⟩ <;> exact ⟨by decide, by decide, fun _ _ => rfl⟩
set_option maxHeartbeats 4000000 in
set_option maxRecDepth 100000 in
theorem whole_open (s_feed : St_feed) (s_end : St_end) (s_land : St_land) (s_fault : St_fault) (s_far : St_far) (s_tell : St_tell) (s_pair : St_pair) (s_wide : St_wide) (s_three : St_three) (s_four : St_four) (s_wrong : St_wrong) (s_falses : St_falses) (s_doubt : St_doubt) (s_bend : St_bend) (s_foot : St_foot) (s_height : St_height) (s_round : St_round) (s_side : St_side) (s_within : St_within) (s_sixth : St_sixth) (s_ends : St_ends) (s_drawings : St_drawings) (s_spare : St_spare) (s_base : St_base) (s_tells : St_tells) (s_words : St_words) (s_at : St_at) (s_spots : St_spots) (s_maps : St_maps) (s_part : St_part) (s_clear : St_clear) (s_road : St_road) (s_reaches : St_reaches) (s_keep : St_keep) (s_back : St_back) (s_sheet : St_sheet) (s_lay : St_lay) (s_read : St_read) (s_torn : St_torn) (s_count : St_count) {p : Program} {e : Env} {s : State} {m : MethodId} {below : List Frame} {meth : Method} {c : Code} (l : Launch) {b L : Nat} {xs : Nat → Int32} (hL : L ≤ 3072) (C0 : lw_At p s m meth c b L xs) : W p l e room_1 s m #[Value.ref b] below meth c s.heap [] 0 0 (lw_Z below #[Value.ref b] s) (entryFrame m ([Value.ref b] : List Value).toArray 4) := by
  obtain ⟨hx, hb, hr, hml, hown, hts, hXs, hbl, hlocks, hgv⟩ := id C0
  obtain ⟨G, hK, hN, hT⟩ := law_world hts hgv
  obtain ⟨Z, eZ⟩ : ∃ Z : RZ, Z = ((p, l, e, room_1, s, m, #[Value.ref b], below, meth, c), G, (fun q : Nat => s.heap.size ≤ q), fun _ _ => lw_Z below #[Value.ref b] s) := ⟨_, rfl⟩
  have hX : Cx Z cL_law RL wsL_law 4 room_1 := by
    rw [eZ]
    exact ⟨⟨hx, hb, hml, hown, fun w h => hts w (com_lw h)⟩, hK, hN, hT, fun _ h => h, rfl⟩
  have hsc : Sc Z b L xs := by rw [eZ]; exact ⟨hXs, hbl, Nat.not_le.mpr hbl⟩
  have hret : ∀ {kc ks : Nat}, kc ≤ 600000 → ks ≤ 7302250 → ∀ {L1 : List (Nat × Value)} {w : va_W}, Rn Z 4 EU kc ks 1680 L1 [.int 1] w () := by
    intro kc ks h1 h2 L1 w
    exact rn_lawret hX (b := b) (by rw [eZ]; exact hr) (by rw [eZ]; exact hlocks) (by rw [eZ]) (by rw [eZ]) (by rw [eZ]) h1 h2
  have key : Rn Z 4 EU 0 0 0 [(0, .ref b)] [] [] () := by
    have inX10' : ∀ w ∈ u_ws RX10 TX10 12, w ∈ wsL_law := inC_X10
    have inX11' : ∀ w ∈ u_ws RX11 TX11 30, w ∈ wsL_law := inC_X11
    refine rn_new hX (ci := 10) (fs := [.null, .null, .null, .null, .null, .null, .null, .null, .null, .null, .int 0, .int 0]) inX10' tyX10_ok (hX.wd wd_91) (hX.wd wd_92) (hX.wd wd_70) rfl dv_X10 (Nat.le_of_ble_eq_true rfl) (Nat.le_of_ble_eq_true rfl) dL_law_0 3 rfl (fun ax => ?_)
    refine rn_w (w1 := [(ax, .inr (10, [.null, .null, .null, .null, .null, .null, .null, .null, .null, .null, .int 0, .int 0]))]) rfl ?_
    refine rn_dup hX dL_law_3 4 rfl rfl ?_
    refine rn_callI hX (goodK (fun _ h => h) wd_95) rfl (hX.wd wd_70) (hX.wd wd_93) (hX.wd wd_94) rfl hdI_X10_init rfl rfl ⟨Nat.le_of_ble_eq_true rfl, Nat.le_of_ble_eq_true rfl⟩ (wr := []) (n_X10_init (zl Z) (zG Z) ax) rfl [0] [] rfl rfl rfl rfl (by decide) rfl (Nat.le_of_ble_eq_true rfl) dL_law_4 7 rfl ⟨Nat.le_of_ble_eq_true rfl, Nat.le_of_ble_eq_true rfl⟩ ?_
    rintro _ ⟨y1, y2, y3, y4, y5, y6, y7, y8, y9, y10, y11, y12, y13, y14, y15, y16, y17, y18, y19, y20, y21, y22, y23, y24, y25, y26, y27, y28, y29, y30, y31, y32, y33, y34, y35, y36, y37, y38, y39, rfl⟩
    refine rn_w (w1 := [(ax, .inr (10, [.ref y1, .ref y3, .ref y6, .ref y8, .ref y10, .ref y21, .ref y30, .ref y32, .ref y33, .ref y37, .int (0 : Int32), .int (0 : Int32)])), (y1, .inr (9, [.int (0 : Int32), .ref y2])), (y2, .inl ((zG Z).2.1 0, 320, .inl (fun _ => 0))), (y3, .inr (4, [.ref y4, .int 0, .int 0, .int 0, .ref y1, .int 0, .int 0, .int 0, .int 0, .int 0, .int 0])), (y4, .inr (8, [.int (3 : Int32), .ref y5])), (y5, .inl ((zG Z).2.1 1, 49, .inl (fun _ => 0))), (y6, .inr (8, [.int (3 : Int32), .ref y7])), (y7, .inl ((zG Z).2.1 1, 49, .inl (fun _ => 0))), (y8, .inr (5, [.int (0 : Int32), .ref y9])), (y9, .inl ((zG Z).2.1 1, 8, .inl (fun _ => 0))), (y10, .inl ((zG Z).2.1 3, 2, .inr (.inr (.inr (.inr (rf2 y11 y16)))))), (y11, .inr (2, [.int (0 : Int32), .ref y12, .ref y14])), (y12, .inr (8, [.int (3 : Int32), .ref y13])), (y13, .inl ((zG Z).2.1 1, 49, .inl (fun _ => 0))), (y14, .inr (5, [.int (0 : Int32), .ref y15])), (y15, .inl ((zG Z).2.1 1, 8, .inl (fun _ => 0))), (y16, .inr (2, [.int (0 : Int32), .ref y17, .ref y19])), (y17, .inr (8, [.int (3 : Int32), .ref y18])), (y18, .inl ((zG Z).2.1 1, 49, .inl (fun _ => 0))), (y19, .inr (5, [.int (0 : Int32), .ref y20])), (y20, .inl ((zG Z).2.1 1, 8, .inl (fun _ => 0))), (y21, .inl ((zG Z).2.1 4, 4, .inr (.inr (.inr (.inr (rf4 y22 y24 y26 y28)))))), (y22, .inr (6, [.int (-1 : Int32), .int (0 : Int32), .ref y23])), (y23, .inl ((zG Z).2.1 1, 40, .inl (fun _ => 0))), (y24, .inr (6, [.int (-1 : Int32), .int (0 : Int32), .ref y25])), (y25, .inl ((zG Z).2.1 1, 40, .inl (fun _ => 0))), (y26, .inr (6, [.int (-1 : Int32), .int (0 : Int32), .ref y27])), (y27, .inl ((zG Z).2.1 1, 40, .inl (fun _ => 0))), (y28, .inr (6, [.int (-1 : Int32), .int (0 : Int32), .ref y29])), (y29, .inl ((zG Z).2.1 1, 40, .inl (fun _ => 0))), (y30, .inr (1, [.int 0, .int 0, .int 0, .int 0, .ref y31, .int 0, .int 0])), (y31, .inl ((zG Z).2.1 1, 70, .inl (fun _ => 0))), (y32, .inr (7, [.long 0, .long 0, .long 0])), (y33, .inr (0, [.int 0, .int 0, .int 0, .ref y6, .ref y34, .ref y35, .ref y36, .int 0])), (y34, .inr (7, [.long 0, .long 0, .long 0])), (y35, .inl ((zG Z).2.1 1, 7, .inl (fun _ => 0))), (y36, .inl ((zG Z).2.1 1, 49, .inl (fun _ => 0))), (y37, .inr (3, [.int 0, .ref y6, .ref y6, .ref y38, .ref y39, .int 0, .int 0])), (y38, .inl ((zG Z).2.1 1, 7, .inl (fun _ => 0))), (y39, .inl ((zG Z).2.1 1, 7, .inl (fun _ => 0)))]) rfl ?_
    refine rn_astore_n hX dL_law_7 1 rfl (by decide) (L' := [(1, .ref ax), (0, .ref b)]) rfl 8 rfl ?_
    refine rn_new hX (ci := 11) (fs := [.null, .null, .int 0, .null, .int 0, .int 0, .int 0, .int 0, .int 0, .int 0, .int 0, .int 0, .null, .int 0, .int 0, .null, .null, .null, .null, .int 0, .int 0, .int 0, .null, .null, .null, .null, .null, .null, .int 0, .null]) inX11' tyX11_ok (hX.wd wd_984) (hX.wd wd_985) (hX.wd wd_81) rfl dv_X11 (Nat.le_of_ble_eq_true rfl) (Nat.le_of_ble_eq_true rfl) dL_law_8 11 rfl (fun am => ?_)
    refine rn_w (w1 := [(ax, .inr (10, [.ref y1, .ref y3, .ref y6, .ref y8, .ref y10, .ref y21, .ref y30, .ref y32, .ref y33, .ref y37, .int (0 : Int32), .int (0 : Int32)])), (y1, .inr (9, [.int (0 : Int32), .ref y2])), (y2, .inl ((zG Z).2.1 0, 320, .inl (fun _ => 0))), (y3, .inr (4, [.ref y4, .int 0, .int 0, .int 0, .ref y1, .int 0, .int 0, .int 0, .int 0, .int 0, .int 0])), (y4, .inr (8, [.int (3 : Int32), .ref y5])), (y5, .inl ((zG Z).2.1 1, 49, .inl (fun _ => 0))), (y6, .inr (8, [.int (3 : Int32), .ref y7])), (y7, .inl ((zG Z).2.1 1, 49, .inl (fun _ => 0))), (y8, .inr (5, [.int (0 : Int32), .ref y9])), (y9, .inl ((zG Z).2.1 1, 8, .inl (fun _ => 0))), (y10, .inl ((zG Z).2.1 3, 2, .inr (.inr (.inr (.inr (rf2 y11 y16)))))), (y11, .inr (2, [.int (0 : Int32), .ref y12, .ref y14])), (y12, .inr (8, [.int (3 : Int32), .ref y13])), (y13, .inl ((zG Z).2.1 1, 49, .inl (fun _ => 0))), (y14, .inr (5, [.int (0 : Int32), .ref y15])), (y15, .inl ((zG Z).2.1 1, 8, .inl (fun _ => 0))), (y16, .inr (2, [.int (0 : Int32), .ref y17, .ref y19])), (y17, .inr (8, [.int (3 : Int32), .ref y18])), (y18, .inl ((zG Z).2.1 1, 49, .inl (fun _ => 0))), (y19, .inr (5, [.int (0 : Int32), .ref y20])), (y20, .inl ((zG Z).2.1 1, 8, .inl (fun _ => 0))), (y21, .inl ((zG Z).2.1 4, 4, .inr (.inr (.inr (.inr (rf4 y22 y24 y26 y28)))))), (y22, .inr (6, [.int (-1 : Int32), .int (0 : Int32), .ref y23])), (y23, .inl ((zG Z).2.1 1, 40, .inl (fun _ => 0))), (y24, .inr (6, [.int (-1 : Int32), .int (0 : Int32), .ref y25])), (y25, .inl ((zG Z).2.1 1, 40, .inl (fun _ => 0))), (y26, .inr (6, [.int (-1 : Int32), .int (0 : Int32), .ref y27])), (y27, .inl ((zG Z).2.1 1, 40, .inl (fun _ => 0))), (y28, .inr (6, [.int (-1 : Int32), .int (0 : Int32), .ref y29])), (y29, .inl ((zG Z).2.1 1, 40, .inl (fun _ => 0))), (y30, .inr (1, [.int 0, .int 0, .int 0, .int 0, .ref y31, .int 0, .int 0])), (y31, .inl ((zG Z).2.1 1, 70, .inl (fun _ => 0))), (y32, .inr (7, [.long 0, .long 0, .long 0])), (y33, .inr (0, [.int 0, .int 0, .int 0, .ref y6, .ref y34, .ref y35, .ref y36, .int 0])), (y34, .inr (7, [.long 0, .long 0, .long 0])), (y35, .inl ((zG Z).2.1 1, 7, .inl (fun _ => 0))), (y36, .inl ((zG Z).2.1 1, 49, .inl (fun _ => 0))), (y37, .inr (3, [.int 0, .ref y6, .ref y6, .ref y38, .ref y39, .int 0, .int 0])), (y38, .inl ((zG Z).2.1 1, 7, .inl (fun _ => 0))), (y39, .inl ((zG Z).2.1 1, 7, .inl (fun _ => 0))), (am, .inr (11, [.null, .null, .int 0, .null, .int 0, .int 0, .int 0, .int 0, .int 0, .int 0, .int 0, .int 0, .null, .int 0, .int 0, .null, .null, .null, .null, .int 0, .int 0, .int 0, .null, .null, .null, .null, .null, .null, .int 0, .null]))]) rfl ?_
    refine rn_dup hX dL_law_11 12 rfl rfl ?_
    refine rn_callI hX (goodK (fun _ h => h) wd_988) rfl (hX.wd wd_81) (hX.wd wd_986) (hX.wd wd_987) rfl hdI_X11_init rfl rfl ⟨Nat.le_of_ble_eq_true rfl, Nat.le_of_ble_eq_true rfl⟩ (wr := [(ax, .inr (10, [.ref y1, .ref y3, .ref y6, .ref y8, .ref y10, .ref y21, .ref y30, .ref y32, .ref y33, .ref y37, .int (0 : Int32), .int (0 : Int32)])), (y1, .inr (9, [.int (0 : Int32), .ref y2])), (y2, .inl ((zG Z).2.1 0, 320, .inl (fun _ => 0))), (y3, .inr (4, [.ref y4, .int 0, .int 0, .int 0, .ref y1, .int 0, .int 0, .int 0, .int 0, .int 0, .int 0])), (y4, .inr (8, [.int (3 : Int32), .ref y5])), (y5, .inl ((zG Z).2.1 1, 49, .inl (fun _ => 0))), (y6, .inr (8, [.int (3 : Int32), .ref y7])), (y7, .inl ((zG Z).2.1 1, 49, .inl (fun _ => 0))), (y8, .inr (5, [.int (0 : Int32), .ref y9])), (y9, .inl ((zG Z).2.1 1, 8, .inl (fun _ => 0))), (y10, .inl ((zG Z).2.1 3, 2, .inr (.inr (.inr (.inr (rf2 y11 y16)))))), (y11, .inr (2, [.int (0 : Int32), .ref y12, .ref y14])), (y12, .inr (8, [.int (3 : Int32), .ref y13])), (y13, .inl ((zG Z).2.1 1, 49, .inl (fun _ => 0))), (y14, .inr (5, [.int (0 : Int32), .ref y15])), (y15, .inl ((zG Z).2.1 1, 8, .inl (fun _ => 0))), (y16, .inr (2, [.int (0 : Int32), .ref y17, .ref y19])), (y17, .inr (8, [.int (3 : Int32), .ref y18])), (y18, .inl ((zG Z).2.1 1, 49, .inl (fun _ => 0))), (y19, .inr (5, [.int (0 : Int32), .ref y20])), (y20, .inl ((zG Z).2.1 1, 8, .inl (fun _ => 0))), (y21, .inl ((zG Z).2.1 4, 4, .inr (.inr (.inr (.inr (rf4 y22 y24 y26 y28)))))), (y22, .inr (6, [.int (-1 : Int32), .int (0 : Int32), .ref y23])), (y23, .inl ((zG Z).2.1 1, 40, .inl (fun _ => 0))), (y24, .inr (6, [.int (-1 : Int32), .int (0 : Int32), .ref y25])), (y25, .inl ((zG Z).2.1 1, 40, .inl (fun _ => 0))), (y26, .inr (6, [.int (-1 : Int32), .int (0 : Int32), .ref y27])), (y27, .inl ((zG Z).2.1 1, 40, .inl (fun _ => 0))), (y28, .inr (6, [.int (-1 : Int32), .int (0 : Int32), .ref y29])), (y29, .inl ((zG Z).2.1 1, 40, .inl (fun _ => 0))), (y30, .inr (1, [.int 0, .int 0, .int 0, .int 0, .ref y31, .int 0, .int 0])), (y31, .inl ((zG Z).2.1 1, 70, .inl (fun _ => 0))), (y32, .inr (7, [.long 0, .long 0, .long 0])), (y33, .inr (0, [.int 0, .int 0, .int 0, .ref y6, .ref y34, .ref y35, .ref y36, .int 0])), (y34, .inr (7, [.long 0, .long 0, .long 0])), (y35, .inl ((zG Z).2.1 1, 7, .inl (fun _ => 0))), (y36, .inl ((zG Z).2.1 1, 49, .inl (fun _ => 0))), (y37, .inr (3, [.int 0, .ref y6, .ref y6, .ref y38, .ref y39, .int 0, .int 0])), (y38, .inl ((zG Z).2.1 1, 7, .inl (fun _ => 0))), (y39, .inl ((zG Z).2.1 1, 7, .inl (fun _ => 0)))]) (n_X11_init (zl Z) (zG Z) am) rfl [40] [0, 1, 2, 3, 4, 5, 6, 7, 8, 9, 10, 11, 12, 13, 14, 15, 16, 17, 18, 19, 20, 21, 22, 23, 24, 25, 26, 27, 28, 29, 30, 31, 32, 33, 34, 35, 36, 37, 38, 39] rfl rfl rfl rfl (by decide) rfl (Nat.le_of_ble_eq_true rfl) dL_law_12 15 rfl ⟨Nat.le_of_ble_eq_true rfl, Nat.le_of_ble_eq_true rfl⟩ ?_
    rintro _ ⟨z1, z2, z3, z4, z5, z6, z7, z8, z9, z10, z11, z12, z13, z14, z15, rfl⟩
    refine rn_w (w1 := [(ax, .inr (10, [.ref y1, .ref y3, .ref y6, .ref y8, .ref y10, .ref y21, .ref y30, .ref y32, .ref y33, .ref y37, .int (0 : Int32), .int (0 : Int32)])), (y1, .inr (9, [.int (0 : Int32), .ref y2])), (y2, .inl ((zG Z).2.1 0, 320, .inl (fun _ => 0))), (y3, .inr (4, [.ref y4, .int 0, .int 0, .int 0, .ref y1, .int 0, .int 0, .int 0, .int 0, .int 0, .int 0])), (y4, .inr (8, [.int (3 : Int32), .ref y5])), (y5, .inl ((zG Z).2.1 1, 49, .inl (fun _ => 0))), (y6, .inr (8, [.int (3 : Int32), .ref y7])), (y7, .inl ((zG Z).2.1 1, 49, .inl (fun _ => 0))), (y8, .inr (5, [.int (0 : Int32), .ref y9])), (y9, .inl ((zG Z).2.1 1, 8, .inl (fun _ => 0))), (y10, .inl ((zG Z).2.1 3, 2, .inr (.inr (.inr (.inr (rf2 y11 y16)))))), (y11, .inr (2, [.int (0 : Int32), .ref y12, .ref y14])), (y12, .inr (8, [.int (3 : Int32), .ref y13])), (y13, .inl ((zG Z).2.1 1, 49, .inl (fun _ => 0))), (y14, .inr (5, [.int (0 : Int32), .ref y15])), (y15, .inl ((zG Z).2.1 1, 8, .inl (fun _ => 0))), (y16, .inr (2, [.int (0 : Int32), .ref y17, .ref y19])), (y17, .inr (8, [.int (3 : Int32), .ref y18])), (y18, .inl ((zG Z).2.1 1, 49, .inl (fun _ => 0))), (y19, .inr (5, [.int (0 : Int32), .ref y20])), (y20, .inl ((zG Z).2.1 1, 8, .inl (fun _ => 0))), (y21, .inl ((zG Z).2.1 4, 4, .inr (.inr (.inr (.inr (rf4 y22 y24 y26 y28)))))), (y22, .inr (6, [.int (-1 : Int32), .int (0 : Int32), .ref y23])), (y23, .inl ((zG Z).2.1 1, 40, .inl (fun _ => 0))), (y24, .inr (6, [.int (-1 : Int32), .int (0 : Int32), .ref y25])), (y25, .inl ((zG Z).2.1 1, 40, .inl (fun _ => 0))), (y26, .inr (6, [.int (-1 : Int32), .int (0 : Int32), .ref y27])), (y27, .inl ((zG Z).2.1 1, 40, .inl (fun _ => 0))), (y28, .inr (6, [.int (-1 : Int32), .int (0 : Int32), .ref y29])), (y29, .inl ((zG Z).2.1 1, 40, .inl (fun _ => 0))), (y30, .inr (1, [.int 0, .int 0, .int 0, .int 0, .ref y31, .int 0, .int 0])), (y31, .inl ((zG Z).2.1 1, 70, .inl (fun _ => 0))), (y32, .inr (7, [.long 0, .long 0, .long 0])), (y33, .inr (0, [.int 0, .int 0, .int 0, .ref y6, .ref y34, .ref y35, .ref y36, .int 0])), (y34, .inr (7, [.long 0, .long 0, .long 0])), (y35, .inl ((zG Z).2.1 1, 7, .inl (fun _ => 0))), (y36, .inl ((zG Z).2.1 1, 49, .inl (fun _ => 0))), (y37, .inr (3, [.int 0, .ref y6, .ref y6, .ref y38, .ref y39, .int 0, .int 0])), (y38, .inl ((zG Z).2.1 1, 7, .inl (fun _ => 0))), (y39, .inl ((zG Z).2.1 1, 7, .inl (fun _ => 0))), (am, .inr (11, [.ref z1, .ref z2, .int 0, .ref z3, .int 0, .int 0, .int 0, .int 0, .int 0, .int 0, .int 0, .int 0, .ref z4, .int 0, .int 0, .ref z5, .ref z6, .ref z7, .ref z8, .int 0, .int 0, .int 0, .ref z9, .ref z10, .ref z11, .ref z12, .ref z13, .ref z14, .int 0, .ref z15])), (z1, .inl ((zG Z).2.1 1, 96, .inl (fun _ => 0))), (z2, .inl ((zG Z).2.1 1, 22, .inl (fun _ => 0))), (z3, .inl ((zG Z).2.1 1, 320, .inl (fun _ => 0))), (z4, .inl ((zG Z).2.1 1, 9, .inl (upd (upd (upd (upd (upd (upd (upd (upd (upd (fun _ => 0) 0 (112 : Int32)) 1 (108 : Int32)) 2 (97 : Int32)) 3 (99 : Int32)) 4 (101 : Int32)) 5 (115 : Int32)) 6 (102 : Int32)) 7 (97 : Int32)) 8 (114 : Int32)))), (z5, .inl ((zG Z).2.1 1, 4, .inl (fun _ => 0))), (z6, .inl ((zG Z).2.1 1, 21, .inl (fun _ => 0))), (z7, .inl ((zG Z).2.1 1, 7, .inl (fun _ => 0))), (z8, .inl ((zG Z).2.1 1, 7, .inl (fun _ => 0))), (z9, .inl ((zG Z).2.1 1, 7, .inl (fun _ => 0))), (z10, .inl ((zG Z).2.1 1, 7, .inl (fun _ => 0))), (z11, .inl ((zG Z).2.1 2, 2, .inl (fun _ => 0))), (z12, .inl ((zG Z).2.1 1, 4, .inl (upd (upd (upd (upd (fun _ => 0) 0 (-4 : Int32)) 1 (-4 : Int32)) 2 (-4 : Int32)) 3 (-4 : Int32)))), (z13, .inl ((zG Z).2.1 1, 4, .inl (fun _ => 0))), (z14, .inl ((zG Z).2.1 1, 160, .inl (fun _ => 0))), (z15, .inl ((zG Z).2.1 1, 21, .inl (fun _ => 0)))]) rfl ?_
    refine rn_astore_n hX dL_law_15 2 rfl (by decide) (L' := [(2, .ref am), (1, .ref ax), (0, .ref b)]) rfl 16 rfl ?_
    refine rn_iconst hX dL_law_16 17 rfl ic_0 ?_
    refine rn_istore_n hX dL_law_17 3 rfl (by decide) (L' := [(3, .int 0), (2, .ref am), (1, .ref ax), (0, .ref b)]) rfl 18 rfl ?_
    refine rn_sub [3, 2, 1, 0] rfl ?_
    refine rn_perm (w1 := wL (zG Z) (fun k => [ax, y1, y2, y3, y4, y5, y6, y7, y8, y9, y10, y11, y12, y13, y14, y15, y16, y17, y18, y19, y20, y21, y22, y23, y24, y25, y26, y27, y28, y29, y30, y31, y32, y33, y34, y35, y36, y37, y38, y39, am, z1, z2, z3, z4, z5, z6, z7, z8, z9, z10, z11, z12, z13, z14, z15].getD k 0) (0 : Int32) (0 : Int32) (0 : Int32) (fun _ => 0) 0 0 0 0 0 0 0 0 0 (3 : Int32) (fun _ => 0) (3 : Int32) (fun _ => 0) (0 : Int32) (fun _ => 0) (0 : Int32) (3 : Int32) (fun _ => 0) (0 : Int32) (fun _ => 0) (0 : Int32) (3 : Int32) (fun _ => 0) (0 : Int32) (fun _ => 0) (-1 : Int32) (0 : Int32) (fun _ => 0) (-1 : Int32) (0 : Int32) (fun _ => 0) (-1 : Int32) (0 : Int32) (fun _ => 0) (-1 : Int32) (0 : Int32) (fun _ => 0) 0 0 0 0 0 0 (fun _ => 0) 0 0 0 0 0 0 0 0 0 0 (fun _ => 0) (fun _ => 0) 0 y6 0 0 (fun _ => 0) (fun _ => 0) 0 0 0 0 0 0 0 0 0 0 0 0 0 0 0 (fun _ => 0) (fun _ => 0) (fun _ => 0) (upd (upd (upd (upd (upd (upd (upd (upd (upd (fun _ => 0) 0 (112 : Int32)) 1 (108 : Int32)) 2 (97 : Int32)) 3 (99 : Int32)) 4 (101 : Int32)) 5 (115 : Int32)) 6 (102 : Int32)) 7 (97 : Int32)) 8 (114 : Int32)) (fun _ => 0) (fun _ => 0) (fun _ => 0) (fun _ => 0) (fun _ => 0) (fun _ => 0) (fun _ => 0) (upd (upd (upd (upd (fun _ => 0) 0 (-4 : Int32)) 1 (-4 : Int32)) 2 (-4 : Int32)) 3 (-4 : Int32)) (fun _ => 0) (fun _ => 0) (fun _ => 0)) [0, 1, 2, 3, 4, 5, 6, 7, 8, 9, 10, 11, 12, 13, 14, 15, 16, 17, 18, 19, 20, 21, 22, 23, 24, 25, 26, 27, 28, 29, 30, 31, 32, 33, 34, 35, 36, 37, 38, 39, 40, 41, 42, 43, 44, 45, 46, 47, 48, 49, 50, 51, 52, 53, 54, 55] rfl rfl ?_
    exact law_loop hX hL hsc (fun k => [ax, y1, y2, y3, y4, y5, y6, y7, y8, y9, y10, y11, y12, y13, y14, y15, y16, y17, y18, y19, y20, y21, y22, y23, y24, y25, y26, y27, y28, y29, y30, y31, y32, y33, y34, y35, y36, y37, y38, y39, am, z1, z2, z3, z4, z5, z6, z7, z8, z9, z10, z11, z12, z13, z14, z15].getD k 0) s_feed s_end s_land s_fault s_far s_tell s_pair s_wide s_three s_four s_wrong s_falses s_doubt s_bend s_foot s_height s_round s_side s_within s_sixth s_ends s_drawings s_spare s_base s_tells s_words s_at s_spots s_maps s_part s_clear s_road s_reaches s_keep s_back s_sheet s_lay s_read s_torn s_count (fun g_x_lastFault g_x_lastTear g_x_tape_length g_x_tape_bytes g_x_reader_lines g_x_reader_fault g_x_reader_faultAt g_x_reader_placesTold g_x_reader_greatestPlace g_x_reader_next g_x_reader_kind g_x_reader_start g_x_reader_value g_x_reader_draft_places g_x_reader_draft_squares g_x_table_places g_x_table_squares g_x_way_parts g_x_way_lengths g_x_images_0_kept g_x_images_0_table_places g_x_images_0_table_squares g_x_images_0_way_parts g_x_images_0_way_lengths g_x_images_1_kept g_x_images_1_table_places g_x_images_1_table_squares g_x_images_1_way_parts g_x_images_1_way_lengths g_x_sheets_0_lane g_x_sheets_0_size g_x_sheets_0_cells g_x_sheets_1_lane g_x_sheets_1_size g_x_sheets_1_cells g_x_sheets_2_lane g_x_sheets_2_size g_x_sheets_2_cells g_x_sheets_3_lane g_x_sheets_3_size g_x_sheets_3_cells g_x_flaws_badThrees g_x_flaws_badFours g_x_flaws_flatThrees g_x_flaws_toldThrees g_x_flaws_size g_x_flaws_fewest g_x_flaws_flaws g_x_sixthOf_middle g_x_sixthOf_spread g_x_sixthOf_divisor g_x_drawing_laid g_x_drawing_groups g_x_drawing_stands g_x_drawing_offLine g_x_drawing_sixthOf_middle g_x_drawing_sixthOf_spread g_x_drawing_sixthOf_divisor g_x_drawing_sides g_x_drawing_bonds g_x_naming_found g_x_naming_to g_x_naming_used g_x_naming_firstOnly g_x_naming_first g_x_naming_trial g_m_isAwake g_m_taped g_m_fault g_m_broken g_m_brokenAt g_m_spot g_m_here g_m_token g_m_value g_m_hasPlaces g_m_highest g_m_laid g_m_groupMany g_m_isDrawn g_m_torn g_m_state g_m_readPage g_m_tape g_m_letters g_m_sums g_m_aside g_m_groups g_m_sides g_m_names g_m_firstNames g_m_isKept g_m_lanes g_m_lengths g_m_cells g_m_had x3 => rn_iconst hX dL_law_1679 1680 rfl ic_1 (hret (Nat.le_of_ble_eq_true rfl) (Nat.le_of_ble_eq_true rfl))) (L + 1) 0 (Nat.zero_le _) (by omega) (0 : Int32) (0 : Int32) (0 : Int32) (fun _ => 0) 0 0 0 0 0 0 0 0 0 (3 : Int32) (fun _ => 0) (3 : Int32) (fun _ => 0) (0 : Int32) (fun _ => 0) (0 : Int32) (3 : Int32) (fun _ => 0) (0 : Int32) (fun _ => 0) (0 : Int32) (3 : Int32) (fun _ => 0) (0 : Int32) (fun _ => 0) (-1 : Int32) (0 : Int32) (fun _ => 0) (-1 : Int32) (0 : Int32) (fun _ => 0) (-1 : Int32) (0 : Int32) (fun _ => 0) (-1 : Int32) (0 : Int32) (fun _ => 0) 0 0 0 0 0 0 (fun _ => 0) 0 0 0 0 0 0 0 0 0 0 (fun _ => 0) (fun _ => 0) 0 y6 0 0 (fun _ => 0) (fun _ => 0) 0 0 0 0 0 0 0 0 0 0 0 0 0 0 0 (fun _ => 0) (fun _ => 0) (fun _ => 0) (upd (upd (upd (upd (upd (upd (upd (upd (upd (fun _ => 0) 0 (112 : Int32)) 1 (108 : Int32)) 2 (97 : Int32)) 3 (99 : Int32)) 4 (101 : Int32)) 5 (115 : Int32)) 6 (102 : Int32)) 7 (97 : Int32)) 8 (114 : Int32)) (fun _ => 0) (fun _ => 0) (fun _ => 0) (fun _ => 0) (fun _ => 0) (fun _ => 0) (fun _ => 0) (upd (upd (upd (upd (fun _ => 0) 0 (-4 : Int32)) 1 (-4 : Int32)) 2 (-4 : Int32)) 3 (-4 : Int32)) (fun _ => 0) (fun _ => 0) (fun _ => 0) inv0
  have hl := lv_entry ([.ref b]) (n := 4) (Nat.le_of_ble_eq_true rfl)
  rw [lg_entry_eq]
  generalize (lg_sl ([.ref b]) ++ List.replicate (4 - (lg_sl ([.ref b])).length) Slot.unset).toArray = ls at hl ⊢
  have hl : lv_has ls 4 [(0, .ref b)] := hl
  have := key none [] rfl s.heap [] ls (by intro k q h; simp at h) ⟨fun i j p q h => by simp at h, fun k q h => by simp at h⟩ (by rw [eZ]; exact va_S.rf) hl
  rw [eZ] at this
  exact this
