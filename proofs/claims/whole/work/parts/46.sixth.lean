/-! ===== the sixth, ends, spots, at ===== -/
theorem in_g {lo hi : Nat} (h1 : lo < 2 ^ 31) (h2 : hi < 2 ^ 31) (x : Int32) : X11_in x.toInt64 (lN lo) (lN hi) = b2 (!(decide (x < nI lo)) && decide (x ≤ nI hi)) := by
  unfold X11_in b2
  have a1 : (x.toInt64 < lN lo) ↔ x < nI lo := by
    rw [Int64.lt_iff_toInt_lt, Int32.lt_iff_toInt_lt, Int32.toInt_toInt64, lN_toInt h1, nI_toInt h1]
  have a2 : (lN hi < x.toInt64) ↔ ¬ x ≤ nI hi := by
    rw [Int64.lt_iff_toInt_lt, Int32.le_iff_toInt_le, Int32.toInt_toInt64, lN_toInt h2, nI_toInt h2]; omega
  by_cases h1 : x < nI lo <;> by_cases h2 : x ≤ nI hi <;> simp [a1, a2, h1, h2]
def rng (lo hi : Nat) (x : Int32) : Bool := !(decide (x < nI lo)) && decide (x ≤ nI hi)
theorem rng_of {lo hi : Nat} (h1 : lo < 2 ^ 31) (h2 : hi < 2 ^ 31) {x : Int32} (h : rng lo hi x = true) : ∃ j, lo ≤ j ∧ j ≤ hi ∧ x = nI j := by
  unfold rng at h
  simp only [Bool.and_eq_true, Bool.not_eq_true', decide_eq_false_iff_not, decide_eq_true_eq] at h
  have h0 : ¬ x < 0 := by
    intro z
    have q := h.1
    rw [Int32.lt_iff_toInt_lt, nI_toInt h1] at q
    rw [Int32.lt_iff_toInt_lt, show (0 : Int32).toInt = 0 from by decide] at z
    omega
  obtain ⟨j, hj, rfl⟩ := nI_of h0
  have h3 := h.1
  rw [nI_ltI hj h1] at h3
  exact ⟨j, by omega, (nI_leI hj h2).mp h.2, rfl⟩
def nZ (e : Nat → Nat) (a b c d : Nat) : Int := 2 * zz e c d * (zz e c a + zz e c b) - dZ e c d a * dZ e c d b
def mZ (e : Nat → Nat) (a b c d : Nat) : Int := wZ e c d a * wZ e c d b
theorem wZ_rot (e : Nat → Nat) (a c d : Nat) : wZ e a c d = wZ e c d a := by
  unfold wZ dZ
  have h1 : zz e a c = zz e c a := by unfold zz; rw [tv_symm]
  have h2 : zz e a d = zz e d a := by unfold zz; rw [tv_symm]
  rw [h1, h2]
  grind
theorem take_c {T : Tab} {pl : Int32} {sq : Nat → Int32} (ok : okT T) (h : cT T pl sq) {a b c d : Nat} (ha : a < 7) (hb : b < 7) (hc : c < 7) (hd : d < 7) (g1 g2 g3 : Int64) : X7_take (nI a) (nI b) (nI c) (nI d) g1 g2 g3 sq = some (fI (2 * zz T.2 c d), fI (nZ T.2 a b c d), fI (mZ T.2 a b c d)) := by
  unfold X7_take lat
  rw [square_c h hc hd, square_c h hc ha, square_c h hc hb, leaning_c ok h hc hd ha, leaning_c ok h hc hd hb, wideOf_c ok h ha hc hd, wideOf_c ok h hb hc hd]
  simp only [bs]
  have l1 := tv_le ok c a; have l2 := tv_le ok c b
  rw [toI64 ok, nI_add, nI_l (by omega), ← lN_add]
  show some ((2 : Int64) * q6 T.2 c d, (2 : Int64) * q6 T.2 c d * (q6 T.2 c a + q6 T.2 c b) - dt T.2 c d a * dt T.2 c d b, w3 T.2 a c d * w3 T.2 b c d) = _
  rw [q6_fI, q6_fI, q6_fI, dt_fI, dt_fI, w3_fI, w3_fI, show (2 : Int64) = fI 2 from rfl]
  simp only [fI_mul, fI_add, fI_sub]
  unfold nZ mZ
  rw [wZ_rot T.2 a c d, wZ_rot T.2 b c d]
theorem across_m {T : Tab} {st : Nat → Int32} (ok : okT T) (h : ∀ k, k < 21 → st k = nI (T.2 k)) {a b c d : Nat} (ha : a < 7) (hb : b < 7) (hc : c < 7) (hd : d < 7) : X11_across (nI a) (nI b) (nI c) (nI d) st = some (fI (nZ T.2 a b c d)) := by
  unfold X11_across lat
  rw [sq_m ok h hc hd, sq_m ok h hc ha, sq_m ok h hd ha, sq_m ok h hc hb, sq_m ok h hd hb]
  simp only [bs]
  rw [q6_fI, q6_fI, q6_fI, q6_fI, q6_fI, show (2 : Int64) = fI 2 from rfl]
  simp only [fI_mul, fI_add, fI_sub]
  rfl
theorem under_m {T : Tab} {st : Nat → Int32} (ok : okT T) (h : ∀ k, k < 21 → st k = nI (T.2 k)) {a b c d : Nat} (ha : a < 7) (hb : b < 7) (hc : c < 7) (hd : d < 7) : X11_under (nI a) (nI b) (nI c) (nI d) st = some (fI (mZ T.2 a b c d)) := by
  unfold X11_under
  rw [wideOf_m ok h hc hd ha, wideOf_m ok h hc hd hb]
  simp only [bs]
  rw [w3_fI, w3_fI, fI_mul]
  rfl
theorem gdl_d {α : Type} {D : Int} (h1 : 0 < D) (h2 : D < 2 ^ 62) (o : Option α) : gdl (fI D) o = o := by
  apply gdl_ne
  rw [← fI_0, fI_eq (by omega) (by omega) (by omega) (by omega)]; omega
theorem whole_eq {M N D : Int} {s : Nat} (hD1 : 0 < D) (hD2 : D < 2 ^ 62) (w : Int32) (e : X10_rootOf (fI M) = some (fI s)) (aw : Int32) (st : Nat → Int32) : ∃ r, X7_wholeLength w (fI D) (fI N) (fI M) = some r ∧ (if w = 0 then X11_sixth_J168 (fI M) (fI D) (fI s) (fI N + fI s) aw st else X11_sixth_J168 (fI M) (fI D) (fI s) (fI N - fI s) aw st) = some (r, aw, st) := by
  have hd : ¬ fI D ≤ 0 := by rw [← fI_0, fI_le (by omega) (by omega) (by omega) (by omega)]; omega
  unfold X7_wholeLength X7_wholeLength_J42 X11_sixth_J168
  rw [e]
  simp only [bs, if_neg hd, gdl_d hD1 hD2]
  by_cases h1 : fI (s : Int) * fI (s : Int) = fI M
  · simp only [if_pos h1]
    by_cases h2 : w = 0
    · simp only [if_pos h2]
      by_cases h3 : fI N + fI s - (fI N + fI s) / fI D * fI D = 0
      · rw [if_pos h3, if_pos h3]; exact ⟨_, rfl, rfl⟩
      · rw [if_neg h3, if_neg h3]; exact ⟨_, rfl, rfl⟩
    · simp only [if_neg h2]
      by_cases h3 : fI N - fI s - (fI N - fI s) / fI D * fI D = 0
      · rw [if_pos h3, if_pos h3]; exact ⟨_, rfl, rfl⟩
      · rw [if_neg h3, if_neg h3]; exact ⟨_, rfl, rfl⟩
  · simp only [if_neg h1, ite_self]; exact ⟨_, rfl, rfl⟩
theorem q_sixth {T : Tab} {pl aw : Int32} {sq st : Nat → Int32} (ok : okT T) (hc : cT T pl sq) (hm : mQ T aw st) (x y z t w : Int32) (g1 g2 g3 : Int64) : ∃ u r, X10_sixth x y z t w g1 g2 g3 pl sq = some u ∧ X11_sixth x y z t w aw st = some (r, 1, awk aw st) ∧ u.1 = r := by
  have hin : X11_in w.toInt64 0 4 = b2 (rng 0 4 w) := in_g (lo := 0) (hi := 4) (by decide) (by decide) w
  unfold X10_sixth X11_sixth
  rw [hc.1, areFour_c, areFour_m ok hm, hin]
  simp only [bs]
  cases h : four T.1 x y z t with
  | false => exact ⟨_, _, rfl, rfl, rfl⟩
  | true =>
    obtain ⟨a, b, c, d, ha, hb, hcc, hd, -, -, -, -, -, -, rfl, rfl, rfl, rfl⟩ := four_of (ok31 ok) h
    have a7 := ok7 ok ha; have b7 := ok7 ok hb; have c7 := ok7 ok hcc; have d7 := ok7 ok hd
    simp only [ifb_t]
    cases hr : rng 0 4 w with
    | false =>
      rw [ifb_f]
      unfold rng at hr
      by_cases h1 : w < 0
      · rw [if_pos h1]; exact ⟨_, _, rfl, rfl, rfl⟩
      · rw [if_neg h1]
        have h1' : ¬ w < nI 0 := h1
        have h2 : ¬ w ≤ (4 : Int32) := by
          intro q
          have q' : w ≤ nI 4 := q
          simp [h1', q'] at hr
        rw [if_neg h2]; exact ⟨_, _, rfl, rfl, rfl⟩
    | true =>
      obtain ⟨j, -, hj, rfl⟩ := rng_of (by decide) (by decide) hr
      rw [ifb_t, if_neg (nI_pos (by omega)), if_pos (show nI j ≤ (4 : Int32) from nI_le (a := j) (b := 4) hj (by decide))]
      rw [isToldThree_c ok hc a7 c7 d7, isToldThree_c ok hc b7 c7 d7, canBe_c ok hc a7 c7 d7, canBe_c ok hc b7 c7 d7, areTold_m ok hm.st.2 c7 d7 a7, areTold_m ok hm.st.2 c7 d7 b7, canBe_m ok hm.st.2 c7 d7 a7, canBe_m ok hm.st.2 c7 d7 b7, take_c ok hc a7 b7 c7 d7, across_m ok hm.st.2 a7 b7 c7 d7, under_m ok hm.st.2 a7 b7 c7 d7, sq_m ok hm.st.2 c7 d7]
      simp only [bs]
      rw [show t3 T.2 a c d = t3 T.2 c d a from by rw [t3_12, t3_23], show t3 T.2 b c d = t3 T.2 c d b from by rw [t3_12, t3_23], show c3 T.2 a c d = c3 T.2 c d a from by rw [c3_12, c3_23], show c3 T.2 b c d = c3 T.2 c d b from by rw [c3_12, c3_23]]
      cases e1 : t3 T.2 c d a with
      | false => simp only [ifb_f]; exact ⟨_, _, rfl, rfl, rfl⟩
      | true =>
      cases e2 : t3 T.2 c d b with
      | false => simp only [ifb_f, ifb_t]; exact ⟨_, _, rfl, rfl, rfl⟩
      | true =>
      cases e3 : c3 T.2 c d a with
      | false => simp only [ifb_f, ifb_t]; exact ⟨_, _, rfl, rfl, rfl⟩
      | true =>
      cases e4 : c3 T.2 c d b with
      | false => simp only [ifb_f, ifb_t]; exact ⟨_, _, rfl, rfl, rfl⟩
      | true =>
        simp only [ifb_t]
        have hp := (t3_pos e1).1
        have hl := tv_le ok c d
        have w1 := wZ_b ok c d a; have w2 := wZ_b ok c d b
        have p1 := (c3_iff ok c d a).mp e3; have p2 := (c3_iff ok c d b).mp e4
        have hM0 : 0 ≤ mZ T.2 a b c d := Int.mul_nonneg p1 p2
        have hM1 := mul_b (x := wZ T.2 c d a) (y := wZ T.2 c d b) (A := 400000000) (B := 400000000) (by omega) (by omega)
        have hM2 : mZ T.2 a b c d < 1000000000000000000 := by unfold mZ; omega
        have eD : (2 : Int64) * q6 T.2 c d = fI (2 * zz T.2 c d) := by rw [q6_fI, show (2 : Int64) = fI 2 from rfl, fI_mul]
        have hD1 : 0 < 2 * zz T.2 c d := by unfold zz; omega
        have hD2 : 2 * zz T.2 c d < 2 ^ 62 := by unfold zz; omega
        obtain ⟨s, r1, r2, -, -⟩ := roots (v := (mZ T.2 a b c d).toNat) (by omega)
        rw [show (((mZ T.2 a b c d).toNat : Nat) : Int) = mZ T.2 a b c d by omega] at r1 r2
        unfold lat X10_sixth_J175
        rw [eD]
        dsimp only
        rcases (show j = 0 ∨ j = 1 ∨ j = 2 ∨ j = 3 ∨ j = 4 by omega) with rfl | rfl | rfl | rfl | rfl
        · exact ⟨_, _, rfl, rfl, rfl⟩
        · exact ⟨_, _, rfl, rfl, rfl⟩
        · exact ⟨_, _, rfl, rfl, rfl⟩
        · obtain ⟨r, k1, k2⟩ := whole_eq (N := nZ T.2 a b c d) hD1 hD2 1 r1 1 (awk aw st)
          rw [if_neg (by decide)] at k2
          rw [if_neg (by decide), if_neg (by decide), if_neg (by decide), if_pos (by decide), if_pos (by decide), r2]
          simp only [bs]
          rw [if_pos (by decide), k1, k2]
          exact ⟨_, _, rfl, rfl, rfl⟩
        · obtain ⟨r, k1, k2⟩ := whole_eq (N := nZ T.2 a b c d) hD1 hD2 0 r1 1 (awk aw st)
          rw [if_pos rfl] at k2
          rw [if_neg (by decide), if_neg (by decide), if_neg (by decide), if_neg (by decide), if_pos (by decide), r2]
          simp only [bs]
          rw [if_neg (by decide), k1, k2]
          exact ⟨_, _, rfl, rfl, rfl⟩
