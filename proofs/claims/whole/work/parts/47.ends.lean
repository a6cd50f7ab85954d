/-! ===== ends, spots, at ===== -/
theorem isSq_c (x : Int32) : X10_isSquare x = b2 (rng 1 9999 x) := by
  unfold X10_isSquare rng b2
  have e1 : (x < (1 : Int32)) ↔ x < nI 1 := Iff.rfl
  have e2 : ((9999 : Int32) < x) ↔ ¬ x ≤ nI 9999 := by
    rw [show (9999 : Int32) = nI 9999 from rfl, Int32.not_le]
  by_cases h1 : x < nI 1 <;> by_cases h2 : x ≤ nI 9999 <;> simp [e1, e2, h1, h2]
theorem in_sq (x : Int32) : X11_in x.toInt64 1 9999 = b2 (rng 1 9999 x) := in_g (lo := 1) (hi := 9999) (by decide) (by decide) x
theorem isAt_m {T : Tab} {aw : Int32} {st : Nat → Int32} (ok : okT T) (h : mQ T aw st) (x n y m : Int32) : X11_isAt x n y m aw st = some (b2 (two T.1 x y && (rng 1 9999 n && rng 1 9999 m)), 1, awk aw st) := by
  unfold X11_isAt
  rw [areTwo_m ok h, in_sq, in_sq]
  simp only [bs]
  cases two T.1 x y <;> cases rng 1 9999 n <;> cases rng 1 9999 m <;> rfl
theorem lN_fI (n : Nat) : lN n = fI (n : Int) := rfl
theorem q_spots {T : Tab} {pl aw : Int32} {sq st : Nat → Int32} (ok : okT T) (hc : cT T pl sq) (hm : mQ T aw st) (x n y m : Int32) : ∃ r, X10_spots x n y m pl sq = some r ∧ X11_spots x n y m aw st = some (r, 1, awk aw st) := by
  unfold X10_spots X11_spots
  rw [hc.1, areTwo_c, isAt_m ok hm, isSq_c, isSq_c]
  simp only [bs]
  cases h : two T.1 x y with
  | false => exact ⟨-1, rfl, rfl⟩
  | true =>
  cases h1 : rng 1 9999 n with
  | false => exact ⟨-1, rfl, rfl⟩
  | true =>
  cases h2 : rng 1 9999 m with
  | false => exact ⟨-1, rfl, rfl⟩
  | true =>
    obtain ⟨a, b, ha, hb, hab, rfl, rfl⟩ := two_of (ok31 ok) h
    obtain ⟨i, hi1, hi2, rfl⟩ := rng_of (by decide) (by decide) h1
    obtain ⟨j, hj1, hj2, rfl⟩ := rng_of (by decide) (by decide) h2
    rw [square_c hc (ok7 ok ha) (ok7 ok hb), sq_m ok hm.st.2 (ok7 ok ha) (ok7 ok hb)]
    simp only [bs, ifb_t, eq0_c ok, eq0_m ok, Bool.and_self]
    rw [toI64 ok, nI_l (by omega), nI_l (by omega)]
    have e : X10_wideOfSquares (q6 T.2 a b) (lN i) (lN j) = fI (4 * zz T.2 a b * i - (zz T.2 a b + i - j) * (zz T.2 a b + i - j)) := by
      unfold X10_wideOfSquares lat
      rw [q6_fI, lN_fI, lN_fI, show (4 : Int64) = fI 4 from rfl]
      simp only [fI_mul, fI_add, fI_sub]
    have e' : X11_wideBy (q6 T.2 a b) (lN i) (lN j) = X10_wideOfSquares (q6 T.2 a b) (lN i) (lN j) := rfl
    have hz := zz_b ok a b
    have p1 := mul_b (x := 4 * zz T.2 a b) (y := (i : Int)) (A := 40000) (B := 10000) (by omega) (by omega)
    have p2 := mul_b (x := zz T.2 a b + i - j) (y := zz T.2 a b + i - j) (A := 30000) (B := 30000) (by omega) (by omega)
    rw [e', e, sgn_eq (by omega) (by omega), Int32.add_comm]
    cases t2 T.2 a b <;> exact ⟨_, rfl, rfl⟩
-- at
theorem nI_eqL {v : Nat} {x : Nat} (hv : v < 2 ^ 31) (hx : x < 2 ^ 31) : (lN v = (nI x).toInt64) ↔ (nI v = nI x) := by
  rw [nI_l hx, lN_eq hv hx, nI_eq hv hx]
theorem at_loop {T : Tab} {pl : Int32} {sq st : Nat → Int32} (ok : okT T) (hc : cT T pl sq) (hm : mst T st) {a b i j : Nat} (ha : a < 7) (hb : b < 7) (hi : i < 2 ^ 31) (hj : j < 2 ^ 31) : ∀ (k p n1 n2 : Nat) (s : Int32), p + k = T.1 → k + 1 ≤ n1 → k + 1 ≤ n2 → ∃ r, X10_at_L35 pl sq n1 (nI a) (nI i) (nI b) (nI j) s (nI p) = some r ∧ X11_at_L20 n2 (nI a) (nI i) (nI b) (nI j) s (nI p) 1 st = some (r, 1, st)
  | 0, p, n1 + 1, n2 + 1, s, hp, _, _ => by
    refine ⟨s, ?_, ?_⟩
    · show X10_at_B35 _ _ _ _ _ _ _ _ _ = _
      unfold X10_at_B35
      rw [hc.1, if_pos (nI_le (by omega) (by have := ok.2.1; omega))]
    · show X11_at_B20 _ _ _ _ _ _ _ _ _ = _
      unfold X11_at_B20
      rw [hm.1, if_pos (nI_le (by omega) (by have := ok.2.1; omega))]
  | k + 1, p, n1 + 1, n2 + 1, s, hp, h1, h2 => by
    have h7 := ok.2.1
    have p7 : p < 7 := by omega
    obtain ⟨r1, e1, e2⟩ := at_loop ok hc hm ha hb hi hj k (p + 1) n1 n2 s (by omega) (by omega) (by omega)
    obtain ⟨r2, e3, e4⟩ := at_loop ok hc hm ha hb hi hj k (p + 1) n1 n2 (s ||| ((1 : Int32) <<< (nI p &&& 31))) (by omega) (by omega) (by omega)
    have l1 := tv_le ok a p; have l2 := tv_le ok b p
    show ∃ r, X10_at_B35 _ _ _ _ _ _ _ _ _ = _ ∧ X11_at_B20 _ _ _ _ _ _ _ _ _ = _
    unfold X10_at_B35 X11_at_B20 X11_at_J68 X11_at_J69 X10_at_J85 lat
    rw [hc.1, hm.1, if_neg (nI_ge (by omega) (by omega)), if_neg (nI_ge (by omega) (by omega)), square_c hc ha p7, square_c hc hb p7, sq_m ok hm.2 p7 ha, sq_m ok hm.2 p7 hb]
    simp only [bs]
    rw [q6_symm T.2 p a, q6_symm T.2 p b]
    unfold q6
    rw [nI_1, Int32.or_zero]
    rw [hc.1] at e1 e3
    by_cases c1 : nI (tv T.2 a p) = nI i
    · rw [if_pos c1, if_pos ((nI_eqL (by omega) hi).mpr c1)]
      by_cases c2 : nI (tv T.2 b p) = nI j
      · rw [if_pos c2, if_pos ((nI_eqL (by omega) hj).mpr c2)]
        exact ⟨r2, e3, e4⟩
      · rw [if_neg c2, if_neg (fun z => c2 ((nI_eqL (by omega) hj).mp z))]
        exact ⟨r1, e1, e2⟩
    · rw [if_neg c1, if_neg (fun z => c1 ((nI_eqL (by omega) hi).mp z))]
      exact ⟨r1, e1, e2⟩
theorem q_at {T : Tab} {pl aw : Int32} {sq st : Nat → Int32} (ok : okT T) (hc : cT T pl sq) (hm : mQ T aw st) (x n y m : Int32) : ∃ r, X10_at x n y m pl sq = some r ∧ X11_at x n y m aw st = some (r, 1, awk aw st) := by
  unfold X10_at X11_at
  rw [isAt_m ok hm, isSq_c, isSq_c]
  simp only [bs]
  rw [show X8_areTwo x y pl = b2 (two T.1 x y) from by rw [hc.1, areTwo_c]]
  cases h : two T.1 x y with
  | false => exact ⟨-1, rfl, rfl⟩
  | true =>
  cases h1 : rng 1 9999 n with
  | false => exact ⟨-1, rfl, rfl⟩
  | true =>
  cases h2 : rng 1 9999 m with
  | false => exact ⟨-1, rfl, rfl⟩
  | true =>
    obtain ⟨a, b, ha, hb, hab, rfl, rfl⟩ := two_of (ok31 ok) h
    obtain ⟨i, hi1, hi2, rfl⟩ := rng_of (by decide) (by decide) h1
    obtain ⟨j, hj1, hj2, rfl⟩ := rng_of (by decide) (by decide) h2
    simp only [ifb_t, Bool.and_self]
    exact at_loop ok hc hm.st (ok7 ok ha) (ok7 ok hb) (by omega) (by omega) T.1 0 1000 1000 0 (by omega) (by have := ok.2.1; omega) (by have := ok.2.1; omega)
-- ends
theorem nI_sub' {a b : Nat} (h : b ≤ a) : nI a - nI b = nI (a - b) := by
  have := nI_add (a - b) b
  rw [show a - b + b = a by omega] at this
  rw [← this, Int32.add_sub_cancel]
theorem ends_loop {T : Tab} {pl : Int32} {sq st : Nat → Int32} (ok : okT T) (hc : cT T pl sq) (hm : mst T st) {a b : Nat} (ha : a < T.1) (hb : b < T.1) (w : Int32) : ∀ (k p n1 n2 lo hi : Nat), p + k = T.1 → k + 1 ≤ n1 → k + 1 ≤ n2 → lo ≤ 100000 → hi ≤ 100000 → ∃ r, X10_ends_L33 pl sq X10_ends_J132 n1 (nI a) (nI b) w (nI lo) (nI hi) (nI p) = some r ∧ X11_ends_L32 X11_ends_J166 n2 (nI a) (nI b) w (lN lo) (lN hi) (nI p) 1 st = some (r, 1, st)
  | 0, p, n1 + 1, n2 + 1, lo, hi, hp, _, _, _, _ => by
    refine ⟨if w = 0 then nI lo else nI hi, ?_, ?_⟩
    · show X10_ends_B33 _ _ _ _ _ _ _ _ _ _ = _
      unfold X10_ends_B33 X10_ends_J132
      rw [hc.1, if_pos (nI_le (by omega) (by have := ok.2.1; omega))]
      split <;> rfl
    · show X11_ends_B32 _ _ _ _ _ _ _ _ _ _ = _
      unfold X11_ends_B32 X11_ends_J166
      rw [hm.1, if_pos (nI_le (by omega) (by have := ok.2.1; omega)), lN_i, lN_i]
      split <;> rfl
  | k + 1, p, n1 + 1, n2 + 1, lo, hi, hp, h1, h2, hl, hh => by
    have h7 := ok.2.1
    have p7 : p < 7 := by omega
    have a7 : a < 7 := by omega
    have b7 : b < 7 := by omega
    obtain ⟨r1, e1, e2⟩ := ends_loop ok hc hm ha hb w k (p + 1) n1 n2 lo hi (by omega) (by omega) (by omega) hl hh
    have l1 := tv_le ok a p; have l2 := tv_le ok b p
    show ∃ r, X10_ends_B33 _ _ _ _ _ _ _ _ _ _ = _ ∧ X11_ends_B32 _ _ _ _ _ _ _ _ _ _ = _
    unfold X10_ends_B33 X11_ends_B32 X10_ends_J126 X11_ends_J129 X11_ends_J158 X11_ends_J160 lat
    rw [hc.1, hm.1, if_neg (nI_ge (by omega) (by omega)), if_neg (nI_ge (by omega) (by omega)), square_c hc a7 p7, square_c hc b7 p7, sq_m ok hm.2 a7 p7, sq_m ok hm.2 b7 p7]
    simp only [bs, le0_c ok, le0_m ok]
    rw [nI_1]
    rw [hc.1] at e1
    by_cases pa : p = a
    · subst pa
      have : t2 T.2 p p = false := by unfold t2; rw [tv_self]; rfl
      rw [if_pos this, if_pos rfl]
      exact ⟨r1, e1, e2⟩
    by_cases pb : p = b
    · subst pb
      have : t2 T.2 p p = false := by unfold t2; rw [tv_self]; rfl
      rw [if_pos this, ite_self, if_neg (fun z => pa ((nI_eq (by omega) (by omega)).mp z)), if_pos rfl]
      exact ⟨r1, e1, e2⟩
    rw [if_neg (show ¬ nI p = nI a from fun z => pa ((nI_eq (by omega) (by omega)).mp z)), if_neg (show ¬ nI p = nI b from fun z => pb ((nI_eq (by omega) (by omega)).mp z))]
    cases q1 : t2 T.2 a p with
    | false => rw [if_pos rfl, if_pos rfl]; exact ⟨r1, e1, e2⟩
    | true =>
    rw [if_neg (show ¬ (true = false) by decide)]
    cases q2 : t2 T.2 b p with
    | false => rw [if_pos rfl, if_pos rfl]; exact ⟨r1, e1, e2⟩
    | true =>
    rw [if_neg (show ¬ (true = false) by decide)]
    have hx := t2_pos q1; have hy := t2_pos q2
    have hxy : 4 * tv T.2 a p * tv T.2 b p ≤ 4 * 9999 * 9999 := Nat.mul_le_mul (Nat.mul_le_mul (Nat.le_refl 4) l1) l2
    obtain ⟨s, r2, r3, s1, s2⟩ := roots (v := 4 * tv T.2 a p * tv T.2 b p) (by omega)
    have eM : (4 : Int64) * (nI (tv T.2 a p)).toInt64 * (nI (tv T.2 b p)).toInt64 = fI ((4 * tv T.2 a p * tv T.2 b p : Nat) : Int) := by
      rw [toI64 ok, toI64 ok, q6_fI, q6_fI, show (4 : Int64) = fI 4 from rfl, fI_mul, fI_mul]; unfold zz; congr 1
    have eM2 : (4 : Int64) * q6 T.2 a p * q6 T.2 b p = fI ((4 * tv T.2 a p * tv T.2 b p : Nat) : Int) := by
      rw [q6_fI, q6_fI, show (4 : Int64) = fI 4 from rfl, fI_mul, fI_mul]; unfold zz; congr 1
    rw [eM, eM2, r2, r3]
    simp only [bs]
    have hs : s ≤ tv T.2 a p + tv T.2 b p := by
      rcases Nat.lt_or_ge (tv T.2 a p + tv T.2 b p) s with h | h
      · exfalso
        have h3 := Nat.mul_le_mul (Nat.succ_le_of_lt h) (Nat.succ_le_of_lt h)
        have h5 : 4 * tv T.2 a p * tv T.2 b p ≤ (tv T.2 a p + tv T.2 b p) * (tv T.2 a p + tv T.2 b p) := by
          generalize tv T.2 a p = u
          generalize tv T.2 b p = v
          have e : ((u : Int) + v) * (u + v) - 4 * u * v = (u - v) * (u - v) := by grind
          have n : 0 ≤ ((u : Int) - v) * (u - v) := by
            rcases Int.le_total 0 ((u : Int) - v) with h | h
            · exact Int.mul_nonneg h h
            · exact Int.mul_nonneg_of_nonpos_of_nonpos h h
          have : (4 * u * v : Int) ≤ (u + v) * (u + v) := by omega
          exact_mod_cast this
        have h6 : (tv T.2 a p + tv T.2 b p) * (tv T.2 a p + tv T.2 b p) < (tv T.2 a p + tv T.2 b p).succ * (tv T.2 a p + tv T.2 b p).succ := Nat.mul_lt_mul'' (Nat.lt_succ_self _) (Nat.lt_succ_self _)
        omega
      · exact h
    have es : (fI (s : Int)).toInt32 = nI s := lN_i s
    have i1 : nI (tv T.2 a p) + nI (tv T.2 b p) - nI s = nI (tv T.2 a p + tv T.2 b p - s) := by rw [nI_add, nI_sub' hs]
    have i2 : nI (tv T.2 a p) + nI (tv T.2 b p) + nI s = nI (tv T.2 a p + tv T.2 b p + s) := by rw [nI_add, nI_add]
    have i3 : q6 T.2 a p + q6 T.2 b p - fI (s : Int) = lN (tv T.2 a p + tv T.2 b p - s) := by
      unfold q6; rw [lN_add, ← lN_fI, lN_sub hs]
    have i4 : q6 T.2 a p + q6 T.2 b p + fI (s : Int) = lN (tv T.2 a p + tv T.2 b p + s) := by
      unfold q6; rw [lN_add, ← lN_fI, lN_add]
    rw [es, i1, i2, i3, i4]
    generalize hA : tv T.2 a p + tv T.2 b p - s = lo2
    generalize hB : tv T.2 a p + tv T.2 b p + s = hi2
    have c1 : (nI lo < nI lo2) ↔ lo < lo2 := nI_ltI (by omega) (by omega)
    have c2 : (nI hi2 < nI hi) ↔ hi2 < hi := nI_ltI (by omega) (by omega)
    have c3 : (lN lo2 ≤ lN lo) ↔ lo2 ≤ lo := lN_le (by omega) (by omega)
    have c4 : (lN hi ≤ lN hi2) ↔ hi ≤ hi2 := lN_le (by omega) (by omega)
    simp only [c1, c2, c3, c4]
    by_cases d1 : lo < lo2 <;> by_cases d2 : hi2 < hi
    · rw [if_pos d1, if_pos d2, if_neg (show ¬ lo2 ≤ lo by omega), if_neg (show ¬ hi ≤ hi2 by omega)]
      obtain ⟨r, g1, g2⟩ := ends_loop ok hc hm ha hb w k (p + 1) n1 n2 lo2 hi2 (by omega) (by omega) (by omega) (by omega) (by omega)
      rw [hc.1] at g1; exact ⟨r, g1, g2⟩
    · rw [if_pos d1, if_neg d2, if_neg (show ¬ lo2 ≤ lo by omega), if_pos (show hi ≤ hi2 by omega)]
      obtain ⟨r, g1, g2⟩ := ends_loop ok hc hm ha hb w k (p + 1) n1 n2 lo2 hi (by omega) (by omega) (by omega) (by omega) (by omega)
      rw [hc.1] at g1; exact ⟨r, g1, g2⟩
    · rw [if_neg d1, if_pos d2, if_pos (show lo2 ≤ lo by omega), if_neg (show ¬ hi ≤ hi2 by omega)]
      obtain ⟨r, g1, g2⟩ := ends_loop ok hc hm ha hb w k (p + 1) n1 n2 lo hi2 (by omega) (by omega) (by omega) (by omega) (by omega)
      rw [hc.1] at g1; exact ⟨r, g1, g2⟩
    · rw [if_neg d1, if_neg d2, if_pos (show lo2 ≤ lo by omega), if_pos (show hi ≤ hi2 by omega)]
      exact ⟨r1, e1, e2⟩
theorem q_ends {T : Tab} {pl aw : Int32} {sq st : Nat → Int32} (ok : okT T) (hc : cT T pl sq) (hm : mQ T aw st) (x y w : Int32) : ∃ r, X10_ends x y w pl sq = some r ∧ X11_ends x y w aw st = some (r, 1, awk aw st) := by
  unfold X10_ends X11_ends
  rw [areTwo_m ok hm, in01, show X8_areTwo x y pl = b2 (two T.1 x y) from by rw [hc.1, areTwo_c]]
  simp only [bs]
  cases h : two T.1 x y with
  | false => exact ⟨-1, rfl, rfl⟩
  | true =>
    obtain ⟨a, b, ha, hb, hab, rfl, rfl⟩ := two_of (ok31 ok) h
    simp only [ifb_t]
    by_cases h1 : w < 0
    · rw [if_pos h1, show (!(decide (w < 0)) && decide (w ≤ 1)) = false by simp [h1]]; exact ⟨-1, rfl, rfl⟩
    · rw [if_neg h1]
      by_cases h2 : w ≤ 1
      · rw [if_pos h2, show (!(decide (w < 0)) && decide (w ≤ 1)) = true by simp [h1, h2], ifb_t]
        exact ends_loop ok hc hm.st ha hb w T.1 0 1000 1000 0 99999 (by omega) (by have := ok.2.1; omega) (by have := ok.2.1; omega) (by omega) (by omega)
      · rw [if_neg h2, show (!(decide (w < 0)) && decide (w ≤ 1)) = false by simp [h2]]; exact ⟨-1, rfl, rfl⟩
