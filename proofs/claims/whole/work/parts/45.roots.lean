/-! ===== sides, roots, the sixth ===== -/
theorem wb_12 (x y z : Int64) : X11_wideBy x y z = X11_wideBy y x z := by unfold X11_wideBy lat; grind
theorem wb_23 (x y z : Int64) : X11_wideBy x y z = X11_wideBy x z y := by unfold X11_wideBy lat; grind
theorem w3_12 (e : Nat → Nat) (a b c : Nat) : w3 e a b c = w3 e b a c := by
  unfold w3; rw [q6_symm e b a, wb_23]
theorem w3_23 (e : Nat → Nat) (a b c : Nat) : w3 e a b c = w3 e a c b := by
  unfold w3; rw [q6_symm e c b, wb_12]
theorem c3_12 (e : Nat → Nat) (a b c : Nat) : c3 e a b c = c3 e b a c := by unfold c3; rw [w3_12]
theorem c3_23 (e : Nat → Nat) (a b c : Nat) : c3 e a b c = c3 e a c b := by unfold c3; rw [w3_23]
theorem t2_symm (e : Nat → Nat) (a b : Nat) : t2 e a b = t2 e b a := by unfold t2; rw [tv_symm]
theorem t3_12 (e : Nat → Nat) (a b c : Nat) : t3 e a b c = t3 e b a c := by
  unfold t3; rw [t2_symm e b a]; cases t2 e a b <;> cases t2 e a c <;> cases t2 e b c <;> rfl
theorem t3_23 (e : Nat → Nat) (a b c : Nat) : t3 e a b c = t3 e a c b := by
  unfold t3; rw [t2_symm e c b]; cases t2 e a b <;> cases t2 e a c <;> cases t2 e b c <;> rfl
def dP (ab ac ad bc bd cd : Int64) : Int64 := 2 * ab * (2 * ac) * (2 * ad) + 2 * (ab + ac - bc) * (ab + ad - bd) * (ac + ad - cd) - 2 * ab * (ac + ad - cd) * (ac + ad - cd) - 2 * ac * (ab + ad - bd) * (ab + ad - bd) - 2 * ad * (ab + ac - bc) * (ab + ac - bc)
theorem det_dP (e : Nat → Nat) (a b c d : Nat) : det e a b c d = dP (q6 e a b) (q6 e a c) (q6 e a d) (q6 e b c) (q6 e b d) (q6 e c d) := rfl
theorem dP_ab (ab ac ad bc bd cd : Int64) : dP ab ac ad bc bd cd = dP ab bc bd ac ad cd := by unfold dP; grind
theorem dP_bc (ab ac ad bc bd cd : Int64) : dP ab ac ad bc bd cd = dP ac ab ad bc cd bd := by unfold dP; grind
theorem dP_cd (ab ac ad bc bd cd : Int64) : dP ab ac ad bc bd cd = dP ab ad ac bd bc cd := by unfold dP; grind
theorem c4_ab (e : Nat → Nat) (a b c d : Nat) : c4 e a b c d = c4 e b a c d := by
  unfold c4
  rw [det_dP, det_dP, dP_ab, q6_symm e b a, c3_12 e b a c, c3_12 e b a d]
  cases c3 e a b c <;> cases c3 e a b d <;> cases c3 e a c d <;> cases c3 e b c d <;> rfl
theorem c4_bc (e : Nat → Nat) (a b c d : Nat) : c4 e a b c d = c4 e a c b d := by
  unfold c4
  rw [det_dP, det_dP, dP_bc, q6_symm e c b, c3_23 e a c b, c3_12 e c b d]
  cases c3 e a b c <;> cases c3 e a b d <;> cases c3 e a c d <;> cases c3 e b c d <;> rfl
theorem c4_cd (e : Nat → Nat) (a b c d : Nat) : c4 e a b c d = c4 e a b d c := by
  unfold c4
  rw [det_dP, det_dP, dP_cd, q6_symm e d c, c3_23 e a d c, c3_23 e b d c]
  cases c3 e a b c <;> cases c3 e a b d <;> cases c3 e a c d <;> cases c3 e b c d <;> rfl
theorem c4_c (e : Nat → Nat) (a b c d : Nat) : c4 e c a b d = c4 e a b c d := by rw [c4_ab, c4_bc]
theorem c4_d (e : Nat → Nat) (a b c d : Nat) : c4 e d a b c = c4 e a b c d := by rw [c4_ab, c4_bc, c4_cd]
theorem isWhole_m {T : Tab} {st : Nat → Int32} (ok : okT T) (h : ∀ k, k < 21 → st k = nI (T.2 k)) {a b c d : Nat} (ha : a < 7) (hb : b < 7) (hc : c < 7) (hd : d < 7) : X11_isWhole (nI a) (nI b) (nI c) (nI d) st = some (b2 (t4 T.2 a b c d && c4 T.2 a b c d)) := by
  have key : ∀ s0, X11_isWhole_J54 st (nI a) (nI b) (nI c) (nI d) s0 = some (b2 (c4 T.2 a b c d)) := by
    intro s0
    unfold X11_isWhole_J54
    have e1 := (c4_ab T.2 a b c d).symm
    have e2 := c4_c T.2 a b c d
    have e3 := c4_d T.2 a b c d
    simp only [canFour_m ok h ha hb hc hd, canFour_m ok h hb ha hc hd, canFour_m ok h hc ha hb hd, canFour_m ok h hd ha hb hc, bs, gz_b2, e1, e2, e3]
    split
    · rfl
    · split
      · rfl
      · split <;> rfl
  unfold X11_isWhole X11_isWhole_J24 X11_isWhole_J38
  simp only [allTold_m ok h ha hb hc hd, bs, key, ite_self]
  cases t4 T.2 a b c d <;> rfl
def sd (e : Nat → Nat) (a b c d : Nat) : Int64 := 2 * q6 e a b * dt e a c d - dt e a b c * dt e a b d
def sg (e : Nat → Nat) (a b c d : Nat) : Int32 := X11_signOf (sd e a b c d)
theorem sd_fI (e : Nat → Nat) (a b c d : Nat) : sd e a b c d = fI (2 * zz e a b * dZ e a c d - dZ e a b c * dZ e a b d) := by
  unfold sd; rw [q6_fI, dt_fI, dt_fI, dt_fI, show (2 : Int64) = fI 2 from rfl]; simp only [fI_mul, fI_sub]
theorem sd_b {T : Tab} (ok : okT T) (a b c d : Nat) : -2 ^ 40 < 2 * zz T.2 a b * dZ T.2 a c d - dZ T.2 a b c * dZ T.2 a b d ∧ 2 * zz T.2 a b * dZ T.2 a c d - dZ T.2 a b c * dZ T.2 a b d < 2 ^ 40 := by
  have h1 := zz_b ok a b
  have d1 := dZ_b ok a c d; have d2 := dZ_b ok a b c; have d3 := dZ_b ok a b d
  have p1 := mul_b (x := 2 * zz T.2 a b) (y := dZ T.2 a c d) (A := 19998) (B := 19998) (by omega) d1
  have p2 := mul_b d2 d3
  omega
theorem sideSign_c {T : Tab} {pl : Int32} {sq : Nat → Int32} (ok : okT T) (h : cT T pl sq) {a b c d : Nat} (ha : a < 7) (hb : b < 7) (hc : c < 7) (hd : d < 7) : X8_sideSign (nI a) (nI b) (nI c) (nI d) sq = some (sg T.2 a b c d) := by
  unfold X8_sideSign
  simp only [square_c h ha hb, leaning_c ok h ha hc hd, leaning_c ok h ha hb hc, leaning_c ok h ha hb hd, bs, toI64 ok]
  have hb := sd_b ok a b c d
  show some (J13_signum_95d88 (sd T.2 a b c d)) = _
  unfold sg
  rw [sd_fI, sgn_eq (by omega) (by omega)]
theorem sideOf_m {T : Tab} {st : Nat → Int32} (ok : okT T) (h : ∀ k, k < 21 → st k = nI (T.2 k)) {a b c d : Nat} (ha : a < 7) (hb : b < 7) (hc : c < 7) (hd : d < 7) : X11_sideOf (nI a) (nI b) (nI c) (nI d) st = some (sg T.2 a b c d) := by
  unfold X11_sideOf
  simp only [sq_m ok h ha hb, dot_m ok h ha hc hd, dot_m ok h ha hb hc, dot_m ok h ha hb hd, bs]
  rfl
theorem q_side {T : Tab} {pl aw : Int32} {sq st : Nat → Int32} (ok : okT T) (hc : cT T pl sq) (hm : mQ T aw st) (x y z t : Int32) : ∃ r, X10_side x y z t pl sq = some r ∧ X11_side x y z t aw st = some (r, 1, awk aw st) := by
  unfold X10_side X11_side
  rw [hc.1, areFour_c, areFour_m ok hm]
  simp only [bs]
  cases h : four T.1 x y z t with
  | false => exact ⟨_, rfl, rfl⟩
  | true =>
    obtain ⟨a, b, c, d, ha, hb, hcc, hd, -, -, -, -, -, -, rfl, rfl, rfl, rfl⟩ := four_of (ok31 ok) h
    simp only [isToldFour_c ok hc (ok7 ok ha) (ok7 ok hb) (ok7 ok hcc) (ok7 ok hd), canFour_c ok hc (ok7 ok ha) (ok7 ok hb) (ok7 ok hcc) (ok7 ok hd), isWhole_m ok hm.st.2 (ok7 ok ha) (ok7 ok hb) (ok7 ok hcc) (ok7 ok hd), sideSign_c ok hc (ok7 ok ha) (ok7 ok hb) (ok7 ok hcc) (ok7 ok hd), sideOf_m ok hm.st.2 (ok7 ok ha) (ok7 ok hb) (ok7 ok hcc) (ok7 ok hd), bs]
    cases t4 T.2 a b c d <;> cases c4 T.2 a b c d <;> first | exact ⟨_, rfl, rfl⟩ | skip
    simp only [Bool.and_self, ifb_t]
    by_cases q : 0 ≤ sg T.2 a b c d
    · simp only [if_pos q]; exact ⟨_, rfl, rfl⟩
    · simp only [if_neg q]; exact ⟨_, rfl, rfl⟩
theorem bit_0 : X10_bit 0 = 0 := by decide
theorem bit_1 : X10_bit 1 = 1 := by decide
theorem q_within {T : Tab} {pl aw : Int32} {sq st : Nat → Int32} (ok : okT T) (hc : cT T pl sq) (hm : mQ T aw st) (x y z t : Int32) : ∃ r, X10_within x y z t pl sq = some r ∧ X11_within x y z t aw st = some (r, 1, awk aw st) := by
  have j0 : X10_within_J114 = some 0 := by decide
  have j1 : X10_within_J115 1 = some 1 := by decide
  unfold X10_within X11_within
  rw [hc.1, areFour_c, areFour_m ok hm, j0, j1]
  simp only [bs]
  cases h : four T.1 x y z t with
  | false => exact ⟨-1, rfl, rfl⟩
  | true =>
    obtain ⟨a, b, c, d, ha, hb, hcc, hd, -, -, -, -, -, -, rfl, rfl, rfl, rfl⟩ := four_of (ok31 ok) h
    have a7 := ok7 ok ha; have b7 := ok7 ok hb; have c7 := ok7 ok hcc; have d7 := ok7 ok hd
    rw [isToldFour_c ok hc a7 b7 c7 d7, canFour_c ok hc a7 b7 c7 d7, isWhole_m ok hm.st.2 a7 b7 c7 d7, wideOf_c ok hc a7 b7 c7, wideOf_m ok hm.st.2 a7 b7 c7, sideSign_c ok hc a7 b7 c7 d7, sideSign_c ok hc b7 c7 a7 d7, sideSign_c ok hc a7 c7 b7 d7, sideOf_m ok hm.st.2 a7 b7 c7 d7, sideOf_m ok hm.st.2 b7 c7 a7 d7, sideOf_m ok hm.st.2 a7 c7 b7 d7]
    simp only [bs, ifb_t]
    generalize t4 T.2 a b c d = T4
    generalize c4 T.2 a b c d = C4
    cases T4 with
    | false => simp only [Bool.false_and, ifb_f]; exact ⟨-2, rfl, rfl⟩
    | true =>
    cases C4 with
    | false => simp only [Bool.and_false, ifb_f, ifb_t]; exact ⟨-2, rfl, rfl⟩
    | true =>
    simp only [Bool.and_self, ifb_t]
    by_cases q0 : w3 T.2 a b c = 0
    · rw [if_pos q0, if_pos q0]; exact ⟨-2, rfl, rfl⟩
    · rw [if_neg q0, if_neg q0]
      generalize sg T.2 a b c d = s1
      generalize sg T.2 b c a d = s2
      generalize sg T.2 a c b d = s3
      by_cases q1 : s1 < 0
      · rw [if_pos q1, if_pos q1]; exact ⟨0, rfl, rfl⟩
      · rw [if_neg q1, if_neg q1]
        by_cases q2 : s2 < 0
        · rw [if_pos q2]
          by_cases q3 : s3 < 0
          · rw [if_pos q3]; exact ⟨0, rfl, rfl⟩
          · rw [if_neg q3, if_pos q2]; exact ⟨0, rfl, rfl⟩
        · rw [if_neg q2]
          by_cases q3 : s3 < 0
          · rw [if_pos q3, if_pos q3]; exact ⟨0, rfl, rfl⟩
          · rw [if_neg q3, if_neg q3, if_neg q2]; exact ⟨1, rfl, rfl⟩
-- roots
theorem fI_or {a b : Nat} : fI a ||| fI b = fI ((a ||| b : Nat) : Int) := by
  apply Int64.toBitVec_inj.mp
  show (Int64.ofNat a).toBitVec ||| (Int64.ofNat b).toBitVec = (Int64.ofNat (a ||| b)).toBitVec
  show BitVec.ofNat 64 a ||| BitVec.ofNat 64 b = BitVec.ofNat 64 (a ||| b)
  exact BitVec.ofNat_or.symm
theorem shl_1 : ∀ p, p < 31 → (1 : Int64) <<< ((nI p).toInt64 &&& 63) = fI ((2 ^ p : Nat) : Int) := by decide +kernel
theorem or_pow {r p : Nat} (h : 2 ^ (p + 1) ∣ r) : r ||| 2 ^ p = r + 2 ^ p := by
  obtain ⟨k, rfl⟩ := h
  have := Nat.shiftLeft_add_eq_or_of_lt (show 2 ^ p < 2 ^ (p + 1) by rw [Nat.pow_succ]; have := Nat.two_pow_pos p; omega) k
  rw [Nat.shiftLeft_eq] at this
  rw [Nat.mul_comm, ← this]
theorem root_c : ∀ (k n r v : Nat), k ≤ 31 → k + 1 ≤ n → 2 ^ k ∣ r → r + 2 ^ k ≤ 2 ^ 31 → r * r ≤ v → v < (r + 2 ^ k) * (r + 2 ^ k) → ∃ s : Nat, X10_rootOf_L6 n (fI v) (fI r) (nI k + (-1)) = some (fI s) ∧ s * s ≤ v ∧ v < (s + 1) * (s + 1)
  | 0, n + 1, r, v, _, _, _, _, h1, h2 => by
    refine ⟨r, ?_, h1, h2⟩
    show X10_rootOf_B6 _ _ _ _ = _
    unfold X10_rootOf_B6
    rw [if_pos (by decide)]
  | k + 1, n + 1, r, v, hk, hn, hd, hb, h1, h2 => by
    have e1 : nI (k + 1) + (-1) = nI k := by
      have := nI_pred k
      rw [← this, Int32.sub_eq_add_neg]
    have hp : 2 ^ (k + 1) = 2 ^ k + 2 ^ k := by rw [Nat.pow_succ]; omega
    have hp0 := Nat.two_pow_pos k
    rw [e1]
    show ∃ s : Nat, X10_rootOf_B6 _ _ _ _ = _ ∧ _
    unfold X10_rootOf_B6 lat X10_rootOf_J32 lat
    rw [if_neg (nI_pos (by omega)), shl_1 k (by omega), fI_or, or_pow hd]
    dsimp only
    rw [fI_mul, ← Int.natCast_mul]
    have hle : (r + 2 ^ k) * (r + 2 ^ k) < 2 ^ 62 := by
      have : r + 2 ^ k < 2 ^ 31 := by omega
      calc (r + 2 ^ k) * (r + 2 ^ k) < 2 ^ 31 * 2 ^ 31 := Nat.mul_lt_mul'' this this
        _ = 2 ^ 62 := by decide
    have hv : v < 2 ^ 62 := by
      refine Nat.lt_of_lt_of_le h2 ?_
      calc (r + 2 ^ (k + 1)) * (r + 2 ^ (k + 1)) ≤ 2 ^ 31 * 2 ^ 31 := Nat.mul_le_mul hb hb
        _ = 2 ^ 62 := by decide
    have hc : (fI (v : Int) < fI (((r + 2 ^ k) * (r + 2 ^ k) : Nat) : Int)) ↔ v < (r + 2 ^ k) * (r + 2 ^ k) := by
      generalize (r + 2 ^ k) * (r + 2 ^ k) = m at hle
      rw [fI_lt (by omega) (by omega) (by omega) (by omega)]; omega
    by_cases h : v < (r + 2 ^ k) * (r + 2 ^ k)
    · rw [if_pos (hc.mpr h)]
      exact root_c k n r v (by omega) (by omega) (Nat.dvd_trans (by rw [Nat.pow_succ]; exact Nat.dvd_mul_right _ _) hd) (by omega) h1 h
    · rw [if_neg (fun z => h (hc.mp z))]
      refine root_c k n (r + 2 ^ k) v (by omega) (by omega) (Nat.dvd_add (Nat.dvd_trans (by rw [Nat.pow_succ]; exact Nat.dvd_mul_right _ _) hd) (Nat.dvd_refl _)) (by omega) (by omega) ?_
      rw [hp, ← Nat.add_assoc] at h2
      exact h2
theorem rootOf_c {v : Nat} (hv : v < 2 ^ 62) : ∃ s : Nat, X10_rootOf (fI v) = some (fI s) ∧ s * s ≤ v ∧ v < (s + 1) * (s + 1) := by
  have h := root_c 31 1000 0 v (by decide) (by decide) (Nat.dvd_zero _) (by decide) (by omega) (by simpa using hv)
  exact h
theorem root_m : ∀ (k n lo hi v : Nat), lo ≤ hi → hi ≤ 1000000000 → hi - lo < 2 ^ k → k + 1 ≤ n → v < 2 ^ 62 → lo * lo ≤ v → v < (hi + 1) * (hi + 1) → ∃ s : Nat, X11_root_L7 n (fI v) (fI lo) (fI hi) = some (fI s) ∧ s * s ≤ v ∧ v < (s + 1) * (s + 1)
  | k, n + 1, lo, hi, v, hl, hh, hd, hn, hv, h1, h2 => by
    show ∃ s : Nat, X11_root_B7 _ _ _ _ = _ ∧ _
    unfold X11_root_B7 lat X11_root_J41 X11_root_J54 X11_root_J69
    have c1 : (fI (hi : Int) ≤ fI (lo : Int)) ↔ hi ≤ lo := by rw [fI_le (by omega) (by omega) (by omega) (by omega)]; omega
    by_cases e : hi ≤ lo
    · rw [if_pos (c1.mpr e)]
      have : hi = lo := by omega
      subst this
      exact ⟨hi, rfl, h1, h2⟩
    · rw [if_neg (fun z => e (c1.mp z))]
      have ha : (fI (lo : Int) + fI (hi : Int) + 1) / 2 = fI (((lo + hi + 1) / 2 : Nat) : Int) := by
        rw [fI_add, show (1 : Int64) = fI 1 from rfl, fI_add, show (2 : Int64) = fI ((2 : Nat) : Int) from rfl, show ((lo : Int) + (hi : Int) + 1) = ((lo + hi + 1 : Nat) : Int) by omega, fI_div (by omega) (by decide) (by decide)]
      rw [ha]
      obtain ⟨m, hm⟩ : ∃ m, m = (lo + hi + 1) / 2 := ⟨_, rfl⟩
      rw [← hm]
      dsimp only
      rw [fI_mul, ← Int.natCast_mul]
      have hmm : m * m ≤ 1000000000 * 1000000000 := Nat.mul_le_mul (by omega) (by omega)
      have hc : (fI (v : Int) < fI ((m * m : Nat) : Int)) ↔ v < m * m := by
        generalize m * m = q at hmm
        rw [fI_lt (by omega) (by omega) (by omega) (by omega)]; omega
      have hk : 1 ≤ k := by
        rcases Nat.eq_zero_or_pos k with rfl | h
        · simp at hd; omega
        · exact h
      obtain ⟨k', rfl⟩ : ∃ k', k = k' + 1 := ⟨k - 1, by omega⟩
      have hp : 2 ^ (k' + 1) = 2 ^ k' + 2 ^ k' := by rw [Nat.pow_succ]; omega
      by_cases h : v < m * m
      · simp only [if_pos (hc.mpr h), if_true]
        have e3 : fI (m : Int) - 1 = fI ((m - 1 : Nat) : Int) := by rw [show (1 : Int64) = fI 1 from rfl, fI_sub]; congr 1; omega
        rw [e3]
        exact root_m k' n lo (m - 1) v (by omega) (by omega) (by omega) (by omega) hv h1 (by rw [show m - 1 + 1 = m by omega]; exact h)
      · simp only [if_neg (fun z => h (hc.mp z)), show ¬ ((1 : Int32) = 0) from by decide, if_false]
        exact root_m k' n m hi v (by omega) hh (by omega) (by omega) hv (by omega) h2
theorem root_uniq {s t v : Nat} (h1 : s * s ≤ v) (h2 : v < (s + 1) * (s + 1)) (h3 : t * t ≤ v) (h4 : v < (t + 1) * (t + 1)) : s = t := by
  rcases Nat.lt_trichotomy s t with h | h | h
  · have := Nat.mul_le_mul (show s + 1 ≤ t from h) (show s + 1 ≤ t from h); omega
  · exact h
  · have := Nat.mul_le_mul (show t + 1 ≤ s from h) (show t + 1 ≤ s from h); omega
theorem roots {v : Nat} (hv : v < 1000000000000000000) : ∃ s : Nat, X10_rootOf (fI v) = some (fI s) ∧ X11_root (fI v) = some (fI s) ∧ s * s ≤ v ∧ v < (s + 1) * (s + 1) := by
  obtain ⟨s, e1, h1, h2⟩ := rootOf_c (v := v) (by omega)
  obtain ⟨t, e2, h3, h4⟩ := root_m 30 1000 0 1000000000 v (by omega) (by omega) (by omega) (by omega) (by omega) (by omega) (by omega)
  have := root_uniq h1 h2 h3 h4
  subst this
  exact ⟨s, e1, e2, h1, h2⟩
