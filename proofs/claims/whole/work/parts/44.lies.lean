/-! ===== what lies how ===== -/
theorem sar63 (x : Int64) : x >>> ((63 : Int32).toInt64 &&& 63) = if x < 0 then -1 else 0 := by
  rw [show ((63 : Int32).toInt64 &&& 63) = (63 : Int64) from by decide]
  have h1 := Int64.toInt_lt x
  have h2 := Int64.le_toInt x
  apply Int64.toInt_inj.mp
  have e : (x >>> (63 : Int64)).toInt = x.toInt >>> 63 := by
    show (x >>> (63 : Int64)).toBitVec.toInt = x.toBitVec.toInt >>> 63
    rw [Int64.toBitVec_shiftRight]
    show (x.toBitVec.sshiftRight' _).toInt = _
    rw [BitVec.sshiftRight_eq', show (BitVec.smod (Int64.toBitVec 63) 64).toNat = 63 from by decide, BitVec.toInt_sshiftRight]
  rw [e, Int.shiftRight_eq_div_pow]
  by_cases h : x < 0
  · rw [if_pos h]
    have h3 : x.toInt < 0 := by rw [Int64.lt_iff_toInt_lt] at h; exact h
    rw [show (-1 : Int64).toInt = -1 from by decide]
    omega
  · rw [if_neg h]
    have h3 : ¬ x.toInt < 0 := by rw [Int64.lt_iff_toInt_lt] at h; exact h
    rw [show (0 : Int64).toInt = 0 from by decide]
    omega
theorem shr63 (x : Int64) : (x.toUInt64 >>> ((63 : Int32).toInt64.toUInt64 &&& Int64.toUInt64 63)).toInt64 = if x < 0 then 1 else 0 := by
  rw [show ((63 : Int32).toInt64.toUInt64 &&& Int64.toUInt64 63) = (63 : UInt64) from by decide]
  have h1 := Int64.toInt_lt x
  have h2 := Int64.le_toInt x
  have e : (x.toUInt64 >>> (63 : UInt64)) = if x < 0 then 1 else 0 := by
    apply UInt64.toNat_inj.mp
    rw [UInt64.toNat_shiftRight, show (63 : UInt64).toNat % 64 = 63 from by decide, Nat.shiftRight_eq_div_pow]
    have ht : (x.toUInt64.toNat : Int) = x.toInt % 2 ^ 64 := by
      show (x.toBitVec.toNat : Int) = x.toBitVec.toInt % 2 ^ 64
      rw [BitVec.toInt_eq_toNat_bmod]
      have := x.toBitVec.isLt
      rw [Int.bmod_def]
      split <;> omega
    by_cases h : x < 0
    · rw [if_pos h]
      have h3 : x.toInt < 0 := by rw [Int64.lt_iff_toInt_lt] at h; exact h
      rw [show (1 : UInt64).toNat = 1 from by decide]
      omega
    · rw [if_neg h]
      have h3 : ¬ x.toInt < 0 := by rw [Int64.lt_iff_toInt_lt] at h; exact h
      rw [show (0 : UInt64).toNat = 0 from by decide]
      omega
  rw [e]
  split <;> decide
theorem sgn_eq {z : Int} (h1 : -2 ^ 62 < z) (h2 : z < 2 ^ 62) : J13_signum_95d88 (fI z) = X11_signOf (fI z) := by
  unfold J13_signum_95d88 X11_signOf
  rw [sar63, shr63, fI_neg, ← fI_0]
  have a1 := fI_lt (x := z) (y := 0) (by omega) (by omega) (by omega) (by omega)
  have a2 := fI_lt (x := -z) (y := 0) (by omega) (by omega) (by omega) (by omega)
  have a3 := fI_le (x := z) (y := 0) (by omega) (by omega) (by omega) (by omega)
  have a4 := fI_le (x := 0) (y := z) (by omega) (by omega) (by omega) (by omega)
  simp only [a1, a2, a3, a4]
  rcases Int.lt_trichotomy z 0 with h | h | h
  · rw [if_pos h, if_neg (by omega), if_pos (by omega), if_neg (by omega)]; decide
  · subst h; decide
  · rw [if_neg (by omega), if_pos (by omega), if_neg (by omega)]; decide
def sgZ (z : Int) : Int32 := if z ≤ 0 then (if 0 ≤ z then 0 else -1) else 1
theorem signOf_fI {z : Int} (h1 : -2 ^ 62 < z) (h2 : z < 2 ^ 62) : X11_signOf (fI z) = sgZ z := by
  unfold X11_signOf sgZ
  rw [← fI_0]
  simp only [fI_le (x := z) (y := 0) (by omega) (by omega) (by omega) (by omega), fI_le (x := 0) (y := z) (by omega) (by omega) (by omega) (by omega)]
theorem q_bend {T : Tab} {pl aw : Int32} {sq st : Nat → Int32} (ok : okT T) (hc : cT T pl sq) (hm : mQ T aw st) (x y z : Int32) : ∃ r, X10_bend x y z pl sq = some r ∧ X11_bend x y z aw st = some (r, 1, awk aw st) := by
  unfold X10_bend X11_bend
  rw [hc.1, areThree_c, areThree_m ok hm]
  simp only [bs]
  cases h : three T.1 x y z with
  | false => exact ⟨_, rfl, rfl⟩
  | true =>
    obtain ⟨a, b, c, ha, hb, hcc, hab, hac, hbc, rfl, rfl, rfl⟩ := three_of (ok31 ok) h
    simp only [isToldThree_c ok hc (ok7 ok ha) (ok7 ok hb) (ok7 ok hcc), areTold_m ok hm.st.2 (ok7 ok ha) (ok7 ok hb) (ok7 ok hcc), leaning_c ok hc (ok7 ok hb) (ok7 ok ha) (ok7 ok hcc), dot_m ok hm.st.2 (ok7 ok hb) (ok7 ok ha) (ok7 ok hcc), bs]
    have hd := dZ_b ok b a c
    rw [dt_fI, signOf_fI (by omega) (by omega), ← fI_0]
    simp only [fI_eq (x := dZ T.2 b a c) (y := 0) (by omega) (by omega) (by omega) (by omega), fI_le (x := dZ T.2 b a c) (y := 0) (by omega) (by omega) (by omega) (by omega), fI_le (x := 0) (y := dZ T.2 b a c) (by omega) (by omega) (by omega) (by omega)]
    unfold sgZ
    cases t3 T.2 a b c
    · exact ⟨_, rfl, rfl⟩
    · simp only [ifb_t]
      rcases Int.lt_trichotomy (dZ T.2 b a c) 0 with q | q | q
      · simp only [if_neg (show ¬ dZ T.2 b a c = 0 by omega), if_pos (show dZ T.2 b a c ≤ 0 by omega), if_neg (show ¬ 0 ≤ dZ T.2 b a c by omega)]; exact ⟨_, rfl, rfl⟩
      · simp only [q, if_pos, Int.le_refl]; exact ⟨_, rfl, rfl⟩
      · simp only [if_neg (show ¬ dZ T.2 b a c = 0 by omega), if_neg (show ¬ dZ T.2 b a c ≤ 0 by omega), if_pos (show 0 ≤ dZ T.2 b a c by omega)]; exact ⟨_, rfl, rfl⟩
theorem in01 (x : Int32) : X11_in x.toInt64 0 1 = b2 (!(decide (x < 0)) && decide (x ≤ 1)) := by
  unfold X11_in b2
  have a1 : (x.toInt64 < 0) ↔ x < 0 := by
    rw [Int64.lt_iff_toInt_lt, Int32.lt_iff_toInt_lt, Int32.toInt_toInt64]; rfl
  have a2 : ((1 : Int64) < x.toInt64) ↔ ¬ x ≤ 1 := by
    rw [Int64.lt_iff_toInt_lt, Int32.le_iff_toInt_le, Int32.toInt_toInt64, show (1 : Int64).toInt = 1 from by decide, show (1 : Int32).toInt = 1 from by decide]; omega
  by_cases h1 : x < 0 <;> by_cases h2 : x ≤ 1 <;> simp [a1, a2, h1, h2]
/-- what hinders three, on both sides -/
def hind (T : Tab) (x y z w : Int32) (r : Int64) : Prop := r = 0 → ∃ a b c, a < 7 ∧ b < 7 ∧ c < 7 ∧ a ≠ b ∧ a ≠ c ∧ b ≠ c ∧ x = nI a ∧ y = nI b ∧ z = nI c ∧ t3 T.2 a b c = true ∧ 0 ≤ wZ T.2 a b c
theorem hinders_eq {T : Tab} {pl aw : Int32} {sq st : Nat → Int32} (ok : okT T) (hc : cT T pl sq) (hm : mQ T aw st) (x y z w : Int32) : ∃ r, X10_refusalOfThree x y z w pl sq = some r ∧ X11_hinders x y z w aw st = some (r, 1, awk aw st) ∧ hind T x y z w r := by
  unfold X10_refusalOfThree X11_hinders
  rw [hc.1, areThree_c, areThree_m ok hm, in01]
  simp only [bs]
  cases h : three T.1 x y z with
  | false => exact ⟨_, rfl, rfl, fun q => absurd q (by decide)⟩
  | true =>
    obtain ⟨a, b, c, ha, hb, hcc, hab, hac, hbc, rfl, rfl, rfl⟩ := three_of (ok31 ok) h
    simp only [isToldThree_c ok hc (ok7 ok ha) (ok7 ok hb) (ok7 ok hcc), areTold_m ok hm.st.2 (ok7 ok ha) (ok7 ok hb) (ok7 ok hcc), canBe_c ok hc (ok7 ok ha) (ok7 ok hb) (ok7 ok hcc), canBe_m ok hm.st.2 (ok7 ok ha) (ok7 ok hb) (ok7 ok hcc), bs, ifb_t]
    by_cases h1 : w < 0
    · rw [if_pos h1]
      have : (!(decide (w < 0)) && decide (w ≤ 1)) = false := by simp [h1]
      rw [this]
      exact ⟨_, rfl, rfl, fun q => absurd q (by decide)⟩
    · rw [if_neg h1]
      by_cases h2 : w ≤ 1
      · rw [if_pos h2]
        have : (!(decide (w < 0)) && decide (w ≤ 1)) = true := by simp [h1, h2]
        rw [this, ifb_t]
        cases e1 : t3 T.2 a b c with
        | false => exact ⟨_, rfl, rfl, fun q => absurd q (by decide)⟩
        | true =>
          cases e2 : c3 T.2 a b c with
          | false => exact ⟨_, rfl, rfl, fun q => absurd q (by decide)⟩
          | true => exact ⟨_, rfl, rfl, fun _ => ⟨a, b, c, ok7 ok ha, ok7 ok hb, ok7 ok hcc, hab, hac, hbc, rfl, rfl, rfl, e1, (c3_iff ok a b c).mp e2⟩⟩
      · rw [if_neg h2]
        have : (!(decide (w < 0)) && decide (w ≤ 1)) = false := by simp [h2]
        rw [this]
        exact ⟨_, rfl, rfl, fun q => absurd q (by decide)⟩
theorem t2_pos {e : Nat → Nat} {a b : Nat} (h : t2 e a b = true) : 0 < tv e a b := by unfold t2 at h; simpa using h
theorem t3_pos {e : Nat → Nat} {a b c : Nat} (h : t3 e a b c = true) : 0 < tv e a b ∧ 0 < tv e a c ∧ 0 < tv e b c := by
  unfold t3 at h
  simp only [Bool.and_eq_true] at h
  exact ⟨t2_pos h.1, t2_pos h.2.1, t2_pos h.2.2⟩
theorem q_foot {T : Tab} {pl aw : Int32} {sq st : Nat → Int32} (ok : okT T) (hc : cT T pl sq) (hm : mQ T aw st) (x y z w : Int32) : ∃ r, X10_foot x y z w pl sq = some r ∧ X11_foot x y z w aw st = some (r, 1, awk aw st) := by
  obtain ⟨r, h1, h2, h3⟩ := hinders_eq ok hc hm x y z w
  unfold X10_foot X11_foot
  rw [h1, h2]
  simp only [bs]
  by_cases hr : r = 0
  · rw [if_pos hr, if_pos hr]
    obtain ⟨a, b, c, ha, hb, hcc, hab, hac, hbc, rfl, rfl, rfl, ht, hw⟩ := h3 hr
    have hp := (t3_pos ht).1
    have hl := tv_le ok a b
    have hd := dZ_b ok a b c
    simp only [leaning_c ok hc ha hb hcc, dot_m ok hm.st.2 ha hb hcc, square_c hc ha hb, sq_m ok hm.st.2 ha hb, toI64 ok, bs, dt_fI]
    have e : (2 : Int64) * q6 T.2 a b = fI ((2 * tv T.2 a b : Nat) : Int) := by
      rw [q6_fI, show (2 : Int64) = fI 2 from rfl, fI_mul]; congr 1
    rw [e]
    obtain ⟨r', g1, g2⟩ := lowest_eq (x := dZ T.2 a b c) (b := 2 * tv T.2 a b) (by omega) (by omega) (by omega) (by omega) w
    rw [g1, g2]
    exact ⟨r', rfl, rfl⟩
  · rw [if_neg hr, if_neg hr]; exact ⟨r, rfl, rfl⟩
theorem q_height {T : Tab} {pl aw : Int32} {sq st : Nat → Int32} (ok : okT T) (hc : cT T pl sq) (hm : mQ T aw st) (x y z w : Int32) : ∃ r, X10_height x y z w pl sq = some r ∧ X11_height x y z w aw st = some (r, 1, awk aw st) := by
  obtain ⟨r, h1, h2, h3⟩ := hinders_eq ok hc hm x y z w
  unfold X10_height X11_height
  rw [h1, h2]
  simp only [bs]
  by_cases hr : r = 0
  · rw [if_pos hr, if_pos hr]
    obtain ⟨a, b, c, ha, hb, hcc, hab, hac, hbc, rfl, rfl, rfl, ht, hw⟩ := h3 hr
    have hp := (t3_pos ht).1
    have hl := tv_le ok a b
    have hd := wZ_b ok a b c
    simp only [wideOf_c ok hc ha hb hcc, wideOf_m ok hm.st.2 ha hb hcc, square_c hc ha hb, sq_m ok hm.st.2 ha hb, toI64 ok, bs, w3_fI]
    have e : (4 : Int64) * q6 T.2 a b = fI ((4 * tv T.2 a b : Nat) : Int) := by
      rw [q6_fI, show (4 : Int64) = fI 4 from rfl, fI_mul]; congr 1
    rw [e]
    obtain ⟨r', g1, g2⟩ := lowest_eq (x := wZ T.2 a b c) (b := 4 * tv T.2 a b) (by omega) (by omega) (by omega) (by omega) w
    rw [g1, g2]
    exact ⟨r', rfl, rfl⟩
  · rw [if_neg hr, if_neg hr]; exact ⟨r, rfl, rfl⟩
theorem q_round {T : Tab} {pl aw : Int32} {sq st : Nat → Int32} (ok : okT T) (hc : cT T pl sq) (hm : mQ T aw st) (x y z w : Int32) : ∃ r, X10_round x y z w pl sq = some r ∧ X11_round x y z w aw st = some (r, 1, awk aw st) := by
  obtain ⟨r, h1, h2, h3⟩ := hinders_eq ok hc hm x y z w
  unfold X10_round X11_round
  rw [h1, h2]
  simp only [bs]
  by_cases hr : r = 0
  · rw [if_pos hr, if_pos hr]
    obtain ⟨a, b, c, ha, hb, hcc, hab, hac, hbc, rfl, rfl, rfl, ht, hw⟩ := h3 hr
    simp only [wideOf_c ok hc ha hb hcc, wideOf_m ok hm.st.2 ha hb hcc, bs]
    by_cases h0 : w3 T.2 a b c = 0
    · rw [if_pos h0, if_pos h0]; exact ⟨_, rfl, rfl⟩
    · rw [if_neg h0, if_neg h0]
      rw [w3_eq0 ok] at h0
      have hd := wZ_b ok a b c
      have l1 := zz_b ok a b; have l2 := zz_b ok a c; have l3 := zz_b ok b c
      have p1 := mul_b (x := zz T.2 a b) (y := zz T.2 a c) (A := 9999) (B := 9999) (by omega) (by omega)
      have p2 := mul_b (x := zz T.2 a b * zz T.2 a c) (y := zz T.2 b c) (A := 9999 * 9999) (B := 9999) (by omega) (by omega)
      simp only [square_c hc ha hb, square_c hc ha hcc, square_c hc hb hcc, sq_m ok hm.st.2 ha hb, sq_m ok hm.st.2 ha hcc, sq_m ok hm.st.2 hb hcc, toI64 ok, bs, lat, w3_fI, q6_fI, fI_mul]
      have e : wZ T.2 a b c = (((wZ T.2 a b c).toNat : Nat) : Int) := by omega
      rw [e]
      obtain ⟨r', g1, g2⟩ := lowest_eq (x := zz T.2 a b * zz T.2 a c * zz T.2 b c) (b := (wZ T.2 a b c).toNat) (by omega) (by omega) (by omega) (by omega) w
      rw [g1, g2]
      exact ⟨r', rfl, rfl⟩
  · rw [if_neg hr, if_neg hr]; exact ⟨r, rfl, rfl⟩
