/-! the road -/
def sm (e : Nat → Nat) : Nat → Nat
  | 0 => 0
  | k + 1 => sm e k + e k
def mx (e : Nat → Nat) : Nat → Nat
  | 0 => 0
  | k + 1 => max (mx e k) (e k)
theorem sm_b {R : Tab} (ok : okR R) : ∀ k, k ≤ R.1 → sm R.2 k ≤ 99 * k
  | 0, _ => Nat.le_refl 0
  | k + 1, h => by
    have h1 := sm_b ok k (by omega)
    have h2 := (ok.2 k (by omega)).2
    show sm R.2 k + R.2 k ≤ _
    omega
theorem mx_b {R : Tab} (ok : okR R) : ∀ k, k ≤ R.1 → mx R.2 k ≤ 99
  | 0, _ => by show 0 ≤ 99; omega
  | k + 1, h => by
    have h1 := mx_b ok k (by omega)
    have h2 := (ok.2 k (by omega)).2
    show max (mx R.2 k) (R.2 k) ≤ _
    omega
theorem far_cL {R : Tab} {p : Int32} {ls : Nat → Int32} (ok : okR R) (h : cR R p ls) : ∀ (m k n : Nat), k + m = R.1 → m + 1 ≤ n → X5_farthest_L4 p ls n (nI (sm R.2 k)) (nI k) = some (nI (sm R.2 R.1))
  | 0, k, n + 1, hk, _ => by
    show X5_farthest_B4 _ _ _ _ _ = _
    unfold X5_farthest_B4
    have := ok.1
    rw [h.1, if_pos (nI_le (by omega) (by omega)), show k = R.1 by omega]
  | m + 1, k, n + 1, hk, hn => by
    have h1 := far_cL ok h m (k + 1) n (by omega) (by omega)
    show X5_farthest_B4 _ _ _ _ _ = _
    unfold X5_farthest_B4 lat
    have := ok.1
    rw [h.1, if_neg (nI_ge (by omega) (by omega)), show (8 : Int32) = nI 8 from rfl, if_neg (nI_ge (by omega) (by omega)), gd_in (by omega) (by decide), nI_clamp (by omega), h.2 k (by omega), nI_add, nI_1]
    rw [h.1] at h1
    exact h1
theorem far_c {R : Tab} {p : Int32} {ls : Nat → Int32} (ok : okR R) (h : cR R p ls) : X5_farthest p ls = some (nI (sm R.2 R.1)) := far_cL ok h R.1 0 1000 (by omega) (by have := ok.1; omega)
theorem far_mL {R : Tab} {st : Nat → Int32} (ok : okR R) (h : mR R st 0) : ∀ (m k n : Nat), k + m = R.1 → m + 1 ≤ n → X11_farthest_L4 st n (nI (sm R.2 k)) (nI k) = some (nI (sm R.2 R.1))
  | 0, k, n + 1, hk, _ => by
    show X11_farthest_B4 _ _ _ _ = _
    unfold X11_farthest_B4
    have := ok.1
    have e : st 30 = nI R.1 := h.1
    rw [e, if_pos (nI_le (by omega) (by omega)), show k = R.1 by omega]
  | m + 1, k, n + 1, hk, hn => by
    have h1 := far_mL ok h m (k + 1) n (by omega) (by omega)
    show X11_farthest_B4 _ _ _ _ = _
    unfold X11_farthest_B4 lat
    have := ok.1
    have e : st 30 = nI R.1 := h.1
    have e2 : st (22 + k) = nI (R.2 k) := by have := h.2 k (by omega); rwa [Nat.zero_add] at this
    rw [e, if_neg (nI_ge (by omega) (by omega)), show (22 : Int32) = nI 22 from rfl, nI_add, gd_in (by omega) (by decide), nI_clamp (by omega), e2, nI_add, nI_1]
    exact h1
theorem far_m {R : Tab} {st : Nat → Int32} (ok : okR R) (h : mR R st 0) : X11_farthest st = some (nI (sm R.2 R.1)) := far_mL ok h R.1 0 1000 (by omega) (by have := ok.1; omega)
def nr (R : Tab) : Nat := 2 * mx R.2 R.1 - sm R.2 R.1
theorem nI_subI {a b : Nat} (ha : a < 2 ^ 30) (hb : b < 2 ^ 30) : (nI a - nI b).toInt = (a : Int) - b := by
  rw [Int32.toInt_sub, nI_toInt (by omega), nI_toInt (by omega)]
  exact Int.bmod_eq_of_le (by omega) (by omega)
theorem near_cL {R : Tab} {p : Int32} {ls : Nat → Int32} (ok : okR R) (h : cR R p ls) : ∀ (m k n : Nat), k + m = R.1 → m + 1 ≤ n → X5_nearest_L4 p ls (X5_nearest_J35 p ls) n (nI (mx R.2 k)) (nI k) = some (nI (nr R))
  | 0, k, n + 1, hk, _ => by
    show X5_nearest_B4 _ _ _ _ _ _ = _
    unfold X5_nearest_B4 X5_nearest_J35
    have := ok.1
    have b1 := sm_b ok R.1 (by omega)
    have b2 := mx_b ok R.1 (by omega)
    rw [far_c ok h, h.1, if_pos (nI_le (by omega) (by omega)), show k = R.1 by omega, bs, show (2 : Int32) = nI 2 from rfl, nI_mul]
    unfold nr
    generalize hu : 2 * mx R.2 R.1 = u
    generalize hv : sm R.2 R.1 = v
    have e := nI_subI (a := u) (b := v) (by omega) (by omega)
    congr 1
    by_cases q : v < u
    · rw [if_pos (Int32.lt_iff_toInt_lt.mpr (by rw [e]; show (0 : Int) < _; omega)), nI_sub' (by omega)]
    · rw [if_neg (fun z => by have := Int32.lt_iff_toInt_lt.mp z; rw [e] at this; have h0 : (0 : Int32).toInt = 0 := rfl; omega), show u - v = 0 by omega, nI_0]
  | m + 1, k, n + 1, hk, hn => by
    have h1 := near_cL ok h m (k + 1) n (by omega) (by omega)
    show X5_nearest_B4 _ _ _ _ _ _ = _
    unfold X5_nearest_B4 lat
    have := ok.1
    have b2 := mx_b ok k (by omega)
    have b3 := (ok.2 k (by omega)).2
    rw [h.1, if_neg (nI_ge (by omega) (by omega)), show (8 : Int32) = nI 8 from rfl, if_neg (nI_ge (by omega) (by omega)), gd_in (by omega) (by decide), nI_clamp (by omega), h.2 k (by omega), nI_1]
    rw [h.1] at h1
    have e : (if nI (mx R.2 k) < nI (R.2 k) then nI (R.2 k) else nI (mx R.2 k)) = nI (mx R.2 (k + 1)) := by
      show _ = nI (max (mx R.2 k) (R.2 k))
      by_cases q : mx R.2 k < R.2 k
      · rw [if_pos (nI_lt q (by omega)), Nat.max_eq_right (by omega)]
      · rw [if_neg (nI_nlt (by omega) (by omega)), Nat.max_eq_left (by omega)]
    rw [e]
    exact h1
theorem near_c {R : Tab} {p : Int32} {ls : Nat → Int32} (ok : okR R) (h : cR R p ls) : X5_nearest p ls = some (nI (nr R)) := near_cL ok h R.1 0 1000 (by omega) (by have := ok.1; omega)
theorem near_mL {R : Tab} {st : Nat → Int32} (ok : okR R) (h : mR R st 0) : ∀ (m k n : Nat), k + m = R.1 → m + 1 ≤ n → X11_nearest_L4 st (X11_nearest_J48 st) n (nI (mx R.2 k)) (nI k) = some (nI (nr R))
  | 0, k, n + 1, hk, _ => by
    show X11_nearest_B4 _ _ _ _ _ = _
    unfold X11_nearest_B4 X11_nearest_J48
    have := ok.1
    have b1 := sm_b ok R.1 (by omega)
    have b2 := mx_b ok R.1 (by omega)
    have e : st 30 = nI R.1 := h.1
    rw [far_m ok h, e, if_pos (nI_le (by omega) (by omega)), show k = R.1 by omega, bs, show (2 : Int32) = nI 2 from rfl, nI_mul, bs]
    unfold nr
    by_cases q : sm R.2 R.1 < 2 * mx R.2 R.1
    · rw [if_neg (nI_ge q (by omega)), nI_sub' (by omega)]
    · rw [if_pos (nI_le (by omega) (by omega)), show 2 * mx R.2 R.1 - sm R.2 R.1 = 0 by omega, nI_0]
  | m + 1, k, n + 1, hk, hn => by
    have h1 := near_mL ok h m (k + 1) n (by omega) (by omega)
    show X11_nearest_B4 _ _ _ _ _ = _
    unfold X11_nearest_B4 X11_nearest_J41 lat
    have := ok.1
    have b2 := mx_b ok k (by omega)
    have b3 := (ok.2 k (by omega)).2
    have e : st 30 = nI R.1 := h.1
    have e2 : st (22 + k) = nI (R.2 k) := by have := h.2 k (by omega); rwa [Nat.zero_add] at this
    rw [e, if_neg (nI_ge (by omega) (by omega)), show (22 : Int32) = nI 22 from rfl, nI_add, gd_in (by omega) (by decide), nI_clamp (by omega), e2, nI_1]
    have e3 : mx R.2 (k + 1) = max (mx R.2 k) (R.2 k) := rfl
    by_cases q : R.2 k ≤ mx R.2 k
    · rw [if_pos (nI_le q (by omega)), ← (show mx R.2 (k + 1) = mx R.2 k by rw [e3, Nat.max_eq_left q])]; exact h1
    · rw [if_neg (nI_ge (by omega) (by omega)), ← (show mx R.2 (k + 1) = R.2 k by rw [e3, Nat.max_eq_right (by omega)])]; exact h1
theorem near_m {R : Tab} {st : Nat → Int32} (ok : okR R) (h : mR R st 0) : X11_nearest st = some (nI (nr R)) := near_mL ok h R.1 0 1000 (by omega) (by have := ok.1; omega)
theorem in_01 (x : Int32) : X11_in x.toInt64 0 1 = b2 (rng 0 1 x) := in_g (lo := 0) (hi := 1) (by decide) (by decide) x
theorem rng01 (x : Int32) : rng 0 1 x = (decide (x = 0) || decide (x = 1)) := by
  cases h : rng 0 1 x with
  | true =>
    obtain ⟨j, h1, h2, rfl⟩ := rng_of (by decide) (by decide) h
    rcases (show j = 0 ∨ j = 1 by omega) with rfl | rfl <;> decide
  | false =>
    symm
    rw [Bool.or_eq_false_iff]
    exact ⟨decide_eq_false (fun z => by rw [z] at h; exact absurd h (by decide)), decide_eq_false (fun z => by rw [z] at h; exact absurd h (by decide))⟩
theorem q_road {R : Tab} {p : Int32} {ls st : Nat → Int32} (ok : okR R) (hc : cR R p ls) (hm : mR R st 0) (x : Int32) : ∃ r, X10_road x p ls = some r ∧ X11_road x st = some r := by
  unfold X10_road X11_road
  have e : st 30 = nI R.1 := hm.1
  have h8 := ok.1
  rw [in_01, near_c ok hc, far_c ok hc, near_m ok hm, far_m ok hm, hc.1, e]
  simp only [bs]
  cases h : rng 0 1 x with
  | false =>
    refine ⟨-1, ?_, by rw [ifb_f]⟩
    unfold rng at h
    rw [nI_0, show nI 1 = 1 from rfl] at h
    split
    · rfl
    · rename_i q
      rw [if_neg (fun z => by simp [q, z] at h)]
  | true =>
    rw [ifb_t]
    unfold rng at h
    rw [nI_0, show nI 1 = 1 from rfl] at h
    simp at h
    rw [if_neg (show ¬ x < 0 by simpa using h.1), if_pos h.2]
    by_cases q : nI R.1 = 0
    · rw [if_pos q]; exact ⟨_, rfl, rfl⟩
    · rw [if_neg q]
      by_cases q2 : x = 0
      · rw [if_pos q2]; exact ⟨_, rfl, rfl⟩
      · rw [if_neg q2]; exact ⟨_, rfl, rfl⟩
theorem q_reaches {T R : Tab} {pl aw p : Int32} {sq st ls : Nat → Int32} (ok : okT T) (okr : okR R) (hc : cT T pl sq) (hm : mQ T aw st) (hr : cR R p ls) (hs : mR R st 0) (x y : Int32) : ∃ r, X10_reaches x y pl sq p ls = some r ∧ X11_reaches x y aw st = some (r, 1, awk aw st) := by
  have h7 := ok.2.1
  have h8 := okr.1
  have hs2 : mR R (awk aw st) 0 := ⟨by rw [awk_ne (by omega)]; exact hs.1, fun k hk => by rw [awk_ne (by omega)]; exact hs.2 k hk⟩
  have e : awk aw st 30 = nI R.1 := hs2.1
  unfold X10_reaches X11_reaches X10_reaches_J84 X10_reaches_J85
  rw [near_c okr hr, far_c okr hr, areTwo_m ok hm, hc.1, areTwo_c, bs]
  dsimp only
  rw [near_m okr hs2, far_m okr hs2, hr.1]
  simp only [e]
  cases h : two T.1 x y with
  | false => exact ⟨-1, by rw [ifb_f], by rw [ifb_f]⟩
  | true =>
    rw [ifb_t, ifb_t]
    obtain ⟨a, b, ha, hb, hab, rfl, rfl⟩ := two_of (by omega) h
    rw [square_c hc (by omega) (by omega), sq_m ok hm.st.2 (by omega) (by omega)]
    simp only [bs, eq0_c ok, eq0_m ok]
    have b1 := sm_b okr R.1 (by omega)
    have b2 := mx_b okr R.1 (by omega)
    have b3 : nr R ≤ 198 := by unfold nr; omega
    have b4 := tv_le ok a b
    have b5 : nr R * nr R ≤ 198 * 198 := Nat.mul_le_mul b3 b3
    have b6 : sm R.2 R.1 * sm R.2 R.1 ≤ 792 * 792 := Nat.mul_le_mul (by omega) (by omega)
    have eb : X10_bit 0 = 0 := rfl
    have eb1 : X10_bit 1 = 1 := rfl
    rw [nI_mul, nI_mul, nI_l (by omega), nI_l (by omega), eb, eb1]
    unfold X11_in q6
    simp only [lN_lt (show tv T.2 a b < 2 ^ 31 by omega) (show nr R * nr R < 2 ^ 31 by omega), lN_lt (show sm R.2 R.1 * sm R.2 R.1 < 2 ^ 31 by omega) (show tv T.2 a b < 2 ^ 31 by omega), nI_ltI (show tv T.2 a b < 2 ^ 31 by omega) (show nr R * nr R < 2 ^ 31 by omega), nI_ltI (show sm R.2 R.1 * sm R.2 R.1 < 2 ^ 31 by omega) (show tv T.2 a b < 2 ^ 31 by omega)]
    by_cases q1 : nI R.1 = 0
    · rw [if_pos q1, if_pos q1]; exact ⟨_, rfl, rfl⟩
    rw [if_neg q1, if_neg q1]
    by_cases q2 : t2 T.2 a b = false
    · rw [if_pos q2, if_pos q2]; exact ⟨_, rfl, rfl⟩
    rw [if_neg q2, if_neg q2]
    by_cases q3 : tv T.2 a b < nr R * nr R
    · rw [if_pos q3, if_pos q3]; exact ⟨_, rfl, rfl⟩
    rw [if_neg q3, if_neg q3]
    by_cases q4 : sm R.2 R.1 * sm R.2 R.1 < tv T.2 a b
    · rw [if_pos q4, if_pos q4]; exact ⟨_, rfl, rfl⟩
    rw [if_neg q4, if_neg q4, if_neg (by decide)]; exact ⟨_, rfl, rfl⟩
/-! the told ones, counted -/
def ct (e : Nat → Nat) : Nat → Nat
  | 0 => 0
  | k + 1 => ct e k + (if e k = 0 then 0 else 1)
theorem ct_b (e : Nat → Nat) : ∀ k, ct e k ≤ k
  | 0 => Nat.le_refl 0
  | k + 1 => by
    have := ct_b e k
    show ct e k + (if e k = 0 then 0 else 1) ≤ _
    split <;> omega
theorem ct_z {e : Nat → Nat} {n : Nat} (h : ∀ k, n ≤ k → e k = 0) : ∀ m, ct e (n + m) = ct e n
  | 0 => rfl
  | m + 1 => by
    show ct e (n + m) + (if e (n + m) = 0 then 0 else 1) = _
    rw [if_pos (h _ (by omega)), ct_z h m, Nat.add_zero]
theorem told_mL {e : Nat → Nat} {st : Nat → Int32} (he : ∀ k, e k ≤ 9999) (h : ∀ k, k < 21 → st k = nI (e k)) : ∀ (m k n : Nat), k + m = 21 → m + 1 ≤ n → X11_lengthMany_L4 st n (nI (ct e k)) (nI k) = some (nI (ct e 21))
  | 0, k, n + 1, hk, _ => by
    show X11_lengthMany_B4 _ _ _ _ = _
    unfold X11_lengthMany_B4
    rw [show (21 : Int32) = nI 21 from rfl, if_pos (nI_le (by omega) (by omega)), show k = 21 by omega]
  | m + 1, k, n + 1, hk, hn => by
    have h1 := told_mL he h m (k + 1) n (by omega) (by omega)
    show X11_lengthMany_B4 _ _ _ _ = _
    unfold X11_lengthMany_B4 X11_lengthMany_J25 lat
    have hk2 := he k
    have e3 : ct e (k + 1) = ct e k + (if e k = 0 then 0 else 1) := rfl
    rw [show (21 : Int32) = nI 21 from rfl, if_neg (nI_ge (by omega) (by omega)), gd_in (by omega) (by decide), nI_clamp (by omega), h k (by omega), nI_1]
    by_cases q : e k = 0
    · rw [if_pos (by rw [q]; decide), ← nI_0, nI_add]; rw [e3, if_pos q] at h1; exact h1
    · rw [if_neg (nI_nle (by omega) (by omega)), nI_1]; rw [e3, if_neg q] at h1; exact h1
theorem told_m {e : Nat → Nat} {st : Nat → Int32} (he : ∀ k, e k ≤ 9999) (h : ∀ k, k < 21 → st k = nI (e k)) : X11_lengthMany st = some (nI (ct e 21)) := told_mL he h 21 0 1000 (by omega) (by omega)
theorem told_c1 {T : Tab} {pl : Int32} {sq : Nat → Int32} (ok : okT T) (h : cT T pl sq) (kk : Int32 → Int32 → Option Int32) {b : Nat} (hb : b < 7) : ∀ (m a n : Nat), a + m = b → m + 1 ≤ n → X8_countTold_L14 sq kk n (nI (ct T.2 (b * (b - 1) / 2 + a))) (nI b) (nI a) = kk (nI (ct T.2 (b * (b - 1) / 2 + b))) (nI b)
  | 0, a, n + 1, ha, _ => by
    show X8_countTold_B14 _ _ _ _ _ _ = _
    unfold X8_countTold_B14
    rw [if_pos (nI_le (by omega) (by omega)), show a = b by omega]
  | m + 1, a, n + 1, ha, hn => by
    have h1 := told_c1 ok h kk hb m (a + 1) n (by omega) (by omega)
    show X8_countTold_B14 _ _ _ _ _ _ = _
    unfold X8_countTold_B14 X8_countTold_J34 lat
    rw [if_neg (nI_ge (by omega) (by omega)), square_c h (by omega) (by omega), bs, nI_1]
    have e1 : tv T.2 a b = T.2 (b * (b - 1) / 2 + a) := by unfold tv pr; rw [if_neg (by omega), if_pos (by omega)]
    have e3 : ct T.2 (b * (b - 1) / 2 + (a + 1)) = ct T.2 (b * (b - 1) / 2 + a) + (if T.2 (b * (b - 1) / 2 + a) = 0 then 0 else 1) := rfl
    have hk2 := ok.2.2.1 (b * (b - 1) / 2 + a)
    rw [e1]
    by_cases q : T.2 (b * (b - 1) / 2 + a) = 0
    · rw [if_pos (by rw [q]; decide), show X10_bit 0 = nI 0 from rfl, nI_add]; rw [e3, if_pos q] at h1; exact h1
    · rw [if_neg (nI_nle (by omega) (by omega)), show X10_bit 1 = nI 1 from rfl, nI_add]; rw [e3, if_neg q] at h1; exact h1
theorem tri : ∀ b, b < 8 → b * (b - 1) / 2 + b = (b + 1) * (b + 1 - 1) / 2 := by decide +kernel
theorem tri7 : ∀ n, n < 8 → n * (n - 1) / 2 ≤ 21 := by decide +kernel
theorem told_c2 {T : Tab} {pl : Int32} {sq : Nat → Int32} (ok : okT T) (h : cT T pl sq) : ∀ (m b n : Nat), b + m = T.1 → m + 1 ≤ n → X8_countTold_L4 pl sq n (nI (ct T.2 (b * (b - 1) / 2))) (nI b) = some (nI (ct T.2 21))
  | 0, b, n + 1, hb, _ => by
    have h7 := ok.2.1
    show X8_countTold_B4 _ _ _ _ _ = _
    unfold X8_countTold_B4
    have h21 := tri7 T.1 (by omega)
    have := ct_z ok.2.2.2 (21 - T.1 * (T.1 - 1) / 2)
    rw [show T.1 * (T.1 - 1) / 2 + (21 - T.1 * (T.1 - 1) / 2) = 21 by omega] at this
    rw [h.1, if_pos (nI_le (by omega) (by omega)), show b = T.1 by omega, this]
  | m + 1, b, n + 1, hb, hn => by
    have h7 := ok.2.1
    have h1 := told_c2 ok h m (b + 1) n (by omega) (by omega)
    have h2 := told_c1 ok h (X8_countTold_J45 (X8_countTold_L4 pl sq n)) (b := b) (by omega) b 0 1000 (by omega) (by omega)
    show X8_countTold_B4 _ _ _ _ _ = _
    unfold X8_countTold_B4
    have hp := h.1
    rw [if_neg (by rw [hp]; exact nI_ge (by omega) (by omega))]
    rw [Nat.add_zero, nI_0] at h2
    rw [h2]
    unfold X8_countTold_J45 lat
    rw [tri b (by omega), nI_1]
    exact h1
theorem told_c {T : Tab} {pl : Int32} {sq : Nat → Int32} (ok : okT T) (h : cT T pl sq) : X8_countTold pl sq = some (nI (ct T.2 21)) := told_c2 ok h (T.1 - 1) 1 1000 (by have := ok.1; omega) (by have := ok.2.1; omega)
