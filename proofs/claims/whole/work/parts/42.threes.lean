/-! ===== threes and fours, over one table ===== -/
theorem isToldThree_c {T : Tab} {pl : Int32} {sq : Nat → Int32} (ok : okT T) (h : cT T pl sq) {a b c : Nat} (ha : a < 7) (hb : b < 7) (hc : c < 7) : X8_isToldThree (nI a) (nI b) (nI c) sq = some (b2 (t3 T.2 a b c)) := by
  unfold X8_isToldThree t3
  simp only [square_c h ha hb, square_c h ha hc, square_c h hb hc, bs, le0_c ok]
  cases t2 T.2 a b <;> cases t2 T.2 a c <;> cases t2 T.2 b c <;> rfl
theorem areTold_m {T : Tab} {st : Nat → Int32} (ok : okT T) (h : ∀ k, k < 21 → st k = nI (T.2 k)) {a b c : Nat} (ha : a < 7) (hb : b < 7) (hc : c < 7) : X11_areTold (nI a) (nI b) (nI c) st = some (b2 (t3 T.2 a b c)) := by
  unfold X11_areTold t3
  simp only [sq_m ok h ha hb, sq_m ok h ha hc, sq_m ok h hb hc, bs, le0_m ok]
  cases t2 T.2 a b <;> cases t2 T.2 a c <;> cases t2 T.2 b c <;> rfl
theorem isToldFour_c {T : Tab} {pl : Int32} {sq : Nat → Int32} (ok : okT T) (h : cT T pl sq) {a b c d : Nat} (ha : a < 7) (hb : b < 7) (hc : c < 7) (hd : d < 7) : X8_isToldFour (nI a) (nI b) (nI c) (nI d) sq = some (b2 (t4 T.2 a b c d)) := by
  unfold X8_isToldFour t4
  simp only [isToldThree_c ok h ha hb hc, isToldThree_c ok h ha hb hd, square_c h hc hd, bs, le0_c ok]
  cases t3 T.2 a b c <;> cases t3 T.2 a b d <;> cases t2 T.2 c d <;> rfl
theorem allTold_m {T : Tab} {st : Nat → Int32} (ok : okT T) (h : ∀ k, k < 21 → st k = nI (T.2 k)) {a b c d : Nat} (ha : a < 7) (hb : b < 7) (hc : c < 7) (hd : d < 7) : X11_allTold (nI a) (nI b) (nI c) (nI d) st = some (b2 (t4 T.2 a b c d)) := by
  unfold X11_allTold t4
  simp only [areTold_m ok h ha hb hc, areTold_m ok h ha hb hd, sq_m ok h hc hd, bs, le0_m ok]
  cases t3 T.2 a b c <;> cases t3 T.2 a b d <;> cases t2 T.2 c d <;> rfl
theorem wideOf_c {T : Tab} {pl : Int32} {sq : Nat → Int32} (ok : okT T) (h : cT T pl sq) {a b c : Nat} (ha : a < 7) (hb : b < 7) (hc : c < 7) : X8_wideOf (nI a) (nI b) (nI c) sq = some (w3 T.2 a b c) := by
  unfold X8_wideOf w3
  simp only [square_c h ha hb, square_c h ha hc, square_c h hb hc, bs, toI64 ok]
  rfl
theorem wideOf_m {T : Tab} {st : Nat → Int32} (ok : okT T) (h : ∀ k, k < 21 → st k = nI (T.2 k)) {a b c : Nat} (ha : a < 7) (hb : b < 7) (hc : c < 7) : X11_wideOf (nI a) (nI b) (nI c) st = some (w3 T.2 a b c) := by
  unfold X11_wideOf w3
  simp only [sq_m ok h ha hb, sq_m ok h ha hc, sq_m ok h hb hc, bs]
theorem leaning_c {T : Tab} {pl : Int32} {sq : Nat → Int32} (ok : okT T) (h : cT T pl sq) {a b c : Nat} (ha : a < 7) (hb : b < 7) (hc : c < 7) : X8_leaning (nI a) (nI b) (nI c) sq = some (dt T.2 a b c) := by
  unfold X8_leaning dt
  simp only [square_c h ha hb, square_c h ha hc, square_c h hb hc, bs, toI64 ok]
theorem dot_m {T : Tab} {st : Nat → Int32} (ok : okT T) (h : ∀ k, k < 21 → st k = nI (T.2 k)) {a b c : Nat} (ha : a < 7) (hb : b < 7) (hc : c < 7) : X11_dot (nI a) (nI b) (nI c) st = some (dt T.2 a b c) := by
  unfold X11_dot dt
  simp only [sq_m ok h ha hb, sq_m ok h ha hc, sq_m ok h hb hc, bs]
theorem canBe_c {T : Tab} {pl : Int32} {sq : Nat → Int32} (ok : okT T) (h : cT T pl sq) {a b c : Nat} (ha : a < 7) (hb : b < 7) (hc : c < 7) : X8_canBeThree (nI a) (nI b) (nI c) sq = some (b2 (c3 T.2 a b c)) := by
  unfold X8_canBeThree c3
  simp only [wideOf_c ok h ha hb hc, bs]
  by_cases z : w3 T.2 a b c < 0 <;> simp [z, b2]
theorem canBe_m {T : Tab} {st : Nat → Int32} (ok : okT T) (h : ∀ k, k < 21 → st k = nI (T.2 k)) {a b c : Nat} (ha : a < 7) (hb : b < 7) (hc : c < 7) : X11_canBe (nI a) (nI b) (nI c) st = some (b2 (c3 T.2 a b c)) := by
  unfold X11_canBe c3
  simp only [wideOf_m ok h ha hb hc, bs]
  by_cases z : w3 T.2 a b c < 0 <;> simp [z, b2]
theorem flat_c {T : Tab} {pl : Int32} {sq : Nat → Int32} (ok : okT T) (h : cT T pl sq) {a b c d : Nat} (ha : a < 7) (hb : b < 7) (hc : c < 7) (hd : d < 7) : X8_isFlatFour (nI a) (nI b) (nI c) (nI d) sq = some (b2 (decide (det T.2 a b c d = 0))) := by
  unfold X8_isFlatFour lat
  simp only [square_c h ha hb, square_c h ha hc, square_c h ha hd, leaning_c ok h ha hb hc, leaning_c ok h ha hb hd, leaning_c ok h ha hc hd, bs, toI64 ok]
  show (if det T.2 a b c d = 0 then some (1 : Int32) else some 0) = _
  by_cases z : det T.2 a b c d = 0 <;> simp [z, b2]
theorem canFour_c {T : Tab} {pl : Int32} {sq : Nat → Int32} (ok : okT T) (h : cT T pl sq) {a b c d : Nat} (ha : a < 7) (hb : b < 7) (hc : c < 7) (hd : d < 7) : X8_canBeFour (nI a) (nI b) (nI c) (nI d) sq = some (b2 (c4 T.2 a b c d)) := by
  unfold X8_canBeFour c4
  simp only [canBe_c ok h ha hb hc, canBe_c ok h ha hb hd, canBe_c ok h ha hc hd, canBe_c ok h hb hc hd, flat_c ok h ha hb hc hd, bs]
  cases c3 T.2 a b c <;> cases c3 T.2 a b d <;> cases c3 T.2 a c d <;> cases c3 T.2 b c d <;> cases decide (det T.2 a b c d = 0) <;> rfl
theorem det_form (p s u q r t : Int64) : p * (s * u - t * t) - q * (q * u - t * r) + r * (q * t - s * r) = p * s * u + 2 * q * r * t - p * t * t - s * r * r - u * q * q := by grind
theorem canFour_m {T : Tab} {st : Nat → Int32} (ok : okT T) (h : ∀ k, k < 21 → st k = nI (T.2 k)) {a b c d : Nat} (ha : a < 7) (hb : b < 7) (hc : c < 7) (hd : d < 7) : X11_canFour (nI a) (nI b) (nI c) (nI d) st = some (b2 (c4 T.2 a b c d)) := by
  unfold X11_canFour c4 lat
  simp only [canBe_m ok h ha hb hc, canBe_m ok h ha hb hd, canBe_m ok h ha hc hd, canBe_m ok h hb hc hd, sq_m ok h ha hb, sq_m ok h ha hc, sq_m ok h ha hd, dot_m ok h ha hb hc, dot_m ok h ha hb hd, dot_m ok h ha hc hd, bs]
  rw [det_form]
  show (if b2 _ = 0 then _ else if b2 _ = 0 then _ else if b2 _ = 0 then _ else if b2 _ = 0 then _ else if det T.2 a b c d = 0 then some (1 : Int32) else some 0) = _
  cases c3 T.2 a b c <;> cases c3 T.2 a b d <;> cases c3 T.2 a c d <;> cases c3 T.2 b c d <;> by_cases z : det T.2 a b c d = 0 <;> simp [z, b2]
theorem ok7 {T : Tab} (ok : okT T) {a : Nat} (h : a < T.1) : a < 7 := Nat.lt_of_lt_of_le h ok.2.1
theorem ok31 {T : Tab} (ok : okT T) : T.1 < 2 ^ 31 := by have := ok.2.1; omega
-- the questions
theorem q_far {T : Tab} {pl aw : Int32} {sq st : Nat → Int32} (ok : okT T) (hc : cT T pl sq) (hm : mQ T aw st) (x y : Int32) : ∃ r, X10_far x y pl sq = some r ∧ X11_far x y aw st = some (r, 1, awk aw st) := by
  unfold X10_far X11_far
  rw [hc.1, areTwo_c, areTwo_m ok hm]
  simp only [bs]
  cases h : two T.1 x y with
  | false => exact ⟨-1, rfl, rfl⟩
  | true =>
    obtain ⟨a, b, ha, hb, hab, rfl, rfl⟩ := two_of (ok31 ok) h
    unfold X8_toldOrNone
    simp only [square_c hc (ok7 ok ha) (ok7 ok hb), sq_m ok hm.st.2 (ok7 ok ha) (ok7 ok hb), bs, eq0_c ok, eq0_m ok, ifb_t]
    cases t2 T.2 a b with
    | false => exact ⟨-4, rfl, rfl⟩
    | true =>
      refine ⟨nI (tv T.2 a b), rfl, ?_⟩
      unfold q6
      rw [lN_i]
      rfl
theorem q_pair {T : Tab} {pl aw : Int32} {st : Nat → Int32} (ok : okT T) (hp : pl = nI T.1) (hm : mQ T aw st) (x y : Int32) : X11_pair x y aw st = some (X10_pair x y pl, 1, awk aw st) := by
  unfold X10_pair X11_pair
  rw [hp, areTwo_c, areTwo_m ok hm]
  simp only [bs]
  cases h : two T.1 x y with
  | false => rfl
  | true =>
    obtain ⟨a, b, ha, hb, hab, rfl, rfl⟩ := two_of (ok31 ok) h
    rw [ifb_t, ifb_t, pairOf_c a (ok7 ok ha) b (ok7 ok hb), pairOf_m a (ok7 ok ha) b (ok7 ok hb)]
theorem q_wide {T : Tab} {pl aw : Int32} {sq st : Nat → Int32} (ok : okT T) (hc : cT T pl sq) (hm : mQ T aw st) (x y z : Int32) : ∃ r, X10_wide x y z pl sq = some r ∧ X11_wide x y z aw st = some (r, 1, awk aw st) := by
  unfold X10_wide X11_wide
  rw [hc.1, areThree_c, areThree_m ok hm]
  simp only [bs]
  cases h : three T.1 x y z with
  | false => exact ⟨_, rfl, rfl⟩
  | true =>
    obtain ⟨a, b, c, ha, hb, hcc, hab, hac, hbc, rfl, rfl, rfl⟩ := three_of (ok31 ok) h
    simp only [isToldThree_c ok hc (ok7 ok ha) (ok7 ok hb) (ok7 ok hcc), areTold_m ok hm.st.2 (ok7 ok ha) (ok7 ok hb) (ok7 ok hcc), wideOf_c ok hc (ok7 ok ha) (ok7 ok hb) (ok7 ok hcc), wideOf_m ok hm.st.2 (ok7 ok ha) (ok7 ok hb) (ok7 ok hcc), bs]
    cases t3 T.2 a b c <;> exact ⟨_, rfl, rfl⟩
theorem q_three {T : Tab} {pl aw : Int32} {sq st : Nat → Int32} (ok : okT T) (hc : cT T pl sq) (hm : mQ T aw st) (x y z : Int32) : ∃ r, X10_three x y z pl sq = some r ∧ X11_three x y z aw st = some (r, 1, awk aw st) := by
  unfold X10_three X11_three
  rw [hc.1, areThree_c, areThree_m ok hm]
  simp only [bs]
  cases h : three T.1 x y z with
  | false => exact ⟨_, rfl, rfl⟩
  | true =>
    obtain ⟨a, b, c, ha, hb, hcc, hab, hac, hbc, rfl, rfl, rfl⟩ := three_of (ok31 ok) h
    simp only [isToldThree_c ok hc (ok7 ok ha) (ok7 ok hb) (ok7 ok hcc), areTold_m ok hm.st.2 (ok7 ok ha) (ok7 ok hb) (ok7 ok hcc), canBe_c ok hc (ok7 ok ha) (ok7 ok hb) (ok7 ok hcc), canBe_m ok hm.st.2 (ok7 ok ha) (ok7 ok hb) (ok7 ok hcc), bs]
    cases t3 T.2 a b c <;> cases c3 T.2 a b c <;> exact ⟨_, rfl, rfl⟩
theorem q_four {T : Tab} {pl aw : Int32} {sq st : Nat → Int32} (ok : okT T) (hc : cT T pl sq) (hm : mQ T aw st) (x y z t : Int32) : ∃ r, X10_four x y z t pl sq = some r ∧ X11_four x y z t aw st = some (r, 1, awk aw st) := by
  unfold X10_four X11_four
  rw [hc.1, areFour_c, areFour_m ok hm]
  simp only [bs]
  cases h : four T.1 x y z t with
  | false => exact ⟨_, rfl, rfl⟩
  | true =>
    obtain ⟨a, b, c, d, ha, hb, hcc, hd, -, -, -, -, -, -, rfl, rfl, rfl, rfl⟩ := four_of (ok31 ok) h
    simp only [isToldFour_c ok hc (ok7 ok ha) (ok7 ok hb) (ok7 ok hcc) (ok7 ok hd), allTold_m ok hm.st.2 (ok7 ok ha) (ok7 ok hb) (ok7 ok hcc) (ok7 ok hd), canFour_c ok hc (ok7 ok ha) (ok7 ok hb) (ok7 ok hcc) (ok7 ok hd), canFour_m ok hm.st.2 (ok7 ok ha) (ok7 ok hb) (ok7 ok hcc) (ok7 ok hd), bs]
    cases t4 T.2 a b c d <;> cases c4 T.2 a b c d <;> exact ⟨_, rfl, rfl⟩
