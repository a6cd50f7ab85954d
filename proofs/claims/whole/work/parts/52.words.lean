/-! who is told apart by whom -/
def al (f : Nat → Bool) : Nat → Nat → Bool
  | 0, _ => true
  | m + 1, p => f p && al f m (p + 1)
theorem bitI : ∀ v, v < 128 → ∀ p, p < 7 → ((nI v >>> (nI p &&& 31)) &&& 1) = b2 (v.testBit p) := by decide +kernel
theorem shlI : ∀ n, n < 8 → (1 : Int32) <<< (nI n &&& 31) = nI (2 ^ n) := by decide +kernel
theorem hasBit_c {v p : Nat} (hv : v < 128) (hp : p < 7) : X10_hasBit (nI v) (nI p) = b2 (v.testBit p) := by
  unfold X10_hasBit
  rw [bitI v hv p hp]
  cases v.testBit p <;> rfl
def lk (e : Nat → Nat) (n v a q : Nat) : Bool := al (fun p => !(v.testBit p) || decide (tv e a p = tv e q p)) n 0
def tb (e : Nat → Nat) (n v a : Nat) : Bool := al (fun p => !(v.testBit p) || t2 e a p) n 0 && al (fun q => decide (q = a) || !(lk e n v a q)) n 0
theorem alike_cL {T : Tab} {pl : Int32} {sq : Nat → Int32} (ok : okT T) (h : cT T pl sq) {v a q : Nat} (hv : v < 128) (ha : a < 7) (hq : q < 7) : ∀ (m p n : Nat), p + m = T.1 → m + 1 ≤ n → X8_isAlikeSeenFrom_L3 pl sq n (nI v) (nI a) (nI q) (nI p) = some (b2 (al (fun p => !(v.testBit p) || decide (tv T.2 a p = tv T.2 q p)) m p))
  | 0, p, n + 1, hp, _ => by
    have h7 := ok.2.1
    show X8_isAlikeSeenFrom_B3 _ _ _ _ _ _ _ = _
    unfold X8_isAlikeSeenFrom_B3
    rw [h.1, if_pos (nI_le (by omega) (by omega))]; rfl
  | m + 1, p, n + 1, hp, hn => by
    have h7 := ok.2.1
    have h1 := alike_cL ok h hv ha hq m (p + 1) n (by omega) (by omega)
    show X8_isAlikeSeenFrom_B3 _ _ _ _ _ _ _ = _
    unfold X8_isAlikeSeenFrom_B3
    simp only [X8_isAlikeSeenFrom_J40, lat]
    rw [if_neg (by rw [h.1]; exact nI_ge (by omega) (by omega)), hasBit_c hv (by omega), square_c h ha (by omega), square_c h hq (by omega), nI_1]
    simp only [bs]
    have l1 := tv_le ok a p; have l2 := tv_le ok q p
    have e : al (fun p => !(v.testBit p) || decide (tv T.2 a p = tv T.2 q p)) (m + 1) p = ((!(v.testBit p) || decide (tv T.2 a p = tv T.2 q p)) && al (fun p => !(v.testBit p) || decide (tv T.2 a p = tv T.2 q p)) m (p + 1)) := rfl
    rw [e]
    cases hb : v.testBit p with
    | false => rw [ifb_f]; exact h1
    | true =>
      rw [ifb_t]
      by_cases c : tv T.2 a p = tv T.2 q p
      · rw [if_pos (by rw [c]), decide_eq_true c]; exact h1
      · rw [if_neg (fun z => c ((nI_eq (by omega) (by omega)).mp z)), decide_eq_false c]; rfl
theorem alike_c {T : Tab} {pl : Int32} {sq : Nat → Int32} (ok : okT T) (h : cT T pl sq) {v a q : Nat} (hv : v < 128) (ha : a < 7) (hq : q < 7) : X8_isAlikeSeenFrom (nI v) (nI a) (nI q) pl sq = some (b2 (lk T.2 T.1 v a q)) := alike_cL ok h hv ha hq T.1 0 1000 (by omega) (by have := ok.2.1; omega)
theorem told2_cL {T : Tab} {pl : Int32} {sq : Nat → Int32} (ok : okT T) (h : cT T pl sq) {v a : Nat} (hv : v < 128) (ha : a < 7) : ∀ (m q n : Nat), q + m = T.1 → m + 1 ≤ n → X8_isToldBy_L37 pl sq n (nI a) (nI v) (nI q) = some (b2 (al (fun q => decide (q = a) || !(lk T.2 T.1 v a q)) m q))
  | 0, q, n + 1, hp, _ => by
    have h7 := ok.2.1
    show X8_isToldBy_B37 _ _ _ _ _ _ = _
    unfold X8_isToldBy_B37
    rw [h.1, if_pos (nI_le (by omega) (by omega))]; rfl
  | m + 1, q, n + 1, hp, hn => by
    have h7 := ok.2.1
    have h1 := told2_cL ok h hv ha m (q + 1) n (by omega) (by omega)
    show X8_isToldBy_B37 _ _ _ _ _ _ = _
    unfold X8_isToldBy_B37
    simp only [X8_isToldBy_J62, lat]
    rw [if_neg (by rw [h.1]; exact nI_ge (by omega) (by omega)), alike_c ok h hv ha (by omega), nI_1, bs]
    have e : al (fun q => decide (q = a) || !(lk T.2 T.1 v a q)) (m + 1) q = ((decide (q = a) || !(lk T.2 T.1 v a q)) && al (fun q => decide (q = a) || !(lk T.2 T.1 v a q)) m (q + 1)) := rfl
    rw [e]
    by_cases c : q = a
    · rw [if_pos (by rw [c]), decide_eq_true c]; exact h1
    · rw [if_neg (fun z => c ((nI_eq (by omega) (by omega)).mp z)), decide_eq_false c]
      cases hl : lk T.2 T.1 v a q with
      | false => rw [ifb_f]; exact h1
      | true => rw [ifb_t]; rfl
theorem told1_cL {T : Tab} {pl : Int32} {sq : Nat → Int32} (ok : okT T) (h : cT T pl sq) {v a : Nat} (hv : v < 128) (ha : a < 7) : ∀ (m p n : Nat), p + m = T.1 → m + 1 ≤ n → X8_isToldBy_L2 pl sq (X8_isToldBy_J35 pl sq) n (nI a) (nI v) (nI p) = some (b2 (al (fun p => !(v.testBit p) || t2 T.2 a p) m p && al (fun q => decide (q = a) || !(lk T.2 T.1 v a q)) T.1 0))
  | 0, p, n + 1, hp, _ => by
    have h7 := ok.2.1
    have h2 := told2_cL ok h hv ha T.1 0 1000 (by omega) (by omega)
    show X8_isToldBy_B2 _ _ _ _ _ _ _ = _
    unfold X8_isToldBy_B2 X8_isToldBy_J35
    rw [nI_0] at h2
    rw [if_pos (by rw [h.1]; exact nI_le (by omega) (by omega)), h2]; rfl
  | m + 1, p, n + 1, hp, hn => by
    have h7 := ok.2.1
    have h1 := told1_cL ok h hv ha m (p + 1) n (by omega) (by omega)
    show X8_isToldBy_B2 _ _ _ _ _ _ _ = _
    unfold X8_isToldBy_B2
    simp only [X8_isToldBy_J29, lat]
    rw [if_neg (by rw [h.1]; exact nI_ge (by omega) (by omega)), hasBit_c hv (by omega), square_c h ha (by omega), nI_1]
    simp only [bs, eq0_c ok]
    have e : al (fun p => !(v.testBit p) || t2 T.2 a p) (m + 1) p = ((!(v.testBit p) || t2 T.2 a p) && al (fun p => !(v.testBit p) || t2 T.2 a p) m (p + 1)) := rfl
    rw [e]
    cases hb : v.testBit p with
    | false => rw [ifb_f]; exact h1
    | true =>
      rw [ifb_t]
      cases ht : t2 T.2 a p with
      | false => rw [if_pos rfl]; rfl
      | true => rw [if_neg (by decide)]; exact h1
theorem toldBy_c {T : Tab} {pl : Int32} {sq : Nat → Int32} (ok : okT T) (h : cT T pl sq) {v a : Nat} (hv : v < 128) (ha : a < 7) : X8_isToldBy (nI a) (nI v) pl sq = some (b2 (tb T.2 T.1 v a)) := told1_cL ok h hv ha T.1 0 1000 (by omega) (by have := ok.2.1; omega)
theorem alike_mL {T : Tab} {st : Nat → Int32} (ok : okT T) (h : mst T st) (kk : Int32 → Int32 → Int32 → Int32 → Option Int32) {v a q : Nat} (hv : v < 128) (ha : a < 7) (hq : q < 7) : ∀ (m p n : Nat), p + m = T.1 → m + 2 ≤ n → X11_isTold_L69 st kk n (nI a) (nI v) (nI q) 1 (nI p) = kk (nI a) (nI v) (nI q) (b2 (al (fun p => !(v.testBit p) || decide (tv T.2 a p = tv T.2 q p)) m p))
  | 0, p, n + 1, hp, _ => by
    have h7 := ok.2.1
    show X11_isTold_B69 _ _ _ _ _ _ _ _ = _
    unfold X11_isTold_B69
    rw [h.1, if_pos (nI_le (by omega) (by omega))]; rfl
  | m + 1, p, n + 1, hp, hn => by
    have h7 := ok.2.1
    have h1 := alike_mL ok h kk hv ha hq m (p + 1) n (by omega) (by omega)
    show X11_isTold_B69 _ _ _ _ _ _ _ _ = _
    unfold X11_isTold_B69
    simp only [X11_isTold_J113, X11_isTold_J118, lat]
    rw [if_neg (by rw [h.1]; exact nI_ge (by omega) (by omega)), if_neg (show ¬ (1 : Int32) = 0 by decide), bitI v hv p (by omega), sq_m ok h.2 ha (by omega), sq_m ok h.2 hq (by omega), nI_1]
    simp only [bs]
    have l1 := tv_le ok a p; have l2 := tv_le ok q p
    have e : al (fun p => !(v.testBit p) || decide (tv T.2 a p = tv T.2 q p)) (m + 1) p = ((!(v.testBit p) || decide (tv T.2 a p = tv T.2 q p)) && al (fun p => !(v.testBit p) || decide (tv T.2 a p = tv T.2 q p)) m (p + 1)) := rfl
    rw [e]
    cases hb : v.testBit p with
    | false => rw [ifb_f]; exact h1
    | true =>
      rw [ifb_t]
      unfold q6
      by_cases c : tv T.2 a p = tv T.2 q p
      · rw [if_pos (by rw [c]), decide_eq_true c]; exact h1
      · rw [if_neg (fun z => c ((lN_eq (by omega) (by omega)).mp z).symm), decide_eq_false c]
        obtain ⟨n', rfl⟩ : ∃ n', n = n' + 1 := ⟨n - 1, by omega⟩
        show X11_isTold_B69 _ _ _ _ _ _ _ _ = _
        unfold X11_isTold_B69
        split
        · rfl
        · rw [if_pos rfl]; rfl
theorem none_mL {T : Tab} {st : Nat → Int32} (kk : Int32 → Int32 → Int32 → Int32 → Option Int32) (x y z w : Int32) (n : Nat) : X11_isTold_L69 st kk (n + 1) x y z 0 w = kk x y z 0 := by
  show X11_isTold_B69 _ _ _ _ _ _ _ _ = _
  unfold X11_isTold_B69
  split
  · rfl
  · rw [if_pos rfl]
theorem told2_mL {T : Tab} {st : Nat → Int32} (ok : okT T) (h : mst T st) {v a : Nat} (hv : v < 128) (ha : a < 7) : ∀ (m q n : Nat), q + m = T.1 → m + 1 ≤ n → X11_isTold_L43 st n (nI a) (nI v) (nI q) = some (b2 (al (fun q => decide (q = a) || !(lk T.2 T.1 v a q)) m q))
  | 0, q, n + 1, hp, _ => by
    have h7 := ok.2.1
    show X11_isTold_B43 _ _ _ _ _ = _
    unfold X11_isTold_B43
    rw [h.1, if_pos (nI_le (by omega) (by omega))]; rfl
  | m + 1, q, n + 1, hp, hn => by
    have h7 := ok.2.1
    have h1 := told2_mL ok h hv ha m (q + 1) n (by omega) (by omega)
    show X11_isTold_B43 _ _ _ _ _ = _
    unfold X11_isTold_B43 X11_isTold_J64
    rw [if_neg (by rw [h.1]; exact nI_ge (by omega) (by omega))]
    have e : al (fun q => decide (q = a) || !(lk T.2 T.1 v a q)) (m + 1) q = ((decide (q = a) || !(lk T.2 T.1 v a q)) && al (fun q => decide (q = a) || !(lk T.2 T.1 v a q)) m (q + 1)) := rfl
    rw [e]
    by_cases c : q = a
    · rw [if_pos (by rw [c]), decide_eq_true c, none_mL (T := T)]
      unfold X11_isTold_J126 lat
      rw [if_pos rfl, nI_1]; exact h1
    · have h2 := alike_mL ok h (X11_isTold_J126 (X11_isTold_L43 st n)) hv ha (q := q) (by omega) T.1 0 1000 (by omega) (by omega)
      rw [nI_0] at h2
      rw [if_neg (fun z => c ((nI_eq (by omega) (by omega)).mp z)), decide_eq_false c, h2]
      unfold X11_isTold_J126 lat
      have e2 : al (fun p => !(v.testBit p) || decide (tv T.2 a p = tv T.2 q p)) T.1 0 = lk T.2 T.1 v a q := rfl
      rw [e2, nI_1]
      cases hl : lk T.2 T.1 v a q with
      | false => rw [ifb_f]; exact h1
      | true => rw [ifb_t]; rfl
theorem told1_mL {T : Tab} {st : Nat → Int32} (ok : okT T) (h : mst T st) {v a : Nat} (hv : v < 128) (ha : a < 7) : ∀ (m p n : Nat), p + m = T.1 → m + 1 ≤ n → X11_isTold_L2 st (X11_isTold_J41 st) n (nI a) (nI v) (nI p) = some (b2 (al (fun p => !(v.testBit p) || t2 T.2 a p) m p && al (fun q => decide (q = a) || !(lk T.2 T.1 v a q)) T.1 0))
  | 0, p, n + 1, hp, _ => by
    have h7 := ok.2.1
    have h2 := told2_mL ok h hv ha T.1 0 1000 (by omega) (by omega)
    show X11_isTold_B2 _ _ _ _ _ _ = _
    unfold X11_isTold_B2 X11_isTold_J41
    rw [nI_0] at h2
    rw [if_pos (by rw [h.1]; exact nI_le (by omega) (by omega)), h2]; rfl
  | m + 1, p, n + 1, hp, hn => by
    have h7 := ok.2.1
    have h1 := told1_mL ok h hv ha m (p + 1) n (by omega) (by omega)
    show X11_isTold_B2 _ _ _ _ _ _ = _
    unfold X11_isTold_B2
    simp only [X11_isTold_J35, lat]
    rw [if_neg (by rw [h.1]; exact nI_ge (by omega) (by omega)), bitI v hv p (by omega), sq_m ok h.2 ha (by omega), nI_1]
    simp only [bs, eq0_m ok]
    have e : al (fun p => !(v.testBit p) || t2 T.2 a p) (m + 1) p = ((!(v.testBit p) || t2 T.2 a p) && al (fun p => !(v.testBit p) || t2 T.2 a p) m (p + 1)) := rfl
    rw [e]
    cases hb : v.testBit p with
    | false => rw [if_neg (by decide)]; exact h1
    | true =>
      rw [if_pos (by decide)]
      cases ht : t2 T.2 a p with
      | false => rw [if_pos rfl]; rfl
      | true => rw [if_neg (by decide)]; exact h1
theorem told_by_m {T : Tab} {st : Nat → Int32} (ok : okT T) (h : mst T st) {v a : Nat} (hv : v < 128) (ha : a < 7) : X11_isTold (nI a) (nI v) st = some (b2 (tb T.2 T.1 v a)) := told1_mL ok h hv ha T.1 0 1000 (by omega) (by have := ok.2.1; omega)
theorem pow7 : ∀ n, n < 8 → 2 ^ n ≤ 128 := by decide +kernel
theorem pow0 (n : Nat) : 1 ≤ 2 ^ n := Nat.one_le_two_pow
theorem some_m {T : Tab} {st : Nat → Int32} (ok : okT T) (h : mst T st) (x y : Int32) : X11_areSome x y st = if (rng 1 (2 ^ T.1 - 1) y) = true then (if ((y >>> (x &&& 31)) &&& 1) = 0 then 1 else 0) else 0 := by
  have h7 := ok.2.1
  have p7 := pow7 T.1 (by omega)
  have p0 := pow0 T.1
  unfold X11_areSome
  rw [h.1, shlI T.1 (by omega), show (1 : Int32) = nI 1 from rfl, nI_sub' p0, nI_l (by omega)]
  rw [show X11_in y.toInt64 1 (lN (2 ^ T.1 - 1)) = b2 (rng 1 (2 ^ T.1 - 1) y) from in_g (lo := 1) (by decide) (by omega) y]
  cases rng 1 (2 ^ T.1 - 1) y with
  | false => rw [ifb_f, if_neg (by decide)]
  | true => rw [ifb_t, if_pos rfl]
theorem q_tells {T : Tab} {pl aw : Int32} {sq st : Nat → Int32} (ok : okT T) (hc : cT T pl sq) (hm : mQ T aw st) (x y : Int32) : ∃ r, X10_tells x y pl sq = some r ∧ X11_tells x y aw st = some (r, 1, awk aw st) := by
  have h7 := ok.2.1
  have p7 := pow7 T.1 (by omega)
  have p0 := pow0 T.1
  unfold X10_tells X11_tells
  rw [isPlace_m ok hm, bs]
  dsimp only
  rw [hc.1, isPlace_c, some_m ok hm.st, shlI T.1 (by omega)]
  cases h : isP T.1 x with
  | false => exact ⟨-1, by rw [ifb_f], by rw [ifb_f]⟩
  | true =>
    obtain ⟨a, ha, rfl⟩ := isP_of (by omega) h
    rw [ifb_t, ifb_t]
    cases hr : rng 1 (2 ^ T.1 - 1) y with
    | false =>
      rw [if_neg (show ¬ false = true by decide), if_pos rfl]
      refine ⟨-1, ?_, rfl⟩
      by_cases q1 : y ≤ 0
      · rw [if_pos q1]
      · have q0 : ¬ y < 0 := fun z => q1 (Int32.le_of_lt z)
        obtain ⟨j, hj, rfl⟩ := nI_of q0
        have j1 : 1 ≤ j := by
          rcases Nat.eq_zero_or_pos j with rfl | w
          · exact absurd (by decide) q1
          · exact w
        rw [if_neg q1, if_pos]
        refine nI_le ?_ hj
        unfold rng at hr
        rw [decide_eq_false (nI_nlt j1 hj)] at hr
        simp only [Bool.not_false, Bool.true_and, decide_eq_false_iff_not] at hr
        rcases Nat.lt_or_ge (2 ^ T.1 - 1) j with w | w
        · omega
        · exact absurd (nI_le w (by omega)) hr
    | true =>
      obtain ⟨v, h1, h2, rfl⟩ := rng_of (by omega) (by omega) hr
      rw [if_pos rfl, if_neg (nI_nle (by omega) (by omega)), if_neg (nI_ge (by omega) (by omega)), hasBit_c (by omega) (by omega), bitI v (by omega) a (by omega), toldBy_c ok (by rw [← hc.1]; exact hc) (by omega) (by omega), told_by_m ok hm.st (by omega) (by omega)]
      simp only [bs]
      cases v.testBit a with
      | true =>
        rw [ifb_t, ifb_t, if_pos rfl]
        exact ⟨-1, rfl, rfl⟩
      | false =>
        rw [ifb_f, ifb_f, if_neg (by decide)]
        cases tb T.2 T.1 v a <;> exact ⟨_, rfl, rfl⟩
theorem bits_m : ∀ v, v < 128 → X11_bitsOf (nI v) = some (J6_bitCount_0f7a4 (nI v)) := by decide +kernel
def mw (w : Nat) : Int32 := if w = 0 then -4 else nI w
theorem words_L {T : Tab} {pl : Int32} {sq st : Nat → Int32} (ok : okT T) (hc : cT T pl sq) (hm : mst T st) {a : Nat} (ha : a < T.1) {y : Int32} (hy : rng 0 1 y = true) : ∀ (m v n1 n2 w : Nat), v + m = 2 ^ T.1 → 1 ≤ v → w < v → m + 1 ≤ n1 → m + 1 ≤ n2 → ∃ r, X10_words_L27 pl sq X10_words_J100 n1 (nI a) y (nI w) (nI v) = some r ∧ X11_words_L26 X11_words_J102 n2 (nI a) y (mw w) (nI v) 1 st = some (r, 1, st)
  | 0, v, n1 + 1, n2 + 1, w, hv, h1, hw, _, _ => by
    have h7 := ok.2.1
    have p7 := pow7 T.1 (by omega)
    show ∃ r, X10_words_B27 _ _ _ _ _ _ _ _ = _ ∧ X11_words_B26 _ _ _ _ _ _ _ _ = _
    unfold X10_words_B27 X11_words_B26 X10_words_J100 X11_words_J102
    rw [hc.1, hm.1, shlI T.1 (by omega), if_pos (nI_le (by omega) (by omega)), if_pos (nI_le (by omega) (by omega))]
    unfold mw
    by_cases w0 : w = 0
    · subst w0; rw [if_pos (by decide), if_pos rfl, if_pos rfl]; exact ⟨_, rfl, rfl⟩
    · have nw : ¬ nI w = -4 := fun z => by have := nI_pos (n := w) (by omega); rw [z] at this; exact this (by decide)
      rw [if_neg (nI_ne0 (by omega) (by omega)), if_neg w0, if_neg nw, bits_m w (by omega), bs]
      rw [rng01] at hy
      simp only [Bool.or_eq_true, decide_eq_true_eq] at hy
      rcases hy with rfl | rfl
      · rw [if_pos rfl, if_neg (by decide)]; exact ⟨_, rfl, rfl⟩
      · rw [if_neg (by decide), if_pos rfl]; exact ⟨_, rfl, rfl⟩
  | m + 1, v, n1 + 1, n2 + 1, w, hv, h1, hw, hn1, hn2 => by
    have h7 := ok.2.1
    have p7 := pow7 T.1 (by omega)
    have i1 := words_L ok hc hm ha hy m (v + 1) n1 n2 w (by omega) (by omega) (by omega) (by omega) (by omega)
    have i2 := words_L ok hc hm ha hy m (v + 1) n1 n2 v (by omega) (by omega) (by omega) (by omega) (by omega)
    have mv : mw v = nI v := by unfold mw; rw [if_neg (by omega)]
    rw [mv] at i2
    show ∃ r, X10_words_B27 _ _ _ _ _ _ _ _ = _ ∧ X11_words_B26 _ _ _ _ _ _ _ _ = _
    unfold X10_words_B27 X11_words_B26
    simp only [X10_words_J57, X10_words_J62, X10_words_J94, X11_words_J63, X11_words_J64, X11_words_J94, X11_words_J89, X11_words_J95, lat]
    have hp := hc.1
    rw [show ((1 : Int32) <<< (pl &&& 31)) = nI (2 ^ T.1) from by rw [hp]; exact shlI T.1 (by omega), show ((1 : Int32) <<< (st 21 &&& 31)) = nI (2 ^ T.1) from by rw [hm.1]; exact shlI T.1 (by omega), if_neg (nI_ge (by omega) (by omega)), if_neg (nI_ge (by omega) (by omega)), hasBit_c (by omega) (by omega), bitI v (by omega) a (by omega), toldBy_c ok hc (by omega) (by omega), told_by_m ok hm (by omega) (by omega), bits_m v (by omega), nI_1]
    simp only [bs, show ((1 : Int32) = 0) = False from eq_false (by decide), if_false, if_true]
    cases hb : v.testBit a with
    | true =>
      rw [ifb_t, ifb_t]
      simp only [ite_self]
      exact i1
    | false =>
      rw [ifb_f, ifb_f]
      cases ht : tb T.2 T.1 v a with
      | false =>
        rw [ifb_f, ifb_f]
        simp only [ite_self]
        exact i1
      | true =>
        rw [ifb_t, ifb_t]
        by_cases w0 : w = 0
        · subst w0
          rw [if_pos (by decide), show mw 0 = -4 from rfl, if_pos rfl]
          exact i2
        · have e : mw w = nI w := by unfold mw; rw [if_neg w0]
          rw [e] at i1
          have nw : ¬ nI w = -4 := fun z => by have := nI_pos (n := w) (by omega); rw [z] at this; exact this (by decide)
          rw [if_neg (show ¬ nI w = 0 from nI_ne0 (by omega) (by omega)), e, if_neg nw, bits_m w (by omega), bs]
          by_cases q : J6_bitCount_0f7a4 (nI w) ≤ J6_bitCount_0f7a4 (nI v)
          · rw [if_pos q, if_pos q]; exact i1
          · rw [if_neg q, if_neg q]; exact i2
theorem q_words {T : Tab} {pl aw : Int32} {sq st : Nat → Int32} (ok : okT T) (hc : cT T pl sq) (hm : mQ T aw st) (x y : Int32) : ∃ r, X10_words x y pl sq = some r ∧ X11_words x y aw st = some (r, 1, awk aw st) := by
  have h7 := ok.2.1
  have p7 := pow7 T.1 (by omega)
  have p0 := pow0 T.1
  unfold X10_words X11_words
  rw [isPlace_m ok hm, bs]
  dsimp only
  rw [show X8_isPlace x pl = b2 (isP T.1 x) from by rw [hc.1]; exact isPlace_c _ _, in_01]
  cases h : isP T.1 x with
  | false => exact ⟨-1, by rw [ifb_f], by rw [ifb_f]⟩
  | true =>
    obtain ⟨a, ha, rfl⟩ := isP_of (by omega) h
    rw [ifb_t, ifb_t]
    cases hr : rng 0 1 y with
    | false =>
      rw [ifb_f]
      refine ⟨-1, ?_, rfl⟩
      unfold rng at hr
      rw [nI_0, show nI 1 = 1 from rfl] at hr
      by_cases q : y < 0
      · rw [if_pos q]
      · rw [if_neg q, if_neg (fun z => by simp [q, z] at hr)]
    | true =>
      rw [ifb_t]
      have hr2 := hr
      unfold rng at hr2
      rw [nI_0, show nI 1 = 1 from rfl] at hr2
      simp only [Bool.and_eq_true, Bool.not_eq_true', decide_eq_false_iff_not, decide_eq_true_eq] at hr2
      rw [if_neg hr2.1, if_pos hr2.2]
      have := words_L ok hc hm.st ha hr (2 ^ T.1 - 1) 1 1000 1000 0 (by omega) (by omega) (by omega) (by omega) (by omega)
      rw [nI_0, show mw 0 = -4 from rfl] at this
      exact this
