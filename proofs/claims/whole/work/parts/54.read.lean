/-! lengths read: the reference's side -/
theorem cT_any (T : Tab) : cT T (nI T.1) (fun i => nI (tv T.2 (i / 7) (i % 7))) := by
  refine ⟨rfl, fun a b ha hb => ?_⟩
  show nI (tv T.2 ((a * 7 + b) / 7) ((a * 7 + b) % 7)) = _
  rw [show (a * 7 + b) / 7 = a by omega, show (a * 7 + b) % 7 = b by omega]
theorem tells_bad {T : Tab} {aw : Int32} {st : Nat → Int32} (ok : okT T) (hm : mQ T aw st) {x y z : Int32} (h : (two T.1 x y && (decide (z = -4) || rng 1 9999 z)) = false) : X11_tells2 x y z aw st = some (-1, 1, awk aw st) := by
  unfold X11_tells2
  rw [areTwo_m ok hm, bs]
  dsimp only
  rw [in_sq]
  cases h1 : two T.1 x y with
  | false => rw [ifb_f]
  | true =>
    rw [h1] at h; simp at h
    rw [ifb_t, if_neg h.1, h.2, ifb_f]
theorem tells_good {T : Tab} {aw : Int32} {st : Nat → Int32} (ok : okT T) (hm : mQ T aw st) {x y z : Int32} (h : (two T.1 x y && (decide (z = -4) || rng 1 9999 z)) = true) : ∃ r st', X11_tells2 x y z aw st = some (r, 1, st') ∧ ¬ r = -1 ∧ mst (tl T x y z) st' ∧ ∀ k, 21 < k → st' k = st k := by
  obtain ⟨r, sq', st', h1, h2, h3, h4, h5, h6⟩ := q_tell ok (cT_any T) hm x y z
  exact ⟨r, st', h2, fun e => by have := (h6 e).1; rw [h] at this; exact absurd this (by decide), h4, h5⟩
theorem had_L (kk : Int32 → Int32 → Int32 → Int32 → Int32 → Int32 → Int32 → Int32 → Int32 → (Nat → Int32) → (Nat → Int32) → Option (Int32 × Int32 × Int32 × (Nat → Int32) × (Nat → Int32))) (a b c d e f g aw to : Int32) (st : Nat → Int32) : ∀ (m i n : Nat) (hd : Nat → Int32), i + m = 21 → m + 1 ≤ n → (∀ k, k < i → hd k = st k) → ∃ hd', X11_read_L55 kk n a b c d e f g (nI i) aw to hd st = kk a b c d e f g aw to hd' st ∧ ∀ k, k < 21 → hd' k = st k
  | 0, i, n + 1, hd, hi, _, h => by
    refine ⟨hd, ?_, by rw [show i = 21 by omega] at h; exact h⟩
    show X11_read_B55 _ _ _ _ _ _ _ _ _ _ _ _ _ _ = _
    unfold X11_read_B55
    rw [if_pos (show (21 : Int32) ≤ nI i from nI_le (a := 21) (by omega) (by omega))]
  | m + 1, i, n + 1, hd, hi, hn, h => by
    obtain ⟨hd', h1, h2⟩ := had_L kk a b c d e f g aw to st m (i + 1) n (upd hd i (st i)) (by omega) (by omega) (fun k hk => by
      unfold upd
      split
      · rename_i z; rw [z]
      · exact h k (by omega))
    refine ⟨hd', ?_, h2⟩
    show X11_read_B55 _ _ _ _ _ _ _ _ _ _ _ _ _ _ = _
    unfold X11_read_B55 lat
    rw [if_neg (show ¬ (21 : Int32) ≤ nI i from nI_ge (b := 21) (by omega) (by omega)), gd_in (by omega) (by decide), gd_in (by omega) (by decide), nI_clamp (by omega), nI_1]
    exact h1
theorem res_L (x6 aw to : Int32) (hd : Nat → Int32) : ∀ (m i n : Nat) (st : Nat → Int32), i + m = 21 → m + 1 ≤ n → (∀ k, k < i → st k = hd k) → ∃ st', X11_read_L267 n x6 (nI i) aw to hd st = some (-20 - x6, aw, to, hd, st') ∧ (∀ k, k < 21 → st' k = hd k) ∧ ∀ k, 21 ≤ k → st' k = st k
  | 0, i, n + 1, st, hi, _, h => by
    refine ⟨st, ?_, by rw [show i = 21 by omega] at h; exact h, fun _ _ => rfl⟩
    show X11_read_B267 _ _ _ _ _ _ _ = _
    unfold X11_read_B267
    rw [if_pos (show (21 : Int32) ≤ nI i from nI_le (a := 21) (by omega) (by omega))]
  | m + 1, i, n + 1, st, hi, hn, h => by
    obtain ⟨st', h1, h2, h3⟩ := res_L x6 aw to hd m (i + 1) n (upd st i (hd i)) (by omega) (by omega) (fun k hk => by
      unfold upd
      split
      · rename_i z; rw [z]
      · exact h k (by omega))
    refine ⟨st', ?_, h2, fun k hk => by rw [h3 k hk]; unfold upd; rw [if_neg (by omega)]⟩
    show X11_read_B267 _ _ _ _ _ _ _ = _
    unfold X11_read_B267 lat
    rw [if_neg (show ¬ (21 : Int32) ≤ nI i from nI_ge (b := 21) (by omega) (by omega)), gd_in (by omega) (by decide), gd_in (by omega) (by decide), nI_clamp (by omega), nI_1]
    exact h1
section rd
variable {kk : Int32 → Int32 → Int32 → Int32 → Int32 → (Nat → Int32) → (Nat → Int32) → Option (Int32 × Int32 × Int32 × (Nat → Int32) × (Nat → Int32))} {cl ln lg had st : Nat → Int32} {q k L : Nat} {y x6 aw to : Int32}
/-- a cell within, not the third -/
theorem rd_go (hq : q < 4) (hk : k ≤ 13) (hL : L ≤ 40) (h1 : ln q = y) (h0 : ¬ y = -4) (h2 : lg q = nI L) {x i : Nat} (hi : i < 3 * k) (hx : x + i < L) (h3 : ¬ i % 3 = 2) (n : Nat) : X11_read_L85 cl ln lg kk (n + 1) (nI q) y (nI x) (nI k) 0 x6 0 (nI i) aw to had st = X11_read_L85 cl ln lg kk n (nI q) y (nI x) (nI k) 0 x6 0 (nI (i + 1)) aw to had st := by
  show X11_read_B85 _ _ _ _ _ _ _ _ _ _ _ _ _ _ _ _ _ = _
  unfold X11_read_B85 X11_read_J160 X11_read_J253 lat
  rw [show (3 : Int32) * nI k = nI (3 * k) from nI_mul 3 k, if_neg (nI_ge hi (by omega)), if_pos rfl, if_pos rfl, gd_in hq (by decide), nI_clamp (by omega), h1, if_neg h0, if_pos rfl, h2]
  have e : X11_in ((nI x).toInt64 + (nI i).toInt64) 0 (nI L - 1).toInt64 = b2 true := by
    have : (nI x).toInt64 + (nI i).toInt64 = (nI (x + i)).toInt64 := by rw [nI_l (by omega), nI_l (by omega), nI_l (by omega), lN_add]
    rw [this, in_m0 (by omega), isP_nI (by omega) hx]
  rw [e, ifb_t, if_pos rfl, mod3 i (by omega), if_neg (show ¬ nI (i % 3) = 2 from fun z => h3 ((nI_eq (b := 2) (by omega) (by decide)).mp z)), nI_1]
/-- the third cell -/
theorem rd_third (hq : q < 4) (hk : k ≤ 13) (hL : L ≤ 40) (h1 : ln q = y) (h0 : ¬ y = -4) (h2 : lg q = nI L) {x t : Nat} {c : Nat → Int32} (hc : ∀ i, i < 40 → cl (40 * q + i) = c i) (ht : t < k) (hx : x + 3 * t + 2 < L) {T : Tab} (ok : okT T) (hm : mst T st) : (g3 T.1 c x t = true → ∃ st', mst (tl T (c (x + 3 * t)) (c (x + 3 * t + 1)) (c (x + 3 * t + 2))) st' ∧ (∀ j, 21 < j → st' j = st j) ∧ ∀ n, X11_read_L85 cl ln lg kk (n + 1) (nI q) y (nI x) (nI k) 0 x6 0 (nI (3 * t + 2)) 1 to had st = X11_read_L85 cl ln lg kk n (nI q) y (nI x) (nI k) 0 (x6 + 1) 0 (nI (3 * t + 2 + 1)) 1 to had st') ∧ (g3 T.1 c x t = false → ∀ n, X11_read_L85 cl ln lg kk (n + 1) (nI q) y (nI x) (nI k) 0 x6 0 (nI (3 * t + 2)) 1 to had st = X11_read_L85 cl ln lg kk n (nI q) y (nI x) (nI k) 0 x6 1 (nI (3 * t + 2 + 1)) 1 to had st) := by
  have e0 : ∀ n w, X11_read_L85 cl ln lg kk (n + 1) (nI q) y (nI x) (nI k) 0 x6 0 (nI (3 * t + 2)) 1 to had st = w ↔ X11_read_B85 cl ln lg (X11_read_L85 cl ln lg kk n) kk (nI q) y (nI x) (nI k) 0 x6 0 (nI (3 * t + 2)) 1 to had st = w := fun n w => Iff.rfl
  have e : X11_in ((nI x).toInt64 + (nI (3 * t + 2)).toInt64) 0 (nI L - 1).toInt64 = b2 true := by
    have : (nI x).toInt64 + (nI (3 * t + 2)).toInt64 = (nI (x + (3 * t + 2))).toInt64 := by rw [nI_l (by omega), nI_l (by omega), nI_l (by omega), lN_add]
    rw [this, in_m0 (by omega), isP_nI (by omega) (by omega)]
  have ev : (40 : Int32) * nI q + nI x + nI (3 * t + 2) = nI (40 * q + (x + 3 * t + 2)) := by rw [show (40 : Int32) = nI 40 from rfl, nI_mul, nI_add, nI_add, show 40 * q + x + (3 * t + 2) = 40 * q + (x + 3 * t + 2) by omega]
  have e2 : nI (40 * q + (x + 3 * t + 2)) - 2 = nI (40 * q + (x + 3 * t)) := by rw [show (2 : Int32) = nI 2 from rfl, nI_sub' (by omega), show 40 * q + (x + 3 * t + 2) - 2 = 40 * q + (x + 3 * t) by omega]
  have e1 : nI (40 * q + (x + 3 * t + 2)) - 1 = nI (40 * q + (x + 3 * t + 1)) := by rw [show (1 : Int32) = nI 1 from rfl, nI_sub' (by omega), show 40 * q + (x + 3 * t + 2) - 1 = 40 * q + (x + 3 * t + 1) by omega]
  have key : ∀ n, X11_read_L85 cl ln lg kk (n + 1) (nI q) y (nI x) (nI k) 0 x6 0 (nI (3 * t + 2)) 1 to had st = if c (x + 3 * t + 2) = -4 then X11_read_L85 cl ln lg kk n (nI q) y (nI x) (nI k) 0 x6 1 (nI (3 * t + 2 + 1)) 1 to had st else (X11_tells2 (c (x + 3 * t)) (c (x + 3 * t + 1)) (c (x + 3 * t + 2)) 1 st).bind fun u11 => if u11.1 = -1 then X11_read_L85 cl ln lg kk n (nI q) y (nI x) (nI k) 0 x6 1 (nI (3 * t + 2 + 1)) u11.2.1 to had u11.2.2 else X11_read_L85 cl ln lg kk n (nI q) y (nI x) (nI k) 0 (x6 + 1) 0 (nI (3 * t + 2 + 1)) u11.2.1 to had u11.2.2 := by
    intro n
    rw [e0]
    unfold X11_read_B85 X11_read_J160 X11_read_J231 X11_read_J236 X11_read_J250 X11_read_J253 lat
    rw [show (3 : Int32) * nI k = nI (3 * k) from nI_mul 3 k, if_neg (nI_ge (by omega) (by omega)), if_pos rfl, if_pos rfl, gd_in hq (by decide), nI_clamp (by omega), h1, if_neg h0, if_pos rfl, h2, e, ifb_t, if_pos rfl, mod3 (3 * t + 2) (by omega), show (3 * t + 2) % 3 = 2 by omega, if_pos (show nI 2 = 2 from rfl), ev]
    dsimp only
    rw [e2, e1, gd_in (by omega) (by decide), gd_in (by omega) (by decide), gd_in (by omega) (by decide), nI_clamp (by omega), nI_clamp (by omega), nI_clamp (by omega), hc _ (by omega), hc _ (by omega), hc _ (by omega), nI_1]
    simp only [show ((1 : Int32) = 0) = False from eq_false (by decide), if_false, if_true, Int32.add_zero]
  constructor
  · intro hg
    unfold g3 at hg
    rw [Bool.and_eq_true] at hg
    obtain ⟨r, st', a1, a2, a3, a4⟩ := tells_good ok hm.q (x := c (x + 3 * t)) (y := c (x + 3 * t + 1)) (z := c (x + 3 * t + 2)) (by rw [hg.1, hg.2]; simp)
    refine ⟨st', a3, a4, fun n => ?_⟩
    rw [key, if_neg (fun z => by rw [z] at hg; exact absurd hg.2 (by decide)), a1, bs]
    dsimp only
    rw [if_neg a2]
  · intro hg n
    rw [key]
    by_cases z : c (x + 3 * t + 2) = -4
    · rw [if_pos z]
    · unfold g3 at hg
      rw [if_neg z, tells_bad ok hm.q (by rw [decide_eq_false z, Bool.false_or]; exact hg), bs, awk_1]
      dsimp only
      rw [if_pos rfl]
/-- nothing more: a tear -/
theorem rd_tear (hq : q < 4) (hk : k ≤ 13) {x : Int32} {i : Nat} (hi : i < 3 * k) {w : Int32} (hw : ¬ w = 0) (h : (ln q = -4 ∧ w = 1) ∨ (¬ ln q = -4 ∧ ¬ ln q = y ∧ w = 3) ∨ (¬ ln q = -4 ∧ ln q = y ∧ X11_in (x.toInt64 + (nI i).toInt64) 0 (lg q - 1).toInt64 = 0 ∧ w = 2)) (n : Nat) : X11_read_L85 cl ln lg kk (n + 2) (nI q) y x (nI k) 0 x6 0 (nI i) aw to had st = kk w x6 0 aw to had st := by
  have e2 : ∀ j, X11_read_L85 cl ln lg kk (n + 1) (nI q) y x (nI k) w x6 0 j aw to had st = kk w x6 0 aw to had st := by
    intro j
    show X11_read_B85 _ _ _ _ _ _ _ _ _ _ _ _ _ _ _ _ _ = _
    unfold X11_read_B85
    split
    · rfl
    · rfl
  show X11_read_B85 _ _ _ _ _ _ _ _ _ _ _ _ _ _ _ _ _ = _
  unfold X11_read_B85 X11_read_J160 X11_read_J253 lat
  rw [show (3 : Int32) * nI k = nI (3 * k) from nI_mul 3 k, if_neg (nI_ge hi (by omega)), if_pos rfl, if_pos rfl, gd_in hq (by decide), nI_clamp (by omega)]
  rcases h with ⟨a, rfl⟩ | ⟨a, b, rfl⟩ | ⟨a, b, c, rfl⟩
  · rw [if_pos a, if_neg (by decide)]; exact e2 _
  · rw [if_neg a, if_neg b, if_neg (by decide)]; exact e2 _
  · rw [if_neg a, if_pos b, if_pos c, if_neg (by decide)]; exact e2 _
theorem rd_end (hk : k ≤ 13) {x x5 x7 : Int32} {i : Nat} (h : 3 * k ≤ i ∨ ¬ x7 = 0) (hi : i < 2 ^ 31) (h5 : x5 = 0) (n : Nat) : X11_read_L85 cl ln lg kk (n + 1) (nI q) y x (nI k) x5 x6 x7 (nI i) aw to had st = kk x5 x6 x7 aw to had st := by
  show X11_read_B85 _ _ _ _ _ _ _ _ _ _ _ _ _ _ _ _ _ = _
  unfold X11_read_B85
  rw [show (3 : Int32) * nI k = nI (3 * k) from nI_mul 3 k]
  by_cases h1 : 3 * k ≤ i
  · rw [if_pos (nI_le h1 hi)]
  · rw [if_neg (nI_ge (by omega) (by omega)), if_pos h5, if_neg (by rcases h with h | h; exact absurd h h1; exact h)]
end rd
theorem rd_all {kk : Int32 → Int32 → Int32 → Int32 → Int32 → (Nat → Int32) → (Nat → Int32) → Option (Int32 × Int32 × Int32 × (Nat → Int32) × (Nat → Int32))} {cl ln lg had : Nat → Int32} {q k L : Nat} {y to : Int32} (hq : q < 4) (hk : k ≤ 13) (hL : L ≤ 40) (h1 : ln q = y) (h0 : ¬ y = -4) (h2 : lg q = nI L) {x w : Nat} {c : Nat → Int32} (hc : ∀ i, i < 40 → cl (40 * q + i) = c i) (hw : w ≤ k) (hx : x + 3 * w ≤ L) {T : Tab} (ok : okT T) : ∀ (m t : Nat) (st : Nat → Int32), t + m = w → mst (tbs T c x t) st → (∀ i, t ≤ i → i < w → g3 T.1 c x i = true) → ∃ st', mst (tbs T c x w) st' ∧ (∀ j, 21 < j → st' j = st j) ∧ ∀ f, X11_read_L85 cl ln lg kk (f + 3 * m) (nI q) y (nI x) (nI k) 0 (nI t) 0 (nI (3 * t)) 1 to had st = X11_read_L85 cl ln lg kk f (nI q) y (nI x) (nI k) 0 (nI w) 0 (nI (3 * w)) 1 to had st'
  | 0, t, st, ht, hm, _ => by
    refine ⟨st, by rw [show w = t by omega]; exact hm, fun _ _ => rfl, fun f => ?_⟩
    rw [show w = t by omega]; rfl
  | m + 1, t, st, ht, hm, hg => by
    have g := hg t (by omega) (by omega)
    obtain ⟨st1, a1, a2, a3⟩ := (rd_third (kk := kk) (had := had) (x6 := nI t) (to := to) hq hk hL h1 h0 h2 hc (t := t) (x := x) (by omega) (by omega) (tbs_ok ok c x t) hm).1 (by rw [tbs_1]; exact g)
    obtain ⟨st2, d1, d2, d3⟩ := rd_all (kk := kk) (had := had) (to := to) hq hk hL h1 h0 h2 hc hw hx ok m (t + 1) st1 (by omega) a1 (fun i a b => hg i (by omega) b)
    refine ⟨st2, d1, fun j hj => by rw [d2 j hj, a2 j hj], fun f => ?_⟩
    rw [show f + 3 * (m + 1) = f + 3 * m + 1 + 1 + 1 by omega, rd_go hq hk hL h1 h0 h2 (by omega) (by omega) (by omega), rd_go hq hk hL h1 h0 h2 (by omega) (by omega) (by omega), show 3 * t + 1 + 1 = 3 * t + 2 by omega, a3, show 3 * t + 2 + 1 = 3 * (t + 1) by omega, nI_1]
    exact d3 f
theorem cls0 {n pl x x4 s0 lt : Int32} {c sq : Nat → Int32} (h : s0 = 0 → X6_wholeLengths x x4 n = 0) : X10_read_J51a n c pl x x4 s0 lt sq = X10_read_J165 x4 s0 0 lt sq := by
  have e : X10_read_J70a c pl x x4 s0 0 lt sq = X10_read_J165 x4 s0 0 lt sq := by
    unfold X10_read_J70a
    show X10_read_B75a _ _ _ _ _ _ _ _ _ _ _ = _
    unfold X10_read_B75a
    rw [if_pos (by decide)]
    unfold X10_read_J109a
    show X10_read_B112a _ _ _ _ _ _ _ _ _ _ = _
    unfold X10_read_B112a
    rw [if_pos (by decide)]
  unfold X10_read_J51a
  by_cases z : s0 = 0
  · rw [if_pos z, h z]; exact e
  · rw [if_neg z]; exact e
theorem q_read {T : Tab} {pl aw lt : Int32} {sq st : Nat → Int32} (ok : okT T) (hc : cT T pl sq) (hm : mQ T aw st) {s : Sht} (oks : okS s) {l n : Int32} {c cl ln lg had : Nat → Int32} {q : Nat} (hq : q < 4) (hcs : cS s l n c) (hms : mS s (ln q) (lg q) cl (40 * q)) {y : Int32} (hy : rng 0 2 y = true) (x : Int32) {k : Nat} (hk : k ≤ 13) : ∃ r t' sq' st' had' T', (if nI k = 0 then X10_read_J51a n c pl x (nI k) 0 lt sq else X10_read_J51a n c pl x (nI k) (X6_faultAs y l) lt sq) = some (r, t', sq') ∧ X11_read (nI q) y x (nI k) aw lt cl had ln lg st = some (r, 1, t', had', st') ∧ okT T' ∧ cT T' pl sq' ∧ mst T' st' ∧ ∀ j, 21 < j → st' j = st j := by
  have hL := oks.2
  have ha : ∀ j, 21 < j → awk aw st j = st j := fun j hj => awk_ne (by omega)
  have hy0 : ¬ y = -4 := fun z => by rcases rng2 hy with w | w | w <;> rw [w] at z <;> exact absurd z (by decide)
  have hy1 : ¬ y = -1 := fun z => by rcases rng2 hy with w | w | w <;> rw [w] at z <;> exact absurd z (by decide)
  have hq3 : rng 0 3 (nI q) = true := by rcases (show q = 0 ∨ q = 1 ∨ q = 2 ∨ q = 3 by omega) with rfl | rfl | rfl | rfl <;> decide
  have hk13 : X11_in (nI k).toInt64 0 13 = b2 true := by
    rw [show X11_in (nI k).toInt64 0 13 = b2 (rng 0 13 (nI k)) from in_g (lo := 0) (hi := 13) (by decide) (by decide) (nI k)]
    congr 1
    unfold rng
    rw [decide_eq_false (by rw [nI_0]; exact nI_pos (by omega)), decide_eq_true (nI_le hk (by decide))]; rfl
  obtain ⟨hd, e1, e2⟩ := had_L (X11_read_J82 cl ln lg) (nI q) y x (nI k) 0 0 0 1 lt (awk aw st) 21 0 1000 had (by omega) (by omega) (fun k h => absurd h (Nat.not_lt_zero k))
  rw [nI_0] at e1
  have eM : X11_read (nI q) y x (nI k) aw lt cl had ln lg st = X11_read_L85 cl ln lg X11_read_J259 1000 (nI q) y x (nI k) 0 0 0 0 1 lt hd (awk aw st) := by
    unfold X11_read lat
    rw [awake_m hm, in_03, in_02, hq3, hy, hk13]
    dsimp only
    rw [ifb_t, ifb_t, ifb_t, e1]
    rfl
  rw [eM]
  have j259 : ∀ (w x6 : Int32) (st1 : Nat → Int32), X11_read_J259 w x6 0 1 lt hd st1 = some (x6, 1, w, hd, st1) := fun w x6 st1 => by unfold X11_read_J259; rw [if_pos rfl]
  have eln := hms.1; have elg := hms.2.1
  by_cases k0 : k = 0
  · subst k0
    refine ⟨0, 0, sq, awk aw st, hd, T, ?_, ?_, ok, hc, hm.st, ha⟩
    · rw [if_pos (by decide), cls0 (fun _ => by
        rw [hcs.2.1, wl_c hL (by omega)]
        unfold wl
        split
        · rfl
        · split
          · rw [Nat.min_zero]; rfl
          · rfl)]
      rfl
    · have := rd_end (kk := X11_read_J259) (cl := cl) (ln := ln) (lg := lg) (had := hd) (st := awk aw st) (q := q) (y := y) (x6 := 0) (aw := 1) (to := lt) (k := 0) (by omega) (x := x) (x5 := 0) (x7 := 0) (i := 0) (Or.inl (by omega)) (by omega) rfl 999
      rw [nI_0] at this
      rw [nI_0, this, j259]
  rw [if_neg (nI_ne0 (by omega) (by omega))]
  have tear : ∀ w : Int32, ¬ w = 0 → ((ln q = -4 ∧ w = 1) ∨ (¬ ln q = -4 ∧ ¬ ln q = y ∧ w = 3) ∨ (¬ ln q = -4 ∧ ln q = y ∧ X11_in (x.toInt64 + (nI 0).toInt64) 0 (lg q - 1).toInt64 = 0 ∧ w = 2)) → X11_read_L85 cl ln lg X11_read_J259 1000 (nI q) y x (nI k) 0 0 0 0 1 lt hd (awk aw st) = some (0, 1, w, hd, awk aw st) := fun w hw h => by
    have := rd_tear (kk := X11_read_J259) (cl := cl) (ln := ln) (lg := lg) (had := hd) (st := awk aw st) (x6 := 0) (aw := 1) (to := lt) hq hk (x := x) (i := 0) (by omega) hw h 998
    rw [nI_0] at this
    rw [this, j259]
  rw [hcs.1]
  by_cases l1 : s.1 = -1
  · refine ⟨0, 1, sq, awk aw st, hd, T, ?_, tear 1 (by decide) (Or.inl ⟨by rw [eln, if_pos l1], rfl⟩), ok, hc, hm.st, ha⟩
    unfold X6_faultAs
    rw [if_pos l1, cls0 (fun z => absurd z (by decide))]; rfl
  rw [if_neg l1] at eln
  have l4 : ¬ ln q = -4 := by
    rw [eln]; intro z
    rcases oks.1 with w | w | w | w <;> rw [w] at z <;> exact absurd z (by decide)
  by_cases l2 : ¬ s.1 = y
  · refine ⟨0, 3, sq, awk aw st, hd, T, ?_, tear 3 (by decide) (Or.inr (Or.inl ⟨l4, by rw [eln]; exact l2, rfl⟩)), ok, hc, hm.st, ha⟩
    unfold X6_faultAs
    rw [if_neg l1, if_neg l2, cls0 (fun z => absurd z (by decide))]; rfl
  have l2 := Decidable.not_not.mp l2
  have ely : ln q = y := by rw [eln]; exact l2
  have ef : X6_faultAs y s.1 = 0 := by unfold X6_faultAs; rw [if_neg l1, if_pos l2]
  rw [ef]
  have none0 : wl s.2.1 x k = 0 → X10_read_J51a n c pl x (nI k) 0 lt sq = some (0, 2, sq) := fun h => by
    rw [cls0 (fun _ => by rw [hcs.2.1, wl_c hL hk, h]; rfl)]
    unfold X10_read_J165
    rw [if_pos rfl, if_neg (nI_nle (by omega) (by omega))]
  by_cases x0 : x < 0
  · refine ⟨0, 2, sq, awk aw st, hd, T, none0 (by unfold wl; rw [if_pos x0]), tear 2 (by decide) (Or.inr (Or.inr ⟨l4, ely, ?_, rfl⟩)), ok, hc, hm.st, ha⟩
    rw [show x.toInt64 + (nI 0).toInt64 = x.toInt64 by rw [show (nI 0).toInt64 = 0 from by decide, Int64.add_zero], elg, in_m0 (by omega)]
    unfold isP
    rw [decide_eq_true x0]; rfl
  obtain ⟨j, hj, rfl⟩ := nI_of x0
  by_cases xL : ¬ j ≤ s.2.1
  · refine ⟨0, 2, sq, awk aw st, hd, T, none0 (by unfold wl; rw [if_neg x0, if_neg (nI_ge (by omega) (by omega))]), tear 2 (by decide) (Or.inr (Or.inr ⟨l4, ely, ?_, rfl⟩)), ok, hc, hm.st, ha⟩
    rw [show (nI j).toInt64 + (nI 0).toInt64 = (nI j).toInt64 by rw [show (nI 0).toInt64 = 0 from by decide, Int64.add_zero], elg, in_m0 (by omega), isP_nI' (by omega) hj, decide_eq_false (by omega)]; rfl
  have xL := Decidable.not_not.mp xL
  have ew : wl s.2.1 (nI j) k = min ((s.2.1 - j) / 3) k := by unfold wl; rw [if_neg x0, if_pos (nI_le xL (by omega)), nI_clamp hj]
  generalize hw : min ((s.2.1 - j) / 3) k = w at ew
  have w1 : w ≤ k := by omega
  have w2 : j + 3 * w ≤ s.2.1 := by omega
  have eC : X10_read_J51a n c pl (nI j) (nI k) 0 lt sq = X10_read_L75a c pl (X10_read_J109a c) 1000 (nI j) (nI k) 0 (nI w) 0 lt sq := by
    unfold X10_read_J51a X10_read_J70a
    rw [if_pos rfl, hcs.2.1, wl_c hL hk, ew]
  rw [eC]
  have hp := hc.1
  rcases least (g3 T.1 s.2.2 j) w with hg | ⟨b, b1, b2, b3⟩
  · obtain ⟨sq', f1, f2⟩ := put_cL ok hcs.2.2 X10_read_J165 (x := j) (w := w) (by omega) (nI k) 0 lt hg w 0 1000 sq (by omega) (by omega) hc
    have f3 := chk_c hcs.2.2 T.1 (X10_read_J109a c) (x := j) (w := w) (by omega) (nI k) 0 lt sq w 0 1000 (by omega) (by omega) (fun i _ h => hg i h)
    rw [← hp, nI_0] at f3
    rw [nI_0] at f1
    obtain ⟨st', d1, d2, d3⟩ := rd_all (kk := X11_read_J259) (had := hd) (to := lt) (L := s.2.1) (x := j) hq hk hL ely hy0 elg hms.2.2 w1 w2 ok w 0 (awk aw st) (by omega) hm.st (fun i _ h => hg i h)
    have d4 := d3 (1000 - 3 * w)
    rw [show 1000 - 3 * w + 3 * w = 1000 by omega, nI_0] at d4
    refine ⟨nI w, if k ≤ w then 0 else 2, sq', st', hd, tbs T s.2.2 j w, ?_, ?_, tbs_ok ok _ _ _, f2, d1, fun i hi => by rw [d2 i hi, ha i hi]⟩
    · rw [f3]
      unfold X10_read_J109a
      rw [f1]
      unfold X10_read_J165
      rw [if_pos rfl]
      by_cases z : k ≤ w
      · rw [if_pos (nI_le z (by omega)), if_pos z]
      · rw [if_neg (nI_ge (by omega) (by omega)), if_neg z]
    · rw [d4]
      by_cases z : k ≤ w
      · rw [if_pos z, show 1000 - 3 * w = (999 - 3 * w) + 1 by omega, rd_end hk (Or.inl (by omega)) (by omega) rfl, j259]
      · rw [if_neg z]
        have out : X11_in ((nI j).toInt64 + (nI (s.2.1 - j)).toInt64) 0 (lg q - 1).toInt64 = 0 := by
          rw [show (nI j).toInt64 + (nI (s.2.1 - j)).toInt64 = (nI s.2.1).toInt64 by rw [nI_l (by omega), nI_l (by omega), nI_l (by omega), lN_add, show j + (s.2.1 - j) = s.2.1 by omega], elg, in_m0 (by omega), isP_nI' (by omega) (by omega), decide_eq_false (by omega)]; rfl
        have r3 : s.2.1 - j = 3 * w ∨ s.2.1 - j = 3 * w + 1 ∨ s.2.1 - j = 3 * w + 1 + 1 := by omega
        rcases r3 with r | r | r
        · rw [r] at out
          rw [show 1000 - 3 * w = (998 - 3 * w) + 2 by omega, rd_tear hq hk (by omega) (w := 2) (by decide) (Or.inr (Or.inr ⟨l4, ely, out, rfl⟩)), j259]
        · rw [r] at out
          rw [show 1000 - 3 * w = (997 - 3 * w) + 2 + 1 by omega, rd_go hq hk hL ely hy0 elg (by omega) (by omega) (by omega), rd_tear hq hk (by omega) (w := 2) (by decide) (Or.inr (Or.inr ⟨l4, ely, out, rfl⟩)), j259]
        · rw [r] at out
          rw [show 1000 - 3 * w = (996 - 3 * w) + 2 + 1 + 1 by omega, rd_go hq hk hL ely hy0 elg (by omega) (by omega) (by omega), rd_go hq hk hL ely hy0 elg (by omega) (by omega) (by omega), rd_tear hq hk (by omega) (w := 2) (by decide) (Or.inr (Or.inr ⟨l4, ely, out, rfl⟩)), j259]
  · have f3 := bad_c hcs.2.2 T.1 (X10_read_J109a c) (x := j) (w := w) (by omega) b1 b2 (nI k) 0 lt sq b 0 1000 (by omega) (by omega) (fun i _ h => b3 i h)
    rw [← hp, nI_0] at f3
    obtain ⟨st', d1, d2, d3⟩ := rd_all (kk := X11_read_J259) (had := hd) (to := lt) (L := s.2.1) (x := j) (w := b) hq hk hL ely hy0 elg hms.2.2 (by omega) (by omega) ok b 0 (awk aw st) (by omega) hm.st (fun i _ h => b3 i h)
    have d4 := d3 (1000 - 3 * b)
    rw [show 1000 - 3 * b + 3 * b = 1000 by omega, nI_0] at d4
    obtain ⟨st2, r1, r2, r3⟩ := res_L (nI b) 1 lt hd 21 0 1000 st' (by omega) (by omega) (fun k h => absurd h (Nat.not_lt_zero k))
    rw [nI_0] at r1
    have th := (rd_third (kk := X11_read_J259) (had := hd) (x6 := nI b) (to := lt) hq hk hL ely hy0 elg hms.2.2 (t := b) (x := j) (by omega) (by omega) (tbs_ok ok s.2.2 j b) d1).2 (by rw [tbs_1]; exact b2)
    refine ⟨-20 - nI b, lt, sq, st2, hd, T, f3, ?_, ok, hc, ⟨?_, fun i hi => ?_⟩, fun i hi => ?_⟩
    · rw [d4, show 1000 - 3 * b = (996 - 3 * b) + 1 + 1 + 1 + 1 by omega, rd_go hq hk hL ely hy0 elg (by omega) (by omega) (by omega), rd_go hq hk hL ely hy0 elg (by omega) (by omega) (by omega), show 3 * b + 1 + 1 = 3 * b + 2 by omega, th, rd_end hk (Or.inr (by decide)) (by omega) rfl]
      unfold X11_read_J259
      rw [if_neg (by decide)]
      exact r1
    · rw [r3 21 (by omega), d1.1, tbs_1]
    · rw [r2 i hi, e2 i hi]; exact hm.st.2 i hi
    · rw [r3 i (by omega), d2 i hi, ha i hi]
