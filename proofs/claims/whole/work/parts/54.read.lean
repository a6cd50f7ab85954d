/-! lengths read: the reference's side -/
theorem cT_any (T : Tab) : cT T (nI T.1) (fun i => nI (tv T.2 (i / 7) (i % 7))) := by
  refine ⟨rfl, fun a b ha hb => ?_⟩
  show nI (tv T.2 ((a * 7 + b) / 7) ((a * 7 + b) % 7)) = _
  rw [show (a * 7 + b) / 7 = a by omega, show (a * 7 + b) % 7 = b by omega]
theorem tells_bad {T : Tab} {aw : Int32} {st : Nat → Int32} (ok : okT T) (hm : mQ T aw st) {x y z : Int32} (h : (two T.1 x y && (decide (z = -4) || rng 1 9999 z)) = false) : X11_tells2 x y z aw st = some (-1, 1, awk aw st) := by
  unfold X11_tells2
  rw [areTwo_m ok hm, bs]
  dsimp only
  rw [in_sq]
  cases h1 : two T.1 x y with
  | false => rw [ifb_f]
  | true =>
    rw [h1] at h; simp at h
    rw [ifb_t, if_neg h.1, h.2, ifb_f]
theorem tells_good {T : Tab} {aw : Int32} {st : Nat → Int32} (ok : okT T) (hm : mQ T aw st) {x y z : Int32} (h : (two T.1 x y && (decide (z = -4) || rng 1 9999 z)) = true) : ∃ r st', X11_tells2 x y z aw st = some (r, 1, st') ∧ ¬ r = -1 ∧ mst (tl T x y z) st' ∧ ∀ k, 21 < k → st' k = st k := by
  obtain ⟨r, sq', st', h1, h2, h3, h4, h5, h6⟩ := q_tell ok (cT_any T) hm x y z
  exact ⟨r, st', h2, fun e => by have := (h6 e).1; rw [h] at this; exact absurd this (by decide), h4, h5⟩
theorem had_L (kk : Int32 → Int32 → Int32 → Int32 → Int32 → Int32 → Int32 → Int32 → Int32 → (Nat → Int32) → (Nat → Int32) → Option (Int32 × Int32 × Int32 × (Nat → Int32) × (Nat → Int32))) (a b c d e f g aw to : Int32) (st : Nat → Int32) : ∀ (m i n : Nat) (hd : Nat → Int32), i + m = 21 → m + 1 ≤ n → (∀ k, k < i → hd k = st k) → ∃ hd', X11_read_L55 kk n a b c d e f g (nI i) aw to hd st = kk a b c d e f g aw to hd' st ∧ ∀ k, k < 21 → hd' k = st k
  | 0, i, n + 1, hd, hi, _, h => by
    refine ⟨hd, ?_, by rw [show i = 21 by omega] at h; exact h⟩
    show X11_read_B55 _ _ _ _ _ _ _ _ _ _ _ _ _ _ = _
    unfold X11_read_B55
    rw [if_pos (show (21 : Int32) ≤ nI i from nI_le (a := 21) (by omega) (by omega))]
  | m + 1, i, n + 1, hd, hi, hn, h => by
    obtain ⟨hd', h1, h2⟩ := had_L kk a b c d e f g aw to st m (i + 1) n (upd hd i (st i)) (by omega) (by omega) (fun k hk => by
      unfold upd
      split
      · rename_i z; rw [z]
      · exact h k (by omega))
    refine ⟨hd', ?_, h2⟩
    show X11_read_B55 _ _ _ _ _ _ _ _ _ _ _ _ _ _ = _
    unfold X11_read_B55 lat
    rw [if_neg (show ¬ (21 : Int32) ≤ nI i from nI_ge (b := 21) (by omega) (by omega)), gd_in (by omega) (by decide), gd_in (by omega) (by decide), nI_clamp (by omega), nI_1]
    exact h1
theorem res_L (x6 aw to : Int32) (hd : Nat → Int32) : ∀ (m i n : Nat) (st : Nat → Int32), i + m = 21 → m + 1 ≤ n → (∀ k, k < i → st k = hd k) → ∃ st', X11_read_L267 n x6 (nI i) aw to hd st = some (-20 - x6, aw, to, hd, st') ∧ (∀ k, k < 21 → st' k = hd k) ∧ ∀ k, 21 ≤ k → st' k = st k
  | 0, i, n + 1, st, hi, _, h => by
    refine ⟨st, ?_, by rw [show i = 21 by omega] at h; exact h, fun _ _ => rfl⟩
    show X11_read_B267 _ _ _ _ _ _ _ = _
    unfold X11_read_B267
    rw [if_pos (show (21 : Int32) ≤ nI i from nI_le (a := 21) (by omega) (by omega))]
  | m + 1, i, n + 1, st, hi, hn, h => by
    obtain ⟨st', h1, h2, h3⟩ := res_L x6 aw to hd m (i + 1) n (upd st i (hd i)) (by omega) (by omega) (fun k hk => by
      unfold upd
      split
      · rename_i z; rw [z]
      · exact h k (by omega))
    refine ⟨st', ?_, h2, fun k hk => by rw [h3 k hk]; unfold upd; rw [if_neg (by omega)]⟩
    show X11_read_B267 _ _ _ _ _ _ _ = _
    unfold X11_read_B267 lat
    rw [if_neg (show ¬ (21 : Int32) ≤ nI i from nI_ge (b := 21) (by omega) (by omega)), gd_in (by omega) (by decide), gd_in (by omega) (by decide), nI_clamp (by omega), nI_1]
    exact h1
section rd
variable {kk : Int32 → Int32 → Int32 → Int32 → Int32 → (Nat → Int32) → (Nat → Int32) → Option (Int32 × Int32 × Int32 × (Nat → Int32) × (Nat → Int32))} {cl ln lg had st : Nat → Int32} {q k L : Nat} {y x6 aw to : Int32}
/-- a cell within, not the third -/
theorem rd_go (hq : q < 4) (hk : k ≤ 13) (hL : L ≤ 40) (h1 : ln q = y) (h0 : ¬ y = -4) (h2 : lg q = nI L) {x i : Nat} (hi : i < 3 * k) (hx : x + i < L) (h3 : ¬ i % 3 = 2) (n : Nat) : X11_read_L85 cl ln lg kk (n + 1) (nI q) y (nI x) (nI k) 0 x6 0 (nI i) aw to had st = X11_read_L85 cl ln lg kk n (nI q) y (nI x) (nI k) 0 x6 0 (nI (i + 1)) aw to had st := by
  show X11_read_B85 _ _ _ _ _ _ _ _ _ _ _ _ _ _ _ _ _ = _
  unfold X11_read_B85 X11_read_J160 X11_read_J253 lat
  rw [show (3 : Int32) * nI k = nI (3 * k) from nI_mul 3 k, if_neg (nI_ge hi (by omega)), if_pos rfl, if_pos rfl, gd_in hq (by decide), nI_clamp (by omega), h1, if_neg h0, if_pos rfl, h2]
  have e : X11_in ((nI x).toInt64 + (nI i).toInt64) 0 (nI L - 1).toInt64 = b2 true := by
    have : (nI x).toInt64 + (nI i).toInt64 = (nI (x + i)).toInt64 := by rw [nI_l (by omega), nI_l (by omega), nI_l (by omega), lN_add]
    rw [this, in_m0 (by omega), isP_nI (by omega) hx]
  rw [e, ifb_t, if_pos rfl, mod3 i (by omega), if_neg (show ¬ nI (i % 3) = 2 from fun z => h3 ((nI_eq (b := 2) (by omega) (by decide)).mp z)), nI_1]
/-- the third cell -/
theorem rd_third (hq : q < 4) (hk : k ≤ 13) (hL : L ≤ 40) (h1 : ln q = y) (h0 : ¬ y = -4) (h2 : lg q = nI L) {x t : Nat} {c : Nat → Int32} (hc : ∀ i, i < 40 → cl (40 * q + i) = c i) (ht : t < k) (hx : x + 3 * t + 2 < L) {T : Tab} (ok : okT T) (hm : mst T st) (n : Nat) : (g3 T.1 c x t = true → ∃ st', mst (tl T (c (x + 3 * t)) (c (x + 3 * t + 1)) (c (x + 3 * t + 2))) st' ∧ (∀ j, 21 < j → st' j = st j) ∧ X11_read_L85 cl ln lg kk (n + 1) (nI q) y (nI x) (nI k) 0 x6 0 (nI (3 * t + 2)) 1 to had st = X11_read_L85 cl ln lg kk n (nI q) y (nI x) (nI k) 0 (x6 + 1) 0 (nI (3 * t + 2 + 1)) 1 to had st') ∧ (g3 T.1 c x t = false → X11_read_L85 cl ln lg kk (n + 1) (nI q) y (nI x) (nI k) 0 x6 0 (nI (3 * t + 2)) 1 to had st = X11_read_L85 cl ln lg kk n (nI q) y (nI x) (nI k) 0 x6 1 (nI (3 * t + 2 + 1)) 1 to had st) := by
  have e0 : ∀ w, X11_read_L85 cl ln lg kk (n + 1) (nI q) y (nI x) (nI k) 0 x6 0 (nI (3 * t + 2)) 1 to had st = w ↔ X11_read_B85 cl ln lg (X11_read_L85 cl ln lg kk n) kk (nI q) y (nI x) (nI k) 0 x6 0 (nI (3 * t + 2)) 1 to had st = w := fun w => Iff.rfl
  have e : X11_in ((nI x).toInt64 + (nI (3 * t + 2)).toInt64) 0 (nI L - 1).toInt64 = b2 true := by
    have : (nI x).toInt64 + (nI (3 * t + 2)).toInt64 = (nI (x + (3 * t + 2))).toInt64 := by rw [nI_l (by omega), nI_l (by omega), nI_l (by omega), lN_add]
    rw [this, in_m0 (by omega), isP_nI (by omega) (by omega)]
  have ev : (40 : Int32) * nI q + nI x + nI (3 * t + 2) = nI (40 * q + (x + 3 * t + 2)) := by rw [show (40 : Int32) = nI 40 from rfl, nI_mul, nI_add, nI_add, show 40 * q + x + (3 * t + 2) = 40 * q + (x + 3 * t + 2) by omega]
  have e2 : nI (40 * q + (x + 3 * t + 2)) - 2 = nI (40 * q + (x + 3 * t)) := by rw [show (2 : Int32) = nI 2 from rfl, nI_sub' (by omega), show 40 * q + (x + 3 * t + 2) - 2 = 40 * q + (x + 3 * t) by omega]
  have e1 : nI (40 * q + (x + 3 * t + 2)) - 1 = nI (40 * q + (x + 3 * t + 1)) := by rw [show (1 : Int32) = nI 1 from rfl, nI_sub' (by omega), show 40 * q + (x + 3 * t + 2) - 1 = 40 * q + (x + 3 * t + 1) by omega]
  have key : X11_read_L85 cl ln lg kk (n + 1) (nI q) y (nI x) (nI k) 0 x6 0 (nI (3 * t + 2)) 1 to had st = if c (x + 3 * t + 2) = -4 then X11_read_L85 cl ln lg kk n (nI q) y (nI x) (nI k) 0 x6 1 (nI (3 * t + 2 + 1)) 1 to had st else (X11_tells2 (c (x + 3 * t)) (c (x + 3 * t + 1)) (c (x + 3 * t + 2)) 1 st).bind fun u11 => if u11.1 = -1 then X11_read_L85 cl ln lg kk n (nI q) y (nI x) (nI k) 0 x6 1 (nI (3 * t + 2 + 1)) u11.2.1 to had u11.2.2 else X11_read_L85 cl ln lg kk n (nI q) y (nI x) (nI k) 0 (x6 + 1) 0 (nI (3 * t + 2 + 1)) u11.2.1 to had u11.2.2 := by
    rw [e0]
    unfold X11_read_B85 X11_read_J160 X11_read_J231 X11_read_J236 X11_read_J250 X11_read_J253 lat
    rw [show (3 : Int32) * nI k = nI (3 * k) from nI_mul 3 k, if_neg (nI_ge (by omega) (by omega)), if_pos rfl, if_pos rfl, gd_in hq (by decide), nI_clamp (by omega), h1, if_neg h0, if_pos rfl, h2, e, ifb_t, if_pos rfl, mod3 (3 * t + 2) (by omega), show (3 * t + 2) % 3 = 2 by omega, if_pos (show nI 2 = 2 from rfl), ev]
    dsimp only
    rw [e2, e1, gd_in (by omega) (by decide), gd_in (by omega) (by decide), gd_in (by omega) (by decide), nI_clamp (by omega), nI_clamp (by omega), nI_clamp (by omega), hc _ (by omega), hc _ (by omega), hc _ (by omega), nI_1]
    simp only [show ((1 : Int32) = 0) = False from eq_false (by decide), if_false, if_true, Int32.add_zero]
  constructor
  · intro hg
    unfold g3 at hg
    rw [Bool.and_eq_true] at hg
    obtain ⟨r, st', a1, a2, a3, a4⟩ := tells_good ok hm.q (x := c (x + 3 * t)) (y := c (x + 3 * t + 1)) (z := c (x + 3 * t + 2)) (by rw [hg.1, hg.2]; simp)
    refine ⟨st', a3, a4, ?_⟩
    rw [key, if_neg (fun z => by rw [z] at hg; exact absurd hg.2 (by decide)), a1, bs]
    dsimp only
    rw [if_neg a2]
  · intro hg
    rw [key]
    by_cases z : c (x + 3 * t + 2) = -4
    · rw [if_pos z]
    · unfold g3 at hg
      rw [if_neg z, tells_bad ok hm.q (by rw [decide_eq_false z, Bool.false_or]; exact hg), bs, awk_1]
      dsimp only
      rw [if_pos rfl]
/-- nothing more: a tear -/
theorem rd_tear (hq : q < 4) (hk : k ≤ 13) {x : Int32} {i : Nat} (hi : i < 3 * k) {w : Int32} (hw : ¬ w = 0) (h : (ln q = -4 ∧ w = 1) ∨ (¬ ln q = -4 ∧ ¬ ln q = y ∧ w = 3) ∨ (¬ ln q = -4 ∧ ln q = y ∧ X11_in (x.toInt64 + (nI i).toInt64) 0 (lg q - 1).toInt64 = 0 ∧ w = 2)) (n : Nat) : X11_read_L85 cl ln lg kk (n + 2) (nI q) y x (nI k) 0 x6 0 (nI i) aw to had st = kk w x6 0 aw to had st := by
  have e2 : ∀ j, X11_read_L85 cl ln lg kk (n + 1) (nI q) y x (nI k) w x6 0 j aw to had st = kk w x6 0 aw to had st := by
    intro j
    show X11_read_B85 _ _ _ _ _ _ _ _ _ _ _ _ _ _ _ _ _ = _
    unfold X11_read_B85
    split
    · rfl
    · rfl
  show X11_read_B85 _ _ _ _ _ _ _ _ _ _ _ _ _ _ _ _ _ = _
  unfold X11_read_B85 X11_read_J160 X11_read_J253 lat
  rw [show (3 : Int32) * nI k = nI (3 * k) from nI_mul 3 k, if_neg (nI_ge hi (by omega)), if_pos rfl, if_pos rfl, gd_in hq (by decide), nI_clamp (by omega)]
  rcases h with ⟨a, rfl⟩ | ⟨a, b, rfl⟩ | ⟨a, b, c, rfl⟩
  · rw [if_pos a, if_neg (by decide)]; exact e2 _
  · rw [if_neg a, if_neg b, if_neg (by decide)]; exact e2 _
  · rw [if_neg a, if_pos b, if_pos c, if_neg (by decide)]; exact e2 _
theorem rd_end (hk : k ≤ 13) {x x5 x7 : Int32} {i : Nat} (h : 3 * k ≤ i ∨ ¬ x7 = 0) (hi : i < 2 ^ 31) (h5 : x5 = 0) (n : Nat) : X11_read_L85 cl ln lg kk (n + 1) (nI q) y x (nI k) x5 x6 x7 (nI i) aw to had st = kk x5 x6 x7 aw to had st := by
  show X11_read_B85 _ _ _ _ _ _ _ _ _ _ _ _ _ _ _ _ _ = _
  unfold X11_read_B85
  rw [show (3 : Int32) * nI k = nI (3 * k) from nI_mul 3 k]
  by_cases h1 : 3 * k ≤ i
  · rw [if_pos (nI_le h1 hi)]
  · rw [if_neg (nI_ge (by omega) (by omega)), if_pos h5, if_neg (by rcases h with h | h; exact absurd h h1; exact h)]
end rd
