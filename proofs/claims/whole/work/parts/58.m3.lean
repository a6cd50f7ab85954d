/-! maps -/
theorem sr_7 (T T2 : Tab) (ok : okT T) : (sr T.2 T2.2 T.1 T.1 0 id (0, id)).1 ≤ 1000000 := by
  have h7 := ok.2.1
  have h := (sr_g T.2 T2.2 h7 T.1 0 id (0, id)).2.1
  have hp7 : ∀ n, n < 8 → 7 ^ n ≤ 1000000 := by decide +kernel
  have := hp7 T.1 (by omega)
  exact Nat.le_trans h (by rw [show ((0, id) : Srs).1 = 0 from rfl, Nat.zero_add]; exact this)
theorem maps_1 {T T2 : Tab} {pl pl2 : Int32} {sq sq2 st : Nat → Int32} (ok : okT T) (ok2 : okT T2) (hc : cT T pl sq) (hc2 : cT T2 pl2 sq2) (hm : mst T st) {off : Nat} (ho : off + 21 < 96) (hm2 : mT T2 st off) (y : Int32) (hy : y = 0 ∨ rng 10 (9 + T.1) y = true) (g1 g2 : Int32) (g3 : Nat) (g4 : Int32) (A S : Nat → Int32) (ad : Nat) (fN nN : Nat → Int32) : ∃ u um, ((X3_compare (b2 (rng 10 (9 + T.1) y)) g1 g2 g3 g4 A pl sq S pl2 sq2 ad).bind fun u1 => if b2 (rng 10 (9 + T.1) y) = 0 then (some (u1.2.1, u1.1, u1.2.1, u1.2.2.1, u1.2.2.2.1, u1.2.2.2.2.1, u1.2.2.2.2.2)) else (if u1.2.1 ≤ (0 : Int32) then (some ((-4 : Int32), u1.1, u1.2.1, u1.2.2.1, u1.2.2.2.1, u1.2.2.2.2.1, u1.2.2.2.2.2)) else ((X3_nameOf (y - (10 : Int32)) u1.2.2.2.2.1).bind fun u2 => some (u2, u1.1, u1.2.1, u1.2.2.1, u1.2.2.2.1, u1.2.2.2.2.1, u1.2.2.2.2.2)))) = some u ∧ ((X11_layMaps (nI off) fN nN st).bind fun u2 => if y = (0 : Int32) then (some (u2.1, (1 : Int32), u2.2.1, u2.2.2, st)) else (if u2.1 = (0 : Int32) then (some ((-4 : Int32), (1 : Int32), u2.2.1, u2.2.2, st)) else (gd (y - (10 : Int32)) 7 <| some ((u2.2.1 (y - (10 : Int32)).toNatClampNeg), (1 : Int32), u2.2.1, u2.2.2, st)))) = some um ∧ u.1 = um.1 ∧ um.2.1 = 1 ∧ um.2.2.2.2 = st := by
  have h7 := ok.2.1
  have hs := sr_7 T T2 ok
  obtain ⟨x, A', S', i1, i2, i3⟩ := compare_c ok ok2 hc hc2 (rng 10 (9 + T.1) y) g1 g2 g3 g4 A S ad
  obtain ⟨B', N', j1, j2⟩ := layMaps_m ok ok2 hm ho hm2.1 hm2.2 fN nN
  rw [i1, bs]
  dsimp only
  by_cases z : T2.1 = T.1
  · obtain ⟨x1, x2⟩ := i2 z
    obtain ⟨y1, y2⟩ := j1 z
    rw [y1, bs]
    dsimp only
    subst x1
    generalize sr T.2 T2.2 T.1 T.1 0 id (0, id) = s at *
    cases hr : rng 10 (9 + T.1) y with
    | false =>
      rcases hy with rfl | hy
      · rw [ifb_f, if_pos rfl]
        exact ⟨_, _, rfl, rfl, rfl, rfl, rfl⟩
      · rw [hr] at hy; exact absurd hy (by decide)
    | true =>
      obtain ⟨j, a1, a2, rfl⟩ := rng_of (by decide) (by omega) hr
      rw [ifb_t, if_neg (nI_ne0 (by omega) (by omega)), show (10 : Int32) = nI 10 from rfl, nI_sub' a1]
      have em : gmo true s.1 = min s.1 1 := rfl
      by_cases w : s.1 = 0
      · rw [em, w, if_pos (show nI (min 0 1) ≤ 0 by decide), if_pos (show nI 0 = 0 from rfl)]
        exact ⟨_, _, rfl, rfl, rfl, rfl, rfl⟩
      · rw [em, show min s.1 1 = 1 by omega, if_neg (show ¬ nI 1 ≤ 0 by decide), if_neg (nI_ne0 (by omega) (by omega))]
        unfold X3_nameOf
        rw [if_neg (nI_pos (by omega)), if_neg (show ¬ (7 : Int32) ≤ nI (j - 10) from nI_ge (b := 7) (by omega) (by decide)), gd_in (by omega) (by decide), gd_in (by omega) (by decide), nI_clamp (by omega), bs]
        refine ⟨_, _, rfl, rfl, ?_, rfl, rfl⟩
        show A' (j - 10) = B' (j - 10)
        rw [x2 w (j - 10) (by omega), y2 w (j - 10) (by omega)]
  · have x1 := i3 z
    rw [j2 z, bs]
    dsimp only
    subst x1
    cases hr : rng 10 (9 + T.1) y with
    | false =>
      rcases hy with rfl | hy
      · rw [ifb_f, if_pos rfl]
        exact ⟨_, _, rfl, rfl, rfl, rfl, rfl⟩
      · rw [hr] at hy; exact absurd hy (by decide)
    | true =>
      obtain ⟨j, a1, a2, rfl⟩ := rng_of (by decide) (by omega) hr
      rw [ifb_t, if_neg (nI_ne0 (by omega) (by omega)), if_pos (show nI 0 ≤ 0 by decide), if_pos rfl]
      exact ⟨_, _, rfl, rfl, rfl, rfl, rfl⟩
theorem maps_m {T : Tab} {aw : Int32} {st : Nat → Int32} (hm : mQ T aw st) (h7 : T.1 ≤ 7) (x y : Int32) (fN kp nN : Nat → Int32) : X11_maps x y aw fN kp nN st = if b2 (rng 0 1 x) = 0 then some (-1, 1, fN, nN, awk aw st) else if y = 0 then X11_maps_J42 kp x y 1 fN nN (awk aw st) else if b2 (rng 10 (9 + T.1) y) = 0 then some (-1, 1, fN, nN, awk aw st) else X11_maps_J42 kp x y 1 fN nN (awk aw st) := by
  have e9 : (9 + awk aw st 21).toInt64 = lN (9 + T.1) := by
    rw [hm.st.1, show (9 : Int32) = nI 9 from rfl, nI_add, nI_l (by omega)]
  have in10 : X11_in y.toInt64 10 (lN (9 + T.1)) = b2 (rng 10 (9 + T.1) y) := in_g (lo := 10) (hi := 9 + T.1) (by decide) (by omega) y
  unfold X11_maps lat
  rw [awake_m hm, in_01]
  dsimp only
  rw [e9, in10]
theorem q_maps {T : Tab} {pl aw : Int32} {sq st : Nat → Int32} (ok : okT T) (hc : cT T pl sq) (hm : mQ T aw st) (x y : Int32) {b0 b1 : Bool} {T0 T1 : Tab} {k0 k1 p0 p1 : Int32} {s0 s1 kp : Nat → Int32} (e0 : k0 = if b0 = true then 1 else 0) (e1 : k1 = if b1 = true then 1 else 0) (f0 : kp 0 = if b0 = true then 1 else 0) (f1 : kp 1 = if b1 = true then 1 else 0) (h0 : b0 = true → okT T0 ∧ cT T0 p0 s0 ∧ mT T0 (awk aw st) 32) (h1 : b1 = true → okT T1 ∧ cT T1 p1 s1 ∧ mT T1 (awk aw st) 64) (g1 g2 : Int32) (g3 : Nat) (g4 : Int32) (A S fN nN : Nat → Int32) (a0 a1 : Nat) : ∃ u um, X10_maps x y k0 p0 s0 k1 p1 s1 g1 g2 g3 g4 A S pl sq a0 a1 = some u ∧ X11_maps x y aw fN kp nN st = some um ∧ u.1 = um.1 ∧ um.2.1 = 1 ∧ um.2.2.2.2 = awk aw st := by
  have h7 := ok.2.1
  rw [maps_m hm h7]
  unfold X10_maps lat
  dsimp only
  rw [isImage_c, show X8_isPlace (y - 10) pl = b2 (rng 10 (9 + T.1) y) by rw [hc.1, isPlace_c, isP10 h7]]
  cases hx : rng 0 1 x with
  | false => exact ⟨_, _, rfl, rfl, rfl, rfl, rfl⟩
  | true =>
    rw [ifb_t, ifb_t]
    have core : (y = 0 ∨ rng 10 (9 + T.1) y = true) → ∃ u um, X10_maps_J29 k0 p0 s0 k1 p1 s1 pl sq a0 a1 x y (b2 (rng 10 (9 + T.1) y)) g1 g2 g3 g4 A S = some u ∧ X11_maps_J42 kp x y 1 fN nN (awk aw st) = some um ∧ u.1 = um.1 ∧ um.2.1 = 1 ∧ um.2.2.2.2 = awk aw st := fun hy => by
      have h01 : x = nI 0 ∨ x = nI 1 := by
        obtain ⟨j, q1, q2, rfl⟩ := rng_of (by decide) (by decide) hx
        rcases (show j = 0 ∨ j = 1 by omega) with rfl | rfl
        · exact Or.inl rfl
        · exact Or.inr rfl
      unfold X10_maps_J29 X11_maps_J42
      rcases h01 with rfl | rfl
      · rw [if_pos (show nI 0 = 0 from rfl), gd_in (by decide) (by decide), nI_clamp (by decide), f0, e0]
        cases hb : b0 with
        | false =>
          rw [if_neg (show ¬ false = true by decide), if_pos rfl, if_pos rfl]
          exact ⟨_, _, rfl, rfl, rfl, rfl, rfl⟩
        | true =>
          obtain ⟨q1, q2, q3⟩ := h0 hb
          rw [if_pos rfl, if_neg (show ¬ (1 : Int32) = 0 by decide), if_neg (show ¬ (1 : Int32) = 0 by decide)]
          rw [show (32 : Int32) * (nI 0 + 1) = nI 32 by decide]
          exact maps_1 ok q1 hc q2 hm.st (by decide) q3 y hy g1 g2 g3 g4 A S a0 fN nN
      · rw [if_neg (show ¬ nI 1 = 0 by decide), if_pos (show nI 1 = 1 from rfl), gd_in (by decide) (by decide), nI_clamp (by decide), f1, e1]
        cases hb : b1 with
        | false =>
          rw [if_neg (show ¬ false = true by decide), if_pos rfl, if_pos rfl]
          exact ⟨_, _, rfl, rfl, rfl, rfl, rfl⟩
        | true =>
          obtain ⟨q1, q2, q3⟩ := h1 hb
          rw [if_pos rfl, if_neg (show ¬ (1 : Int32) = 0 by decide), if_neg (show ¬ (1 : Int32) = 0 by decide)]
          rw [show (32 : Int32) * (nI 1 + 1) = nI 64 by decide]
          exact maps_1 ok q1 hc q2 hm.st (by decide) q3 y hy g1 g2 g3 g4 A S a1 fN nN
    by_cases y0 : y = 0
    · have hr : rng 10 (9 + T.1) y = false := by
        rw [y0]; unfold rng; rw [decide_eq_true (show (0 : Int32) < nI 10 by decide)]; rfl
      have := core (Or.inl y0)
      rw [if_pos y0, if_pos y0]
      rw [hr] at this ⊢
      rw [ifb_f]
      exact this
    · rw [if_neg y0, if_neg y0]
      cases hr : rng 10 (9 + T.1) y with
      | false =>
        rw [ifb_f, ifb_f]
        exact ⟨_, _, rfl, rfl, rfl, rfl, rfl⟩
      | true =>
        have := core (Or.inr hr)
        rw [hr] at this
        rw [ifb_t, ifb_t]
        exact this
