/-! the base -/
abbrev BsR : Type := Option (Int32 × Int32 × Int32 × Int32 × Int32 × (Nat → Int32) × (Nat → Int32) × Int64 × Int64 × Int64)
abbrev BmR : Type := Option (Int32 × Int32 × Int32 × Int32 × Int32 × (Nat → Int32) × (Nat → Int32) × (Nat → Int32))
theorem base_a {T : Tab} {pl : Int32} {sq st : Nat → Int32} (ok : okT T) (hc : cT T pl sq) (hm : mst T st) (k143 : Int32 → Int32 → Int32 → Int32 → Int32 → Int32 → Int32 → Int32 → (Nat → Int32) → (Nat → Int32) → Int64 → Int64 → Int64 → BsR) (k121 : Int32 → Int32 → Int32 → Int32 → Int32 → Int32 → Int32 → Int32 → (Nat → Int32) → (Nat → Int32) → (Nat → Int32) → BmR) {b : Nat} (hb : b < T.1) : ∀ (m a f1 f2 : Nat) (x1 x2 x3 : Int32) (g1 g2 g3 g4 : Int32) (g5 g6 : Nat → Int32) (g7 g8 g9 : Int64) (gm dr la : Int32) (G S : Nat → Int32), a + m = b → m + 1 ≤ f1 → m + 1 ≤ f2 → ∃ x1' x2' x3' g1' g2' g3' g4' g5' g6' g7' g8' g9' gm' dr' la' G' S', X10_base_L25 pl sq k143 f1 x1 x2 x3 (nI b) (nI a) g1 g2 g3 g4 g5 g6 g7 g8 g9 = k143 x1' x2' x3' (nI b) g1' g2' g3' g4' g5' g6' g7' g8' g9' ∧ X11_base_L29 k121 f2 x1 x2 x3 (nI b) (nI a) gm 1 dr la G S st = k121 x1' x2' x3' (nI b) gm' 1 dr' la' G' S' st
  | 0, a, f1 + 1, f2 + 1, x1, x2, x3, g1, g2, g3, g4, g5, g6, g7, g8, g9, gm, dr, la, G, S, ha, _, _ => by
    have h7 := ok.2.1
    refine ⟨x1, x2, x3, g1, g2, g3, g4, g5, g6, g7, g8, g9, gm, dr, la, G, S, ?_, ?_⟩
    · show X10_base_B25 _ _ _ _ _ _ _ _ _ _ _ _ _ _ _ _ _ _ = _
      unfold X10_base_B25
      rw [if_pos (nI_le (by omega) (by omega))]
    · show X11_base_B29 _ _ _ _ _ _ _ _ _ _ _ _ _ _ = _
      unfold X11_base_B29
      rw [if_pos (nI_le (by omega) (by omega))]
  | m + 1, a, f1 + 1, f2 + 1, x1, x2, x3, g1, g2, g3, g4, g5, g6, g7, g8, g9, gm, dr, la, G, S, ha, hf1, hf2 => by
    have h7 := ok.2.1
    have a7 : a < 7 := by omega
    have b7 : b < 7 := by omega
    have rcc := base_a ok hc hm k143 k121 hb m (a + 1) f1 f2
    have e1 : X10_base_L25 pl sq k143 (f1 + 1) x1 x2 x3 (nI b) (nI a) g1 g2 g3 g4 g5 g6 g7 g8 g9 = X10_base_B25 pl sq (X10_base_L25 pl sq k143 f1) k143 x1 x2 x3 (nI b) (nI a) g1 g2 g3 g4 g5 g6 g7 g8 g9 := rfl
    have e2 : X11_base_L29 k121 (f2 + 1) x1 x2 x3 (nI b) (nI a) gm 1 dr la G S st = X11_base_B29 (X11_base_L29 k121 f2) k121 x1 x2 x3 (nI b) (nI a) gm 1 dr la G S st := rfl
    rw [e1, e2]
    unfold X10_base_B25 X11_base_B29
    rw [if_neg (nI_ge (by omega) (by omega)), if_neg (nI_ge (by omega) (by omega)), square_c hc a7 b7, sq_m ok hm.2 a7 b7]
    simp only [bs]
    cases ht : t2 T.2 a b with
    | false =>
      rw [if_pos ((eq0_c ok a b).mpr ht), if_pos ((le0_m ok a b).mpr ht)]
      unfold X10_base_J137 X11_base_J115 lat
      rw [nI_1]
      exact rcc x1 x2 x3 g1 g2 g3 g4 g5 g6 g7 g8 g9 gm dr la G S (by omega) (by omega) (by omega)
    | true =>
      rw [if_neg (fun q => by rw [(eq0_c ok a b).mp q] at ht; exact absurd ht (by decide)), if_neg (fun q => by rw [(le0_m ok a b).mp q] at ht; exact absurd ht (by decide))]
      obtain ⟨k, O, d, B', S', y1, y2, y3, G2, S2, i1, i2, i3, i4⟩ := one_dr ok hc hm (show a < T.1 by omega) hb g1 g2 g3 g4 g5 g6 g7 g8 g9 gm dr la G S
      have m8 := ms_128 (f := lai T.2 T.1 a b) h7
      rw [i1, i2]
      simp only [bs]
      rw [bits_m _ m8]
      simp only [bs]
      rw [ways_eq k (by omega) d]
      unfold X10_base_J106 X10_base_J110 X10_base_J111 X10_base_J137 X11_base_J115 X11_base_J101 X11_base_J115 lat
      dsimp only
      rw [pairOf_c a a7 b b7, pairOf_m a a7 b b7, nI_1]
      generalize X0_ways (nI k) (b2 d) = w
      generalize J6_bitCount_0f7a4 (nI (ms (lai T.2 T.1 a b) T.1)) = v
      have keep := rcc x1 x2 x3 (nI k) (nI (ms (lai T.2 T.1 a b) T.1)) O (b2 d) B' S' y1 y2 y3 (nI k) (b2 d) (nI (ms (lai T.2 T.1 a b) T.1)) G2 S2 (by omega) (by omega) (by omega)
      have take := rcc (nI (if a = b then a * (a - 1) / 2 + a else pr a b)) v w (nI k) (nI (ms (lai T.2 T.1 a b) T.1)) O (b2 d) B' S' y1 y2 y3 (nI k) (b2 d) (nI (ms (lai T.2 T.1 a b) T.1)) G2 S2 (by omega) (by omega) (by omega)
      have n10 : ¬ (1 : Int32) = 0 := by decide
      have p00 : (0 : Int32) = 0 := rfl
      by_cases c1 : w ≤ 0
      · simp only [if_pos c1, ite_self]
        exact keep
      · simp only [if_neg c1, if_neg n10, if_pos p00]
        by_cases c2 : x1 = -4
        · rw [if_pos c2, if_pos c2]; exact take
        rw [if_neg c2, if_neg c2]
        by_cases c3 : x2 < v
        · rw [if_pos c3, if_pos c3]; exact take
        rw [if_neg c3, if_neg c3]
        by_cases c4 : v = x2
        · rw [if_pos c4, if_pos c4]
          by_cases c5 : x3 ≤ w
          · rw [if_pos c5, if_pos c5]; exact keep
          · rw [if_neg c5, if_neg c5]; exact take
        · rw [if_neg c4, if_neg c4]; exact keep
theorem base_b {T : Tab} {pl : Int32} {sq st : Nat → Int32} (ok : okT T) (hc : cT T pl sq) (hm : mst T st) : ∀ (m b f1 f2 : Nat) (x1 x2 x3 : Int32) (g1 g2 g3 g4 : Int32) (g5 g6 : Nat → Int32) (g7 g8 g9 : Int64) (gm dr la : Int32) (G S : Nat → Int32), b + m = T.1 → m + 1 ≤ f1 → m + 1 ≤ f2 → ∃ r g1' g2' g3' g4' g5' g6' g7' g8' g9' gm' dr' la' G' S', X10_base_L10 pl sq f1 x1 x2 x3 (nI b) g1 g2 g3 g4 g5 g6 g7 g8 g9 = some (r, g1', g2', g3', g4', g5', g6', g7', g8', g9') ∧ X11_base_L14 f2 x1 x2 x3 (nI b) gm 1 dr la G S st = some (r, gm', 1, dr', la', G', S', st)
  | 0, b, f1 + 1, f2 + 1, x1, x2, x3, g1, g2, g3, g4, g5, g6, g7, g8, g9, gm, dr, la, G, S, hb, _, _ => by
    have h7 := ok.2.1
    refine ⟨x1, g1, g2, g3, g4, g5, g6, g7, g8, g9, gm, dr, la, G, S, ?_, ?_⟩
    · show X10_base_B10 _ _ _ _ _ _ _ _ _ _ _ _ _ _ _ _ = _
      unfold X10_base_B10
      rw [hc.1, if_pos (nI_le (by omega) (by omega))]
    · show X11_base_B14 _ _ _ _ _ _ _ _ _ _ _ _ = _
      unfold X11_base_B14
      rw [hm.1, if_pos (nI_le (by omega) (by omega))]
  | m + 1, b, f1 + 1, f2 + 1, x1, x2, x3, g1, g2, g3, g4, g5, g6, g7, g8, g9, gm, dr, la, G, S, hb, hf1, hf2 => by
    have h7 := ok.2.1
    obtain ⟨x1', x2', x3', g1', g2', g3', g4', g5', g6', g7', g8', g9', gm', dr', la', G', S', i1, i2⟩ := base_a ok hc hm (X10_base_J143 (X10_base_L10 pl sq f1)) (X11_base_J121 (X11_base_L14 f2)) (show b < T.1 by omega) b 0 1000 1000 x1 x2 x3 g1 g2 g3 g4 g5 g6 g7 g8 g9 gm dr la G S (by omega) (by omega) (by omega)
    have rcc := base_b ok hc hm m (b + 1) f1 f2 x1' x2' x3' g1' g2' g3' g4' g5' g6' g7' g8' g9' gm' dr' la' G' S' (by omega) (by omega) (by omega)
    have e1 : X10_base_L10 pl sq (f1 + 1) x1 x2 x3 (nI b) g1 g2 g3 g4 g5 g6 g7 g8 g9 = X10_base_B10 pl sq (X10_base_L10 pl sq f1) x1 x2 x3 (nI b) g1 g2 g3 g4 g5 g6 g7 g8 g9 := rfl
    have e2 : X11_base_L14 (f2 + 1) x1 x2 x3 (nI b) gm 1 dr la G S st = X11_base_B14 (X11_base_L14 f2) x1 x2 x3 (nI b) gm 1 dr la G S st := rfl
    rw [e1, e2]
    unfold X10_base_B10 X11_base_B14
    have c1 : ¬ pl ≤ nI b := by rw [hc.1]; exact nI_ge (by omega) (by omega)
    rw [if_neg c1, hm.1, if_neg (nI_ge (by omega) (by omega))]
    have i1' : X10_base_L25 pl sq (X10_base_J143 (X10_base_L10 pl sq f1)) 1000 x1 x2 x3 (nI b) 0 g1 g2 g3 g4 g5 g6 g7 g8 g9 = _ := i1
    have i2' : X11_base_L29 (X11_base_J121 (X11_base_L14 f2)) 1000 x1 x2 x3 (nI b) 0 gm 1 dr la G S st = _ := i2
    rw [i1', i2']
    unfold X10_base_J143 X11_base_J121 lat
    rw [nI_1]
    exact rcc
theorem q_base {T : Tab} {pl aw : Int32} {sq st : Nat → Int32} (ok : okT T) (hc : cT T pl sq) (hm : mQ T aw st) (g1 g2 g3 g4 : Int32) (g5 g6 : Nat → Int32) (g7 g8 g9 : Int64) (gm dr la : Int32) (G S : Nat → Int32) : ∃ u um, X10_base g1 g2 g3 g4 g5 g6 g7 g8 g9 pl sq = some u ∧ X11_base gm aw dr la G S st = some um ∧ u.1 = um.1 ∧ um.2.2.1 = 1 ∧ um.2.2.2.2.2.2.2 = awk aw st := by
  have h7 := ok.2.1
  have h2 := ok.1
  obtain ⟨r, g1', g2', g3', g4', g5', g6', g7', g8', g9', gm', dr', la', G', S', i1, i2⟩ := base_b ok hc hm.st (T.1 - 1) 1 1000 1000 (-4) 0 0 g1 g2 g3 g4 g5 g6 g7 g8 g9 gm dr la G S (by omega) (by omega) (by omega)
  have key : ∀ F : Int32 → Int32 → Int32 → Int32 → Int32 → Int32 → Int32 → Int32 → (Nat → Int32) → (Nat → Int32) → (Nat → Int32) → BmR, (lat (X11_awake aw st) fun u8 => F (-4) 0 0 1 gm u8.1 dr la G S u8.2) = F (-4) 0 0 1 gm 1 dr la G S (awk aw st) := by
    intro F
    rw [awake_m hm]
    rfl
  refine ⟨_, _, i1, (key (X11_base_L14 1000)).trans i2, rfl, rfl, rfl⟩
