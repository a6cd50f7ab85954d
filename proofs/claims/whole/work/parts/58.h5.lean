/-! drawings, spare, base -/
theorem sm_rt7 {o : Nat → Bool} (g : Nat → Nat) {n : Nat} (hn : n ≤ 7) (h : ∀ p, o p = true → p < n) : sm (rt o g) 7 = sm (rt o g) n := by
  have key : ∀ k, n ≤ k → sm (rt o g) k = sm (rt o g) n := fun k => by
    induction k with
    | zero => intro hk; rw [show n = 0 by omega]
    | succ k ih =>
      intro hk
      rcases (show n = k + 1 ∨ n ≤ k by omega) with rfl | y
      · rfl
      · show sm (rt o g) k + rt o g k = _
        rw [ih y]
        have : rt o g k = 0 := by
          unfold rt
          cases z : o k with
          | false => rfl
          | true => have := h k z; omega
        omega
  exact key 7 hn
theorem sm_rtb (o : Nat → Bool) (g : Nat → Nat) : ∀ n, sm (rt o g) n ≤ n
  | 0 => Nat.le_refl 0
  | n + 1 => by
    have := sm_rtb o g n
    have r1 : rt o g n ≤ 1 := by unfold rt; split <;> omega
    show sm (rt o g) n + rt o g n ≤ n + 1
    omega
theorem both_dr {T T' : Tab} {pl : Int32} {sq st : Nat → Int32} (ok : okT T) (ok' : okT T') (hc : cT T pl sq) (hm : mst T' st) {a b lo : Nat} (ha : a < T.1) (hb : b < T.1) (hn : T'.1 = T.1) (ho : off T'.2 T.1 a b = off T.2 T.1 a b) (hl : lai T'.2 T.1 a b = lai T.2 T.1 a b) (hj : jn T'.2 T.1 a b 99 = jn T.2 T.1 a b lo) (hbd : ∀ p q, jn T.2 T.1 a b lo p q = true → bd T'.2 a b p q = bd T.2 a b p q) {x3 : Int32} (hlo : ∀ p, p < 7 → ∀ q, q < 7 → p ≠ q → (X10_pairOf (nI p) (nI q) = x3 ↔ pr p q = lo)) (g1 g2 g3 g4 : Int32) (g5 g6 : Nat → Int32) (g7 g8 g9 : Int64) (gm dr la : Int32) (G S : Nat → Int32) : ∃ k O d B' S' y1 y2 y3 G2 S2, X0_draw (nI a) (nI b) x3 g1 g2 g3 g4 g5 g6 g7 g8 g9 pl sq = some (nI k, nI (ms (lai T.2 T.1 a b) T.1), O, b2 d, B', S', y1, y2, y3) ∧ X11_layDrawings (nI a) (nI b) gm dr la G S st = some (nI k, b2 d, nI (ms (lai T.2 T.1 a b) T.1), G2, S2) ∧ k ≤ 7 ∧ (d = true → ∀ p, p < T.1 → S' p = S2 p) := by
  have h7 := ok.2.1
  obtain ⟨g, s, d, G2, S2, i1, i2, i3, i4, i5⟩ := layDraw_m ok' hm (a := a) (b := b) (by omega) (by omega) gm dr la G S
  rw [hn, ho, hl] at i1
  rw [hn, ho, hj] at i2 i4
  rw [hn] at i3
  rw [hn, hj] at i5
  have hg : GI (off T.2 T.1 a b) (jn T.2 T.1 a b lo) g := ⟨fun p hp => ⟨(i2.1 p hp).1, (i2.1 p hp).2.1, (i2.1 p hp).2.2.2.2.1⟩, i4⟩
  obtain ⟨c, d2, B, S1, y1, y2, y3, j1, j2, j3, j4, j5, j6⟩ := draw_c ok hc ha hb hlo hg g1 g2 g3 g4 g5 g6 g7 g8 g9
  obtain ⟨e1, e2⟩ := same_dr (fun p q => (bd_b T.2 a b p q).1) (fun p q h1 h2 => bd_off ok h1 h2) hbd i2 i4 j2 j4 j5 j6 i5
  rw [sm_rt7 (o := off T.2 T.1 a b) g h7 (fun p h => off_n h)] at j1
  subst e1
  refine ⟨_, _, d2, B, S1, y1, y2, y3, G2, S2, j1, i1, ?_, fun h p hp => ?_⟩
  · have := sm_rtb (off T.2 T.1 a b) g T.1; omega
  · rw [j3 p (by omega), i3 p hp, e2 h p]
theorem lo_99 : ∀ p, p < 7 → ∀ q, q < 7 → p ≠ q → (X10_pairOf (nI p) (nI q) = -1 ↔ pr p q = 99) := by decide +kernel
theorem one_dr {T : Tab} {pl : Int32} {sq st : Nat → Int32} (ok : okT T) (hc : cT T pl sq) (hm : mst T st) {a b : Nat} (ha : a < T.1) (hb : b < T.1) (g1 g2 g3 g4 : Int32) (g5 g6 : Nat → Int32) (g7 g8 g9 : Int64) (gm dr la : Int32) (G S : Nat → Int32) : ∃ k O d B' S' y1 y2 y3 G2 S2, X0_draw (nI a) (nI b) (-1) g1 g2 g3 g4 g5 g6 g7 g8 g9 pl sq = some (nI k, nI (ms (lai T.2 T.1 a b) T.1), O, b2 d, B', S', y1, y2, y3) ∧ X11_layDrawings (nI a) (nI b) gm dr la G S st = some (nI k, b2 d, nI (ms (lai T.2 T.1 a b) T.1), G2, S2) ∧ k ≤ 7 ∧ (d = true → ∀ p, p < T.1 → S' p = S2 p) :=
  both_dr ok ok hc hm ha hb rfl rfl rfl rfl (fun _ _ _ => rfl) lo_99 g1 g2 g3 g4 g5 g6 g7 g8 g9 gm dr la G S
theorem ways_eq : ∀ k, k < 8 → ∀ d : Bool, X11_drawingMany (nI k) (b2 d) = X0_ways (nI k) (b2 d) := by decide +kernel
theorem isP10 {n : Nat} (hn : n ≤ 7) (x : Int32) : isP n (x - 10) = rng 10 (9 + n) x := by
  cases h : rng 10 (9 + n) x with
  | true =>
    obtain ⟨j, j1, j2, rfl⟩ := rng_of (by decide) (by omega) h
    rw [show (10 : Int32) = nI 10 from rfl, nI_sub' j1]
    exact isP_nI (by omega) (by omega)
  | false =>
    cases h2 : isP n (x - 10) with
    | false => rfl
    | true =>
      obtain ⟨j, j1, j2⟩ := isP_of (by omega) h2
      have e : x = nI (j + 10) := by
        have : x = (x - 10) + 10 := by rw [Int32.sub_add_cancel]
        rw [this, j2, show (10 : Int32) = nI 10 from rfl, nI_add]
      rw [e] at h
      unfold rng at h
      rw [decide_eq_false (nI_nlt (by omega) (by omega)), decide_eq_true (nI_le (by omega) (by omega))] at h
      exact absurd h (by decide)
theorem dw3 : ∀ k, k < 8 → (if (0 : Int32) < nI k - 1 then nI k - 1 else 0) = (if nI k = 0 then 0 else nI k - 1) := by decide +kernel
theorem q_drawings {T : Tab} {pl aw : Int32} {sq st : Nat → Int32} (ok : okT T) (hc : cT T pl sq) (hm : mQ T aw st) (x y z : Int32) (g1 g2 g3 g4 : Int32) (g5 g6 : Nat → Int32) (g7 g8 g9 : Int64) (gm dr la : Int32) (G S : Nat → Int32) : ∃ u um, X10_drawings x y z g1 g2 g3 g4 g5 g6 g7 g8 g9 pl sq = some u ∧ X11_drawings x y z gm aw dr la G S st = some um ∧ u.1 = um.1 ∧ um.2.2.1 = 1 ∧ um.2.2.2.2.2.2.2 = awk aw st := by
  have h7 := ok.2.1
  have e9 : (9 + awk aw st 21).toInt64 = lN (9 + T.1) := by
    rw [hm.st.1, show (9 : Int32) = nI 9 from rfl, nI_add, nI_l (by omega)]
  have in10 : X11_in z.toInt64 10 (lN (9 + T.1)) = b2 (rng 10 (9 + T.1) z) := in_g (lo := 10) (hi := 9 + T.1) (by decide) (by omega) z
  have in3 : X11_in z.toInt64 0 3 = b2 (rng 0 3 z) := in_g (lo := 0) (hi := 3) (by decide) (by decide) z
  unfold X10_drawings X11_drawings lat
  dsimp only
  rw [hc.1, areTwo_c, isPlace_c, areTwo_m ok hm, bs, isP10 h7]
  dsimp only
  rw [e9, in10, in3]
  cases h : two T.1 x y with
  | false => exact ⟨_, _, rfl, rfl, rfl, rfl, rfl⟩
  | true =>
    rw [ifb_t, ifb_t]
    obtain ⟨a, b, ha, hb, hab, rfl, rfl⟩ := two_of (ok31 ok) h
    have core : (rng 0 3 z = true ∨ rng 10 (9 + T.1) z = true) → ∃ u um, X10_drawings_J41 (nI T.1) sq (nI a) (nI b) z g1 g2 g3 g4 g5 g6 g7 g8 g9 = some u ∧ X11_drawings_J45 (nI a) (nI b) z gm 1 dr la G S (awk aw st) = some um ∧ u.1 = um.1 ∧ um.2.2.1 = 1 ∧ um.2.2.2.2.2.2.2 = awk aw st := fun hz => by
      unfold X10_drawings_J41 X11_drawings_J45
      rw [square_c hc (ok7 ok ha) (ok7 ok hb), bs, sq_m ok hm.st.2 (ok7 ok ha) (ok7 ok hb), bs]
      cases ht : t2 T.2 a b with
      | false =>
        rw [if_pos ((eq0_c ok a b).mpr ht), if_pos ((eq0_m ok a b).mpr ht)]
        exact ⟨_, _, rfl, rfl, rfl, rfl, rfl⟩
      | true =>
        rw [if_neg (fun q => by rw [(eq0_c ok a b).mp q] at ht; exact absurd ht (by decide)), if_neg (fun q => by rw [(eq0_m ok a b).mp q] at ht; exact absurd ht (by decide))]
        obtain ⟨k, O, d, B', S', y1, y2, y3, G2, S2, i1, i2, i3, i4⟩ := one_dr ok hc hm.st ha hb g1 g2 g3 g4 g5 g6 g7 g8 g9 gm dr la G S
        rw [hc.1] at i1
        rw [i1, bs, i2, bs]
        dsimp only
        by_cases z0 : z = 0
        · rw [if_pos z0, if_pos z0]
          exact ⟨_, _, rfl, rfl, (ways_eq k (by omega) d).symm, rfl, rfl⟩
        rw [if_neg z0, if_neg z0]
        by_cases z1 : z = 1
        · rw [if_pos z1, if_pos z1]
          exact ⟨_, _, rfl, rfl, rfl, rfl, rfl⟩
        rw [if_neg z1, if_neg z1]
        by_cases z2 : z = 2
        · rw [if_pos z2, if_pos z2]
          exact ⟨_, _, rfl, rfl, rfl, rfl, rfl⟩
        rw [if_neg z2, if_neg z2]
        by_cases z3 : z = 3
        · rw [if_pos z3, if_pos z3]
          cases d with
          | false => rw [ifb_f, ifb_f]; exact ⟨_, _, rfl, rfl, rfl, rfl, rfl⟩
          | true =>
            rw [ifb_t, ifb_t, dw3 k (by omega)]
            by_cases w : nI k = 0
            · rw [if_pos w, if_pos w]; exact ⟨_, _, rfl, rfl, rfl, rfl, rfl⟩
            · rw [if_neg w, if_neg w]; exact ⟨_, _, rfl, rfl, rfl, rfl, rfl⟩
        rw [if_neg z3, if_neg z3]
        have hz2 : rng 10 (9 + T.1) z = true := by
          rcases hz with w | w
          · exfalso
            obtain ⟨j, j1, j2, rfl⟩ := rng_of (by decide) (by decide) w
            rcases (show j = 0 ∨ j = 1 ∨ j = 2 ∨ j = 3 by omega) with rfl | rfl | rfl | rfl
            · exact z0 rfl
            · exact z1 rfl
            · exact z2 rfl
            · exact z3 rfl
          · exact w
        obtain ⟨j, j1, j2, rfl⟩ := rng_of (by decide) (by omega) hz2
        rw [show (10 : Int32) = nI 10 from rfl, nI_sub' j1]
        have m8 := ms_128 (f := lai T.2 T.1 a b) h7
        cases d with
        | false => rw [ifb_f, ifb_f]; exact ⟨_, _, rfl, rfl, rfl, rfl, rfl⟩
        | true =>
          rw [ifb_t, ifb_t, isLaid_c m8 (by omega), bs, isLaid_m m8 (by omega)]
          cases (ms (lai T.2 T.1 a b) T.1).testBit (j - 10) with
          | false => rw [ifb_f, ifb_f]; exact ⟨_, _, rfl, rfl, rfl, rfl, rfl⟩
          | true =>
            rw [ifb_t, ifb_t]
            unfold X0_sideOf
            rw [if_neg (nI_pos (by omega)), if_neg (show ¬ (7 : Int32) ≤ nI (j - 10) from nI_ge (b := 7) (by omega) (by decide)), gd_in (by omega) (by decide), gd_in (by omega) (by decide), nI_clamp (by omega), bs]
            exact ⟨_, _, rfl, rfl, i4 rfl (j - 10) (by omega), rfl, rfl⟩
    have n3 : rng 0 3 z = (!(decide (z < 0)) && decide (z ≤ 3)) := rfl
    cases h10 : rng 10 (9 + T.1) z with
    | true =>
      rw [ifb_t, ifb_t]
      have := core (Or.inr h10)
      cases h3 : rng 0 3 z with
      | false => rw [ifb_f]; exact this
      | true => rw [ifb_t]; exact this
    | false =>
      rw [ifb_f, ifb_f]
      cases h3 : rng 0 3 z with
      | false =>
        rw [ifb_f]
        rw [h3] at n3
        refine ⟨(-1, g1, g2, g3, g4, g5, g6, g7, g8, g9), _, ?_, rfl, rfl, rfl, rfl⟩
        by_cases w : z < 0
        · rw [if_pos w]
        · rw [if_neg w, if_neg (fun w2 => by rw [decide_eq_false w, decide_eq_true w2] at n3; exact absurd n3 (by decide))]
      | true =>
        rw [ifb_t]
        rw [h3] at n3
        have n4 := n3.symm
        simp only [Bool.and_eq_true, Bool.not_eq_true', decide_eq_false_iff_not, decide_eq_true_eq] at n4
        rw [if_neg n4.1, if_pos n4.2]
        exact core (Or.inl h3)
-- a length left out
theorem tv_u0' {e : Nat → Nat} {k a b : Nat} (h : pr a b ≠ k) : tv (up e k 0) a b = tv e a b := by
  unfold tv
  split
  · rfl
  · exact if_neg h
theorem lai_p {e : Nat → Nat} {n a b p : Nat} (h : lai e n a b p = true) : p ≠ a ∧ p ≠ b := by
  unfold lai at h
  simp only [Bool.and_eq_true] at h
  refine ⟨fun z => ?_, fun z => ?_⟩
  · subst z; rw [t3_aa] at h; exact absurd h.2.1 (by decide)
  · subst z; rw [t3_bb] at h; exact absurd h.2.1 (by decide)
theorem out_q {T : Tab} (ok : okT T) {a b c d : Nat} (ha : a < T.1) (hb : b < T.1) (hab : a ≠ b) (hc : lai T.2 T.1 a b c = true) (hd : lai T.2 T.1 a b d = true) (hcd : c ≠ d) : (∀ p, p < 7 → tv (up T.2 (pr c d) 0) a p = tv T.2 a p ∧ tv (up T.2 (pr c d) 0) b p = tv T.2 b p) := by
  have h7 := ok.2.1
  have c1 := lai_p hc
  have d1 := lai_p hd
  have c7 := lai_n hc
  have d7 := lai_n hd
  intro p hp
  have key : ∀ x, x < 7 → x ≠ c → x ≠ d → tv (up T.2 (pr c d) 0) x p = tv T.2 x p := fun x hx xc xd => by
    by_cases z : x = p
    · subst z; rw [tv_self, tv_self]
    · refine tv_u0' (fun y => ?_)
      rcases pr_inj hx hp (show c < 7 by omega) (show d < 7 by omega) z hcd y with w | w
      · exact xc w.1.symm
      · exact xd w.2.symm
  exact ⟨key a (by omega) (fun z => c1.1 z.symm) (fun z => d1.1 z.symm), key b (by omega) (fun z => c1.2 z.symm) (fun z => d1.2 z.symm)⟩
theorem out_w {e e' : Nat → Nat} {a b : Nat} (hb : b < 7) (h : ∀ p, p < 7 → tv e' a p = tv e a p ∧ tv e' b p = tv e b p) {p : Nat} (hp : p < 7) : t3 e' a b p = t3 e a b p ∧ c3 e' a b p = c3 e a b p ∧ wZ e' a b p = wZ e a b p := by
  have e1 := (h b hb).1
  have e2 := h p hp
  refine ⟨?_, ?_, ?_⟩
  · unfold t3 t2; rw [e1, e2.1, e2.2]
  · unfold c3 w3 q6; rw [e1, e2.1, e2.2]
  · unfold wZ dZ zz; rw [e1, e2.1, e2.2]
theorem bd_cong {e e' : Nat → Nat} {a b p q : Nat} (h1 : tv e' a b = tv e a b) (h2 : tv e' a p = tv e a p) (h3 : tv e' b p = tv e b p) (h4 : tv e' a q = tv e a q) (h5 : tv e' b q = tv e b q) (h6 : tv e' p q = tv e p q) : bd e' a b p q = bd e a b p q := by
  have z1 : zz e' a b = zz e a b := by unfold zz; rw [h1]
  have z2 : zz e' a p = zz e a p := by unfold zz; rw [h2]
  have z3 : zz e' b p = zz e b p := by unfold zz; rw [h3]
  have z4 : zz e' a q = zz e a q := by unfold zz; rw [h4]
  have z5 : zz e' b q = zz e b q := by unfold zz; rw [h5]
  have z6 : zz e' p q = zz e p q := by unfold zz; rw [h6]
  have d1 : dZ e' a b p = dZ e a b p := by unfold dZ; rw [z1, z2, z3]
  have d2 : dZ e' a b q = dZ e a b q := by unfold dZ; rw [z1, z4, z5]
  have w1 : wZ e' a b p = wZ e a b p := by unfold wZ; rw [z1, z2, d1]
  have w2 : wZ e' a b q = wZ e a b q := by unfold wZ; rw [z1, z4, d2]
  have g1 : gZ e' a b p q = gZ e a b p q := by unfold gZ nZ; rw [z1, z2, z4, z6, d1, d2]
  have m1 : mZ e' p q a b = mZ e p q a b := by unfold mZ; rw [w1, w2]
  unfold bd
  rw [g1, m1]
theorem out_o {T : Tab} (ok : okT T) {a b c d : Nat} (hb : b < T.1) (hq : ∀ p, p < 7 → tv (up T.2 (pr c d) 0) a p = tv T.2 a p ∧ tv (up T.2 (pr c d) 0) b p = tv T.2 b p) : off (up T.2 (pr c d) 0) T.1 a b = off T.2 T.1 a b := by
  have h7 := ok.2.1
  have b7 : b < 7 := by omega
  funext p
  unfold off
  by_cases z : p < T.1
  · have := out_w b7 hq (p := p) (by omega)
    rw [this.1, this.2.2]
  · rw [decide_eq_false z, Bool.false_and, Bool.false_and]
theorem out_l {T : Tab} (ok : okT T) {a b c d : Nat} (hb : b < T.1) (hq : ∀ p, p < 7 → tv (up T.2 (pr c d) 0) a p = tv T.2 a p ∧ tv (up T.2 (pr c d) 0) b p = tv T.2 b p) : lai (up T.2 (pr c d) 0) T.1 a b = lai T.2 T.1 a b := by
  have h7 := ok.2.1
  have b7 : b < 7 := by omega
  funext p
  unfold lai
  by_cases z : p < T.1
  · have := out_w b7 hq (p := p) (by omega)
    rw [this.1, this.2.1]
  · rw [decide_eq_false z, Bool.false_and, Bool.false_and]
theorem out_j {T : Tab} (ok : okT T) {a b c d L : Nat} (hL : ∀ p q, p < 7 → q < 7 → p ≠ q → ¬ pr p q = L) (el : lai (up T.2 (pr c d) 0) T.1 a b = lai T.2 T.1 a b) (p q : Nat) : jn (up T.2 (pr c d) 0) T.1 a b L p q = jn T.2 T.1 a b (pr c d) p q := by
  have h7 := ok.2.1
  unfold jn
  rw [el]
  cases lp : lai T.2 T.1 a b p with
  | false => rw [Bool.false_and, Bool.and_false, Bool.false_and, Bool.and_false]
  | true =>
    cases lq : lai T.2 T.1 a b q with
    | false => rw [Bool.false_and, Bool.and_false, Bool.and_false, Bool.false_and, Bool.and_false, Bool.and_false]
    | true =>
      have p7 := lai_n lp
      have q7 := lai_n lq
      by_cases pq : p = q
      · subst pq
        have f1 : t2 (up T.2 (pr c d) 0) p p = false := by unfold t2; rw [tv_self]; rfl
        have f2 : t2 T.2 p p = false := by unfold t2; rw [tv_self]; rfl
        rw [f1, f2, Bool.false_and, Bool.false_and]
      · have n99 := hL p q (by omega) (by omega) pq
        by_cases z : pr p q = pr c d
        · have t0 : t2 (up T.2 (pr c d) 0) p q = false := by
            unfold t2 tv
            rw [if_neg pq, z, show up T.2 (pr c d) 0 (pr c d) = 0 from if_pos rfl]; rfl
          rw [t0, decide_eq_true z, Bool.false_and, Bool.not_true, Bool.and_false, Bool.and_false, Bool.and_false]
        · have t0 : t2 (up T.2 (pr c d) 0) p q = t2 T.2 p q := by unfold t2; rw [tv_u0' z]
          rw [t0, decide_eq_false z, decide_eq_false n99]
theorem out_b {T : Tab} (ok : okT T) {a b c d : Nat} (hb : b < T.1) (hq : ∀ p, p < 7 → tv (up T.2 (pr c d) 0) a p = tv T.2 a p ∧ tv (up T.2 (pr c d) 0) b p = tv T.2 b p) (p q : Nat) (hj : jn T.2 T.1 a b (pr c d) p q = true) : bd (up T.2 (pr c d) 0) a b p q = bd T.2 a b p q := by
  have h7 := ok.2.1
  have j2 := jn_ne hj
  have z : pr p q ≠ pr c d := by
    unfold jn at hj
    rw [Bool.and_eq_true, Bool.and_eq_true, Bool.and_eq_true] at hj
    have := hj.2.2.2
    intro y
    rw [decide_eq_true y] at this
    exact absurd this (by decide)
  have w1 := hq p (by omega)
  have w2 := hq q (by omega)
  exact bd_cong (hq b (by omega)).1 w1.1 w1.2 w2.1 w2.2 (tv_u0' z)
theorem out_all {T : Tab} (ok : okT T) {a b c d L : Nat} (hL : ∀ p q, p < 7 → q < 7 → p ≠ q → ¬ pr p q = L) (ha : a < T.1) (hb : b < T.1) (hab : a ≠ b) (hc : lai T.2 T.1 a b c = true) (hd : lai T.2 T.1 a b d = true) (hcd : c ≠ d) : off (up T.2 (pr c d) 0) T.1 a b = off T.2 T.1 a b ∧ lai (up T.2 (pr c d) 0) T.1 a b = lai T.2 T.1 a b ∧ jn (up T.2 (pr c d) 0) T.1 a b L = jn T.2 T.1 a b (pr c d) ∧ ∀ p q, jn T.2 T.1 a b (pr c d) p q = true → bd (up T.2 (pr c d) 0) a b p q = bd T.2 a b p q := by
  have hq := out_q ok ha hb hab hc hd hcd
  have el := out_l ok hb hq
  exact ⟨out_o ok hb hq, el, funext fun p => funext fun q => out_j ok hL el p q, out_b ok hb hq⟩
theorem L99 : ∀ p q, p < 7 → q < 7 → p ≠ q → ¬ pr p q = 99 := fun p q hp hq h z => by
  have := pr_lt p hp q hq h
  omega
theorem lo_c0 : ∀ c, c < 7 → ∀ d, d < 7 → c ≠ d → ∀ p, p < 7 → ∀ q, q < 7 → p ≠ q → (X10_pairOf (nI p) (nI q) = X10_pairOf (nI c) (nI d) ↔ pr p q = pr c d) := by
  intro c hc d hd hcd p hp q hq hpq
  rw [pairOf_c p hp q hq, pairOf_c c hc d hd, if_neg hpq, if_neg hcd]
  have h1 := pr_lt p hp q hq hpq
  have h2 := pr_lt c hc d hd hcd
  exact nI_eq (by omega) (by omega)
theorem q_spare {T : Tab} {pl aw : Int32} {sq st : Nat → Int32} (ok : okT T) (hc : cT T pl sq) (hm : mQ T aw st) (x y z t : Int32) (g1 g2 g3 g4 : Int32) (g5 g6 : Nat → Int32) (g7 g8 g9 : Int64) (gm dr la : Int32) (G S : Nat → Int32) : ∃ u um, X10_spare x y z t g1 g2 g3 g4 g5 g6 g7 g8 g9 pl sq = some u ∧ X11_spare x y z t gm aw dr la G S st = some um ∧ u.1 = um.1 ∧ um.2.2.1 = 1 ∧ um.2.2.2.2.2.2.2 = awk aw st := by
  have h7 := ok.2.1
  have hm1 := areTwo_m ok hm.st.q z t
  rw [awk_1] at hm1
  unfold X10_spare X11_spare X10_spare_J132 lat
  dsimp only
  rw [hc.1, areTwo_c, areTwo_c, areTwo_m ok hm, bs]
  dsimp only
  rw [hm1, bs]
  dsimp only
  cases h : two T.1 x y with
  | false => exact ⟨_, _, rfl, rfl, rfl, rfl, rfl⟩
  | true =>
    rw [ifb_t, ifb_t]
    obtain ⟨a, b, ha, hb, hab, rfl, rfl⟩ := two_of (ok31 ok) h
    cases h2 : two T.1 z t with
    | false => exact ⟨_, _, rfl, rfl, rfl, rfl, rfl⟩
    | true =>
      rw [ifb_t, ifb_t]
      obtain ⟨c, d, hcc, hd, hcd, rfl, rfl⟩ := two_of (ok31 ok) h2
      have c7 := ok7 ok hcc
      have d7 := ok7 ok hd
      rw [square_c hc (ok7 ok ha) (ok7 ok hb), bs, sq_m ok hm.st.2 (ok7 ok ha) (ok7 ok hb), bs, square_c hc c7 d7, sq_m ok hm.st.2 c7 d7]
      cases ht : t2 T.2 a b with
      | false =>
        rw [if_pos ((eq0_c ok a b).mpr ht), if_pos ((eq0_m ok a b).mpr ht)]
        exact ⟨_, _, rfl, rfl, rfl, rfl, rfl⟩
      | true =>
        rw [if_neg (fun q => by rw [(eq0_c ok a b).mp q] at ht; exact absurd ht (by decide)), if_neg (fun q => by rw [(eq0_m ok a b).mp q] at ht; exact absurd ht (by decide))]
        obtain ⟨k, O, dd, B', S', y1, y2, y3, G2, S2, i1, i2, i3, i4⟩ := one_dr ok hc hm.st ha hb g1 g2 g3 g4 g5 g6 g7 g8 g9 gm dr la G S
        have m8 := ms_128 (f := lai T.2 T.1 a b) h7
        rw [hc.1] at i1
        rw [i1, i2]
        simp only [bs]
        rw [isLaid_c m8 c7, isLaid_c m8 d7]
        simp only [bs]
        rw [isLaid_m m8 c7, isLaid_m m8 d7, lai_bit, lai_bit]
        cases lc : lai T.2 T.1 a b c with
        | false => rw [ifb_f, ifb_f]; exact ⟨_, _, rfl, rfl, rfl, rfl, rfl⟩
        | true =>
          rw [ifb_t, ifb_t]
          cases ld : lai T.2 T.1 a b d with
          | false => rw [ifb_f, ifb_f]; exact ⟨_, _, rfl, rfl, rfl, rfl, rfl⟩
          | true =>
            rw [ifb_t, ifb_t]
            cases ht2 : t2 T.2 c d with
            | false =>
              rw [if_pos ((eq0_c ok c d).mpr ht2), if_pos ((eq0_m ok c d).mpr ht2)]
              exact ⟨_, _, rfl, rfl, rfl, rfl, rfl⟩
            | true =>
              rw [if_neg (fun q => by rw [(eq0_c ok c d).mp q] at ht2; exact absurd ht2 (by decide)), if_neg (fun q => by rw [(eq0_m ok c d).mp q] at ht2; exact absurd ht2 (by decide))]
              obtain ⟨o1, o2, o3, o4⟩ := out_all ok L99 ha hb hab lc ld hcd
              have pl' := pr_lt c c7 d d7 hcd
              obtain ⟨k', O', d', B3, S3, w1, w2, w3', G4, S4, j1, j2, j3, j4⟩ := both_dr ok (okT_u0 ok (pr c d)) hc (mst_u0 hm.st (show pr c d < 21 by omega)) ha hb rfl o1 o2 o3 o4 (lo_c0 c c7 d d7 hcd) (nI k) (nI (ms (lai T.2 T.1 a b) T.1)) O (b2 dd) B' S' y1 y2 y3 (nI k) (b2 dd) (nI (ms (lai T.2 T.1 a b) T.1)) G2 S2
              rw [hc.1] at j1
              rw [j1, bs, pairOf_m c c7 d d7, if_neg hcd, gd_in (by omega) (by decide), nI_clamp (by omega), j2, bs, upd_id]
              dsimp only
              rw [ways_eq k (by omega) dd, ways_eq k' (by omega) d']
              by_cases w : X0_ways (nI k') (b2 d') = X0_ways (nI k) (b2 dd)
              · rw [if_pos w, if_pos w]; exact ⟨_, _, rfl, rfl, rfl, rfl, rfl⟩
              · rw [if_neg w, if_neg w]; exact ⟨_, _, rfl, rfl, rfl, rfl, rfl⟩
