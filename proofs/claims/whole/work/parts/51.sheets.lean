/-! the tape fed; sheets -/
def dn (i : Nat) : Int32 := 56 - 8 * nI i
theorem dn_n : ∀ i, i < 8 → dn i = nI (56 - 8 * i) := by decide +kernel
theorem dn_p : ∀ i, i < 8 → ¬ dn i < 0 := by decide +kernel
theorem dn_s : ∀ i, i < 8 → dn i + -8 = dn (i + 1) := by decide +kernel
def fb (x : Int64) (k : Nat) : Nat := ((x >>> ((nI (56 - 8 * k)).toInt64 &&& 63)).toInt32 &&& 255).toNatClampNeg
theorem fb_n (x : Int64) (k : Nat) : ((x >>> ((nI (56 - 8 * k)).toInt64 &&& 63)).toInt32 &&& 255) = nI (fb x k) ∧ fb x k < 256 := by
  unfold fb
  obtain ⟨j, h1, h2⟩ := b255 (x >>> ((nI (56 - 8 * k)).toInt64 &&& 63)).toInt32
  rw [h2, nI_clamp (by omega)]
  exact ⟨rfl, h1⟩
def fed (B : Tab) (x : Int64) (k : Nat) : Nat := if B.1 ≤ k then fb x (k - B.1) else B.2 k
theorem feed_cL {B : Tab} (x : Int64) (hB : B.1 ≤ 312) : ∀ (m i n : Nat) (g : Nat → Int32), i + m = 8 → m + 1 ≤ n → (∀ k, k < B.1 + i → g k = (nI (fed B x k)).toInt8.toInt32) → ∃ g', X9_add_L21 X9_add_J55 n x (nI i) (nI B.1) g = some (1, nI (B.1 + 8), g') ∧ ∀ k, k < B.1 + 8 → g' k = (nI (fed B x k)).toInt8.toInt32
  | 0, i, n + 1, g, hi, _, hg => by
    refine ⟨g, ?_, by rw [show i = 8 by omega] at hg; exact hg⟩
    show X9_add_B21 _ _ _ _ _ _ = _
    unfold X9_add_B21 X9_add_J55 lat
    rw [show (8 : Int32) = nI 8 from rfl, if_pos (nI_le (by omega) (by omega)), nI_add]
  | m + 1, i, n + 1, g, hi, hn, hg => by
    obtain ⟨g', h1, h2⟩ := feed_cL x hB m (i + 1) n (upd g (B.1 + i) ((nI (fb x i)).toInt8.toInt32)) (by omega) (by omega) (fun k hk => by
      unfold upd
      split
      · rename_i e; subst e; unfold fed; rw [if_pos (by omega), show B.1 + i - B.1 = i by omega]
      · exact hg k (by omega))
    refine ⟨g', ?_, h2⟩
    show X9_add_B21 _ _ _ _ _ _ = _
    unfold X9_add_B21 lat
    rw [if_neg (show ¬ (8 : Int32) ≤ nI i from nI_ge (b := 8) (by omega) (by omega)), nI_add, gd_in (by omega) (by decide), nI_clamp (by omega), byte_eq x i (by omega), (fb_n x i).1, nI_1]
    exact h1
theorem feed_mL {B : Tab} (x : Int64) (hB : B.1 ≤ 312) : ∀ (m i n : Nat) (g : Nat → Int32), i + m = 8 → m + 1 ≤ n → (∀ k, k < B.1 + i → g k = nI (fed B x k)) → ∃ g', X11_feed_L19 n x (dn i) (nI (B.1 + i)) g = some (nI (B.1 + 8), nI (B.1 + 8), g') ∧ ∀ k, k < B.1 + 8 → g' k = nI (fed B x k)
  | 0, i, n + 1, g, hi, _, hg => by
    refine ⟨g, ?_, by rw [show i = 8 by omega] at hg; exact hg⟩
    show X11_feed_B19 _ _ _ _ _ = _
    unfold X11_feed_B19
    rw [show i = 8 by omega, if_pos (by decide)]
  | m + 1, i, n + 1, g, hi, hn, hg => by
    obtain ⟨g', h1, h2⟩ := feed_mL x hB m (i + 1) n (upd g (B.1 + i) (nI (fb x i))) (by omega) (by omega) (fun k hk => by
      unfold upd
      split
      · rename_i e; subst e; unfold fed; rw [if_pos (by omega), show B.1 + i - B.1 = i by omega]
      · exact hg k (by omega))
    refine ⟨g', ?_, h2⟩
    show X11_feed_B19 _ _ _ _ _ = _
    unfold X11_feed_B19 lat
    rw [if_neg (dn_p i (by omega)), gd_in (by omega) (by decide), nI_clamp (by omega), dn_s i (by omega), dn_n i (by omega), (fb_n x i).1, nI_1]
    exact h1
theorem q_feed {B : Tab} {tl tp : Int32} {bs' g : Nat → Int32} (ok : okB B) (hc : cB B tl bs') (hm : tp = nI B.1 ∧ ∀ k, k < B.1 → g k = nI (B.2 k)) (x : Int64) : ∃ r tl' b' g' B', X10_feed x tl bs' = some (r, tl', b') ∧ X11_feed x tp g = some (r, tl', g') ∧ okB B' ∧ cB B' tl' b' ∧ (tl' = nI B'.1 ∧ ∀ k, k < B'.1 → g' k = nI (B'.2 k)) := by
  have h0 := ok.1
  unfold X10_feed X9_add X11_feed
  rw [hc.1, hm.1, if_neg (nI_pos (by omega)), show nI B.1 + 8 = nI (B.1 + 8) from nI_add B.1 8]
  by_cases h : B.1 ≤ 312
  · have hf : ∀ k, k < B.1 + 0 → fed B x k = B.2 k := fun k hk => by unfold fed; rw [if_neg (by omega)]
    obtain ⟨b', h1, h2⟩ := feed_cL x h 8 0 1000 bs' (by omega) (by omega) (fun k hk => by rw [hf k hk]; exact hc.2 k hk)
    obtain ⟨g', h3, h4⟩ := feed_mL x h 8 0 1000 g (by omega) (by omega) (fun k hk => by rw [hf k hk]; exact hm.2 k hk)
    rw [nI_0] at h1
    rw [Nat.add_zero] at h3
    rw [if_pos (show nI B.1 ≤ 312 from nI_le (b := 312) h (by decide)), if_pos (show nI (B.1 + 8) ≤ 320 from nI_le (b := 320) (by omega) (by decide)), h1, bs]
    refine ⟨nI (B.1 + 8), nI (B.1 + 8), b', g', (B.1 + 8, fed B x), ?_, h3, ⟨by show B.1 + 8 ≤ 320; omega, fun k => ?_⟩, ⟨rfl, h2⟩, rfl, h4⟩
    · rw [if_neg (show ¬ (1 : Int32) = 0 by decide)]
    · show fed B x k < 256
      unfold fed
      split
      · exact (fb_n x _).2
      · exact ok.2 k
  · rw [if_neg (show ¬ nI B.1 ≤ 312 from nI_ge (a := 312) (by omega) (by omega)), if_neg (show ¬ nI (B.1 + 8) ≤ 320 from nI_ge (a := 320) (by omega) (by omega)), bs, if_pos rfl]
    exact ⟨-3, nI B.1, bs', g, B, rfl, rfl, ok, ⟨rfl, hc.2⟩, rfl, hm.2⟩
theorem lt_rng {n : Nat} (hn : n + 1 < 2 ^ 31) (x : Int32) : (if x < 0 then (0 : Int32) else if nI (n + 1) ≤ x then 0 else 1) = b2 (rng 0 n x) := by
  unfold rng
  rw [nI_0]
  by_cases h : x < 0
  · rw [if_pos h, decide_eq_true h]; rfl
  · obtain ⟨j, hj, rfl⟩ := nI_of h
    rw [if_neg h, decide_eq_false h]
    by_cases q : j ≤ n
    · rw [if_neg (nI_ge (by omega) (by omega)), decide_eq_true (nI_le q (by omega))]; rfl
    · rw [if_pos (nI_le (by omega) (by omega)), decide_eq_false (nI_ge (by omega) (by omega))]; rfl
theorem isSheet_c (x : Int32) : X10_isSheet x = b2 (rng 0 3 x) := lt_rng (n := 3) (by decide) x
theorem isLane_c (x : Int32) : X10_isLane x = b2 (rng 0 2 x) := lt_rng (n := 2) (by decide) x
theorem in_03 (x : Int32) : X11_in x.toInt64 0 3 = b2 (rng 0 3 x) := in_g (lo := 0) (hi := 3) (by decide) (by decide) x
theorem in_02 (x : Int32) : X11_in x.toInt64 0 2 = b2 (rng 0 2 x) := in_g (lo := 0) (hi := 2) (by decide) (by decide) x
theorem in_m0 {n : Nat} (hn : n < 2 ^ 31) (x : Int32) : X11_in x.toInt64 0 (nI n - 1).toInt64 = b2 (isP n x) := by
  rcases Nat.eq_zero_or_pos n with rfl | h
  · have : isP 0 x = false := by
      unfold isP
      rw [nI_0]
      by_cases q : x < 0
      · rw [decide_eq_true q]; rfl
      · rw [decide_eq_false q, decide_eq_true (Int32.not_lt.mp q)]; rfl
    rw [this]
    unfold X11_in
    have e : (nI 0 - 1).toInt64 = -1 := by decide
    rw [e]
    by_cases q : x.toInt64 < 0
    · rw [if_pos q]; rfl
    · rw [if_neg q, if_pos]
      · rfl
      · rw [Int64.lt_iff_toInt_lt] at *
        have h0 : (0 : Int64).toInt = 0 := rfl
        have h1 : (-1 : Int64).toInt = -1 := rfl
        omega
  · exact in_m h hn x
abbrev Sht : Type := Int32 × Nat × (Nat → Int32)
def us (S : Nat → Sht) (k : Nat) (s : Sht) : Nat → Sht := fun q => if q = k then s else S q
theorem us_e (S : Nat → Sht) (k : Nat) (s : Sht) : us S k s k = s := if_pos rfl
theorem us_n {S : Nat → Sht} {k q : Nat} {s : Sht} (h : q ≠ k) : us S k s q = S q := if_neg h
def mSs (S : Nat → Sht) (ln lg cl : Nat → Int32) : Prop := ∀ q, q < 4 → mS (S q) (ln q) (lg q) cl (40 * q)
theorem rng2 {x : Int32} (h : rng 0 2 x = true) : x = 0 ∨ x = 1 ∨ x = 2 := by
  obtain ⟨j, h1, h2, rfl⟩ := rng_of (by decide) (by decide) h
  rcases (show j = 0 ∨ j = 1 ∨ j = 2 by omega) with rfl | rfl | rfl
  · exact Or.inl rfl
  · exact Or.inr (Or.inl rfl)
  · exact Or.inr (Or.inr rfl)
theorem sheet_m {S : Nat → Sht} {ln lg cl : Nat → Int32} (h : mSs S ln lg cl) {k j : Nat} (hk : k < 4) (hj : j ≤ 40) {y : Int32} (hy : rng 0 2 y = true) : ∃ cl' ln' lg', X11_sheet (nI k) y (nI j) cl ln lg = some (1, cl', ln', lg') ∧ mSs (us S k (y, j, fun _ => 0)) ln' lg' cl' := by
  refine ⟨fil cl (40 * k) 40, upd ln k y, upd lg k (nI j), ?_, fun q hq => ?_⟩
  · unfold X11_sheet lat
    have h3 : rng 0 3 (nI k) = true := by rcases (show k = 0 ∨ k = 1 ∨ k = 2 ∨ k = 3 by omega) with rfl | rfl | rfl | rfl <;> decide
    have h4 := sheet_L hk cl (upd ln k y) (upd lg k (nI j)) 40 0 1000 (by omega) (by omega)
    rw [fil_0, nI_0] at h4
    rw [in_03, in_02, h3, hy, ifb_t, ifb_t, if_pos (show nI j ≤ 40 from nI_le (b := 40) hj (by decide)), if_pos (nI_pos' (by omega)), gd_in hk (by decide), nI_clamp (by omega)]
    exact h4
  · by_cases e : q = k
    · subst e
      rw [us_e]
      refine ⟨?_, ?_, fun i hi => ?_⟩
      · show upd ln q y q = if y = -1 then -4 else y
        unfold upd; rw [if_pos rfl]
        rcases rng2 hy with rfl | rfl | rfl <;> decide
      · show upd lg q (nI j) q = nI j
        unfold upd; rw [if_pos rfl]
      · show fil cl (40 * q) 40 (40 * q + i) = 0
        unfold fil; rw [if_pos (by omega)]
    · rw [us_n e]
      have h0 := h q hq
      refine ⟨?_, ?_, fun i hi => ?_⟩
      · unfold upd; rw [if_neg e]; exact h0.1
      · unfold upd; rw [if_neg e]; exact h0.2.1
      · unfold fil; rw [if_neg (by omega)]; exact h0.2.2 i hi
/-- what is laid in a cell of a lane -/
def vl (l x : Int32) : Int32 := if l = 0 then x.toInt8.toInt32 else if l = 1 then x.toInt16.toInt32 else x
def ly (s : Sht) (i v : Int32) : Int32 × Sht := if s.1 = -1 then (1, s) else if isP s.2.1 i = true then (0, s.1, s.2.1, upd s.2.2 i.toNatClampNeg (vl s.1 v)) else (2, s)
theorem ly_ok {s : Sht} (ok : okS s) (i v : Int32) : okS (ly s i v).2 := by
  unfold ly
  split
  · exact ok
  · split
    · exact ⟨ok.1, ok.2⟩
    · exact ok
theorem write_c {s : Sht} {l n : Int32} {c : Nat → Int32} (ok : okS s) (h : cS s l n c) (i v : Int32) : ∃ c', X6_write i v l n c = some ((ly s i v).1, c') ∧ cS (ly s i v).2 l n c' := by
  have h40 := ok.2
  unfold X6_write lat ly
  rw [h.1, h.2.1]
  by_cases e : s.1 = -1
  · rw [if_pos e, if_pos e]; exact ⟨c, rfl, rfl, rfl, h.2.2⟩
  rw [if_neg e, if_neg e]
  cases p : isP s.2.1 i with
  | true =>
    obtain ⟨a, ha, rfl⟩ := isP_of (by omega) p
    rw [if_pos rfl, if_neg (nI_pos (by omega)), if_neg (nI_ge ha (by omega)), if_pos (show nI a < 40 from nI_lt (b := 40) (by omega) (by decide)), gd_in (by omega) (by decide), gd_in (by omega) (by decide), gd_in (by omega) (by decide), nI_clamp (by omega)]
    refine ⟨upd c a (vl s.1 v), ?_, rfl, rfl, fun j hj => ?_⟩
    · unfold vl
      split
      · rfl
      · split <;> rfl
    · show upd c a _ j = upd s.2.2 a _ j
      unfold upd
      split
      · rfl
      · exact h.2.2 j hj
  | false =>
    rw [if_neg (show ¬ false = true by decide)]
    refine ⟨c, ?_, rfl, rfl, h.2.2⟩
    unfold isP at p
    by_cases q : i < 0
    · rw [if_pos q]
    · rw [if_neg q, if_pos (by simp [q] at p; exact p)]
theorem lay_m {S : Nat → Sht} {ln lg cl : Nat → Int32} (h : mSs S ln lg cl) {k : Nat} (hk : k < 4) (ok : okS (S k)) (i v : Int32) : ∃ cl', X11_lay (nI k) i v cl ln lg = some (if (ly (S k) i v).1 = 0 then 1 else -10 - (ly (S k) i v).1, cl') ∧ mSs (us S k (ly (S k) i v).2) ln lg cl' := by
  have h40 := ok.2
  have h3 : rng 0 3 (nI k) = true := by rcases (show k = 0 ∨ k = 1 ∨ k = 2 ∨ k = 3 by omega) with rfl | rfl | rfl | rfl <;> decide
  have hid : us S k (S k) = S := by
    funext q; unfold us; split
    · rename_i e; rw [e]
    · rfl
  unfold X11_lay lat ly
  rw [in_03, h3, ifb_t, gd_in hk (by decide), nI_clamp (by omega), (h k hk).1, (h k hk).2.1, in_m0 (by omega), i8, i16]
  by_cases e : (S k).1 = -1
  · rw [if_pos e, if_pos e]; dsimp only; rw [if_pos rfl, if_neg (by decide), hid]; exact ⟨cl, rfl, h⟩
  rw [if_neg e, if_neg e, if_neg (show ¬ (S k).1 = -4 from fun z => by rcases ok.1 with w | w | w | w <;> rw [w] at z <;> exact absurd z (by decide))]
  cases p : isP (S k).2.1 i with
  | false =>
    rw [ifb_f, if_neg (show ¬ false = true by decide)]
    dsimp only
    rw [hid]
    exact ⟨cl, by rw [if_neg (by decide)]; rfl, h⟩
  | true =>
    obtain ⟨a, ha, rfl⟩ := isP_of (by omega) p
    rw [ifb_t, if_pos rfl, show (40 : Int32) = nI 40 from rfl, nI_mul, nI_add, gd_in (by omega) (by decide), gd_in (by omega) (by decide), gd_in (by omega) (by decide), nI_clamp (by omega), nI_clamp (by omega)]
    refine ⟨upd cl (40 * k + a) (vl (S k).1 v), ?_, fun q hq => ?_⟩
    · unfold vl
      dsimp only
      rw [if_pos rfl]
      split
      · rfl
      · split <;> rfl
    · by_cases e2 : q = k
      · subst e2
        rw [us_e]
        refine ⟨(h q hq).1, (h q hq).2.1, fun j hj => ?_⟩
        show upd cl (40 * q + a) _ (40 * q + j) = upd (S q).2.2 a _ j
        unfold upd
        by_cases e3 : j = a
        · rw [if_pos (by omega), if_pos e3]
        · rw [if_neg (by omega), if_neg e3]; exact (h q hq).2.2 j hj
      · rw [us_n e2]
        refine ⟨(h q hq).1, (h q hq).2.1, fun j hj => ?_⟩
        unfold upd
        rw [if_neg (by omega)]; exact (h q hq).2.2 j hj
