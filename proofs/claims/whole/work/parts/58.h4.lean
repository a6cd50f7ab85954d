/-! drawings: groups found by the class; both hold alike -/
theorem fill7_L (g : Nat → Int32) : ∀ (m i n : Nat), i + m = 7 → m + 1 ≤ n → J7_fill_53178_7_L5 n 0 (nI i) 7 (fil g 0 i) = some (fil g 0 7)
  | 0, i, n + 1, hi, _ => by
    show J7_fill_53178_7_B5 _ _ _ _ _ = _
    unfold J7_fill_53178_7_B5
    rw [if_pos (show (7 : Int32) ≤ nI i from nI_le (a := 7) (by omega) (by omega)), show i = 7 by omega]
  | m + 1, i, n + 1, hi, hn => by
    have h1 := fill7_L g m (i + 1) n (by omega) (by omega)
    show J7_fill_53178_7_B5 _ _ _ _ _ = _
    unfold J7_fill_53178_7_B5 lat
    have h2 := fil_s g 0 i
    rw [Nat.zero_add] at h2
    rw [if_neg (show ¬ (7 : Int32) ≤ nI i from nI_ge (b := 7) (by omega) (by omega)), gd_in (by omega) (by decide), nI_clamp (by omega), h2, nI_1]
    exact h1
def GI (o : Nat → Bool) (J : Nat → Nat → Bool) (g : Nat → Nat) : Prop := (∀ p, o p = true → g p ≤ p ∧ o (g p) = true ∧ ∀ h, EI o J h → h p = h (g p)) ∧ ∀ p q, edg o J p q → g p = g q
theorem fg_L {o : Nat → Bool} {J : Nat → Nat → Bool} {R : Nat → Nat → Nat} {g : Nat → Nat} (hg : GI o J g) (oJ : ∀ p q, J p q = J q p) (oR : ∀ p q, 1 ≤ R p q ∧ R p q ≤ 4) {om : Nat} (m8 : om < 128) (ho : ∀ p, p < 7 → om.testBit p = o p) (o7 : ∀ p, o p = true → p < 7) {B : Nat → Int32} (hB : Bnd J R B) : ∀ (m p f : Nat) (c : Nat → Nat) (S : Nat → Int32), p + m = 7 → m + 1 ≤ f → CI o J R g p c → eS 7 c S → clo o J c → (∀ v, v < p → o v = true → c v ≠ 0) → (∀ v, v < p → o v = true → g v = v → c v = 1) → ∃ c' S', X0_findGroups_L15 (nI om) B f (nI p) (nI (sm (rt o g) p)) S = some (nI (sm (rt o g) 7), S') ∧ CI o J R g 7 c' ∧ eS 7 c' S' ∧ (∀ v, o v = true → c' v ≠ 0) ∧ (∀ v, o v = true → g v = v → c' v = 1)
  | 0, p, f + 1, c, S, hq, _, hC, hS, hcl, hv, hr => by
    have : p = 7 := by omega
    subst this
    refine ⟨c, S, ?_, hC, hS, fun v h => hv v (o7 v h) h, fun v h => hr v (o7 v h) h⟩
    show X0_findGroups_B15 _ _ _ _ _ _ = _
    unfold X0_findGroups_B15
    rw [if_pos (show (7 : Int32) ≤ nI 7 by decide)]
  | m + 1, p, f + 1, c, S, hq, hf, hC, hS, hcl, hv, hr => by
    have p7 : p < 7 := by omega
    have c2 := hC.2.1 p
    have ec : (nI (c p) = 0) ↔ c p = 0 := nI_eq (b := 0) (by omega) (by omega)
    have hC1 : CI o J R g (p + 1) c := ⟨hC.1, hC.2.1, fun v h => by have := hC.2.2.1 v h; omega, hC.2.2.2⟩
    have es : sm (rt o g) (p + 1) = sm (rt o g) p + rt o g p := rfl
    show ∃ c' S', X0_findGroups_B15 _ _ _ _ _ _ = _ ∧ _
    unfold X0_findGroups_B15 X0_findGroups_J62 lat
    dsimp only
    rw [if_neg (show ¬ (7 : Int32) ≤ nI p from nI_ge (b := 7) (by omega) (by decide)), hasBit_c m8 p7, ho p p7, gd_in (by omega) (by decide), nI_clamp (by omega), hS p p7, nI_1, nI_1]
    cases hop : o p with
    | false =>
      rw [ifb_f]
      have er : rt o g p = 0 := by unfold rt; rw [hop]; rfl
      have es0 : sm (rt o g) (p + 1) = sm (rt o g) p := by omega
      rw [← es0]
      exact fg_L hg oJ oR m8 ho o7 hB m (p + 1) f c S (by omega) (by omega) hC1 hS hcl (fun v h1 h2 => by
        rcases (show v = p ∨ v < p by omega) with rfl | y
        · rw [hop] at h2; exact absurd h2 (by decide)
        · exact hv v y h2) (fun v h1 h2 h3 => by
        rcases (show v = p ∨ v < p by omega) with rfl | y
        · rw [hop] at h2; exact absurd h2 (by decide)
        · exact hr v y h2 h3)
    | true =>
      rw [ifb_t]
      obtain ⟨g1, g2, g3⟩ := hg.1 p hop
      by_cases z : c p = 0
      · rw [if_pos (ec.mpr z)]
        have gp : g p = p := by
          rcases (show g p = p ∨ g p < p by omega) with y | y
          · exact y
          · exfalso
            have hE : EI o J (fun v => if c v = 0 then 0 else 1) := fun a b hab => by
              have q1 := hcl a b hab
              have q2 := hcl b a ⟨hab.2.1, hab.1, by rw [oJ]; exact hab.2.2⟩
              dsimp only
              by_cases w : c a = 0
              · by_cases w2 : c b = 0
                · rw [if_pos w, if_pos w2]
                · exact absurd w (q2 w2)
              · rw [if_neg w, if_neg (q1 w)]
            have := g3 _ hE
            rw [if_pos z, if_neg (hv (g p) y g2)] at this
            exact absurd this (by decide)
        have er : rt o g p = 1 := by unfold rt; rw [hop, decide_eq_true gp]; rfl
        rw [er] at es
        rw [← es]
        have hC2 : CI o J R g (p + 1) (up c p 1) := by
          refine ⟨fun v h => ?_, fun v => ?_, fun v h => ?_, fun w hw v h => ?_⟩
          · rw [show up c p 1 v = c v from if_neg (fun y => by rw [y, hop] at h; exact absurd h (by decide))]; exact hC.1 v h
          · show (if v = p then 1 else c v) ≤ 2
            split
            · omega
            · exact hC.2.1 v
          · by_cases y : v = p
            · rw [y]; omega
            · rw [show up c p 1 v = c v from if_neg y] at h; exact hC1.2.2.1 v h
          · by_cases y : v = p
            · subst y; rw [show up c v 1 v = 1 from if_pos rfl]; exact (hw.2 v hop gp).symm
            · rw [show up c p 1 v = c v from if_neg y] at h ⊢; exact hC.2.2.2 w hw v h
        have hS2 : eS 7 (up c p 1) (upd S p 1) := eS_up hS p 1
        have hn : (0 : Nat) + 1 ≤ nv (up c p 1) := by rw [nv_up p7 z (by decide)]; omega
        obtain ⟨c1, S1, i1, i2, i3, i4, i5⟩ := spr_t hg.2 oR m8 ho o7 hB 7 0 1000 (up c p 1) _ (by omega) (by omega) hC2 hS2 (Or.inr hn)
        have i1' : X0_spreadSides (nI om) B (upd S p 1) = some S1 := i1
        rw [i1', bs]
        have ex : ext c c1 := ext_t (ext_up z) i4
        have c1p : c1 p = 1 := by
          have : up c p 1 p = 1 := if_pos rfl
          rw [i4 p (by rw [this]; decide), this]
        exact fg_L hg oJ oR m8 ho o7 hB m (p + 1) f c1 S1 (by omega) (by omega) i2 i3 i5 (fun v h1 h2 => by
          rcases (show v = p ∨ v < p by omega) with rfl | y
          · rw [c1p]; decide
          · have := hv v y h2; rw [ex v this]; exact this) (fun v h1 h2 h3 => by
          rcases (show v = p ∨ v < p by omega) with rfl | y
          · exact c1p
          · have := hr v y h2 h3; rw [ex v (by rw [this]; decide)]; exact this)
      · rw [if_neg (fun y => z (ec.mp y))]
        have gp := hC.2.2.1 p z
        have er : rt o g p = 0 := by unfold rt; rw [hop, decide_eq_false (by omega)]; rfl
        have es0 : sm (rt o g) (p + 1) = sm (rt o g) p := by omega
        rw [← es0]
        exact fg_L hg oJ oR m8 ho o7 hB m (p + 1) f c S (by omega) (by omega) hC1 hS hcl (fun v h1 h2 => by
          rcases (show v = p ∨ v < p by omega) with rfl | y
          · exact z
          · exact hv v y h2) (fun v h1 h2 h3 => by
          rcases (show v = p ∨ v < p by omega) with rfl | y
          · omega
          · exact hr v y h2 h3)
theorem fil7 (g : Nat → Int32) : eS 7 (fun _ => 0) (fil g 0 7) := by
  intro p hp
  unfold fil
  rw [if_pos (by omega)]; rfl
theorem findGroups_c {o : Nat → Bool} {J : Nat → Nat → Bool} {R : Nat → Nat → Nat} {g : Nat → Nat} (hg : GI o J g) (oJ : ∀ p q, J p q = J q p) (oR : ∀ p q, 1 ≤ R p q ∧ R p q ≤ 4) {om : Nat} (m8 : om < 128) (ho : ∀ p, p < 7 → om.testBit p = o p) (o7 : ∀ p, o p = true → p < 7) {B : Nat → Int32} (hB : Bnd J R B) (gg : Int32) (S : Nat → Int32) : ∃ c' S', X0_findGroups gg (nI om) B S = some (nI (sm (rt o g) 7), S') ∧ CI o J R g 7 c' ∧ eS 7 c' S' ∧ (∀ v, o v = true → c' v ≠ 0) ∧ (∀ v, o v = true → g v = v → c' v = 1) := by
  obtain ⟨c', S', h1, h2⟩ := fg_L hg oJ oR m8 ho o7 hB 7 0 1000 (fun _ => 0) (fil S 0 7) (by omega) (by omega) ⟨fun v _ => rfl, fun v => Nat.zero_le 2, fun v h => absurd rfl h, fun w _ v h => absurd rfl h⟩ (fil7 S) (fun p q _ h => absurd rfl h) (fun v h => by omega) (fun v h => by omega)
  refine ⟨c', S', ?_, h2⟩
  unfold X0_findGroups J7_fill_53178_7
  have h3 := fill7_L S 7 0 1000 (by omega) (by omega)
  rw [fil_0, nI_0] at h3
  rw [h3, bs]
  exact h1
-- do all hold
theorem holds_c {J : Nat → Nat → Bool} {R : Nat → Nat → Nat} (oR : ∀ p q, 1 ≤ R p q ∧ R p q ≤ 4) {B : Nat → Int32} (hB : Bnd J R B) {c : Nat → Nat} (c2 : ∀ v, c v ≤ 2) {S : Nat → Int32} (hS : eS 7 c S) {p q : Nat} (hp : p < 7) (hq : q < 7) : X0_holds (nI p) (nI q) B S = some (b2 (!(J p q) || hol (R p q) (c p) (c q))) := by
  have ei : nI p * 7 + nI q = nI (p * 7 + q) := by
    rw [show nI p * 7 = nI (p * 7) from nI_mul p 7, nI_add]
  have r := oR p q
  have a1 := c2 p
  have a2 := c2 q
  have es : (nI (c p) = nI (c q)) ↔ c p = c q := nI_eq (by omega) (by omega)
  have e1 : (nI (R p q) = 1) ↔ R p q = 1 := nI_eq (b := 1) (by omega) (by omega)
  have e2 : (nI (R p q) = 2) ↔ R p q = 2 := nI_eq (b := 2) (by omega) (by omega)
  have e3 : (nI (R p q) = 3) ↔ R p q = 3 := nI_eq (b := 3) (by omega) (by omega)
  unfold X0_holds hol
  rw [ei, gd_in (by omega) (by decide), gd_in (by omega) (by decide), gd_in (by omega) (by decide), gd_in (by omega) (by decide), gd_in (by omega) (by decide), nI_clamp (by omega), nI_clamp (by omega), nI_clamp (by omega), hB p q hp hq, hS p hp, hS q hq]
  cases hj : J p q with
  | false => rw [if_neg (show ¬ false = true by decide)]; rfl
  | true =>
    rw [if_pos rfl]
    simp only [e1, e2, e3, es]
    by_cases y1 : R p q = 1
    · simp [y1, b2]
    by_cases y2 : R p q = 2
    · by_cases x : c p = c q <;> simp [y2, x, b2]
    by_cases y3 : R p q = 3
    · by_cases x : c p = c q <;> simp [y3, x, b2]
    simp [y1, y2, y3, b2]
theorem st_p {J : Nat → Nat → Bool} {R : Nat → Nat → Nat} (oR : ∀ p q, 1 ≤ R p q ∧ R p q ≤ 4) {B : Nat → Int32} (hB : Bnd J R B) {c : Nat → Nat} (c2 : ∀ v, c v ≤ 2) {S : Nat → Int32} (hS : eS 7 c S) (k182 : Int32 → Int32 → Int32 → Int32 → Int32 → (Nat → Int32) → (Nat → Int32) → Int64 → Int64 → Int64 → DrR) (gg gl go : Int32) (y1 y2 y3 : Int64) {q : Nat} (hq : q < 7) : ∀ (m p f : Nat) (d : Bool), p + m = q → m + 1 ≤ f → ∃ d', X0_draw_L142 k182 f (nI q) (nI p) gg gl go (b2 d) B S y1 y2 y3 = k182 (nI q) gg gl go (b2 d') B S y1 y2 y3 ∧ (d' = true ↔ d = true ∧ ∀ p', p ≤ p' → p' < q → J p' q = true → hol (R p' q) (c p') (c q) = true)
  | 0, p, f + 1, d, hp, _ => by
    refine ⟨d, ?_, fun h => ⟨h, fun q' h1 h2 => by omega⟩, fun h => h.1⟩
    show X0_draw_B142 _ _ _ _ _ _ _ _ _ _ _ _ _ = _
    unfold X0_draw_B142
    rw [if_pos (nI_le (by omega) (by omega))]
  | m + 1, p, f + 1, d, hp, hf => by
    have e1 : X0_draw_L142 k182 (f + 1) (nI q) (nI p) gg gl go (b2 d) B S y1 y2 y3 = X0_draw_L142 k182 f (nI q) (nI (p + 1)) gg gl go (b2 (d && (!(J p q) || hol (R p q) (c p) (c q)))) B S y1 y2 y3 := by
      show X0_draw_B142 _ _ _ _ _ _ _ _ _ _ _ _ _ = _
      unfold X0_draw_B142 X0_draw_J172 X0_draw_J173 lat
      rw [if_neg (nI_ge (by omega) (by omega)), holds_c oR hB c2 hS (show p < 7 by omega) hq, bs, nI_1]
      cases d with
      | false => rw [ifb_f, Bool.false_and]; rfl
      | true =>
        rw [ifb_t, Bool.true_and]
        cases (!(J p q) || hol (R p q) (c p) (c q)) with
        | false => rw [ifb_f]; rfl
        | true => rw [ifb_t]; rfl
    obtain ⟨d', i1, i2⟩ := st_p oR hB c2 hS k182 gg gl go y1 y2 y3 hq m (p + 1) f (d && (!(J p q) || hol (R p q) (c p) (c q))) (by omega) (by omega)
    refine ⟨d', by rw [e1]; exact i1, i2.trans ⟨fun h => ?_, fun h => ?_⟩⟩
    · have h0 := h.1
      rw [Bool.and_eq_true, Bool.or_eq_true] at h0
      refine ⟨h0.1, fun p' h1 h2 h3 => ?_⟩
      rcases (show p' = p ∨ p + 1 ≤ p' by omega) with rfl | y
      · rcases h0.2 with w | w
        · rw [h3] at w; exact absurd w (by decide)
        · exact w
      · exact h.2 p' y h2 h3
    · refine ⟨?_, fun p' h1 h2 h3 => h.2 p' (by omega) h2 h3⟩
      rw [h.1, Bool.true_and]
      cases hj : J p q with
      | false => rfl
      | true => rw [h.2 p (Nat.le_refl p) (by omega) hj]; rfl
theorem st_q {J : Nat → Nat → Bool} {R : Nat → Nat → Nat} (oR : ∀ p q, 1 ≤ R p q ∧ R p q ≤ 4) {B : Nat → Int32} (hB : Bnd J R B) {c : Nat → Nat} (c2 : ∀ v, c v ≤ 2) {S : Nat → Int32} (hS : eS 7 c S) (gg gl go : Int32) (y1 y2 y3 : Int64) : ∀ (m q f : Nat) (d : Bool), q + m = 7 → m + 1 ≤ f → ∃ d', X0_draw_L132 f (nI q) gg gl go (b2 d) B S y1 y2 y3 = some (gg, gl, go, b2 d', B, S, y1, y2, y3) ∧ (d' = true ↔ d = true ∧ ∀ p' q', q ≤ q' → q' < 7 → p' < q' → J p' q' = true → hol (R p' q') (c p') (c q') = true)
  | 0, q, f + 1, d, hp, _ => by
    refine ⟨d, ?_, fun h => ⟨h, fun p' q' h1 h2 => by omega⟩, fun h => h.1⟩
    show X0_draw_B132 _ _ _ _ _ _ _ _ _ _ _ = _
    unfold X0_draw_B132
    rw [if_pos (show (7 : Int32) ≤ nI q from nI_le (a := 7) (by omega) (by omega))]
  | m + 1, q, f + 1, d, hp, hf => by
    obtain ⟨d1, i1, i2⟩ := st_p oR hB c2 hS (X0_draw_J182 (X0_draw_L132 f)) gg gl go y1 y2 y3 (show q < 7 by omega) q 0 1000 d (by omega) (by omega)
    obtain ⟨d', j1, j2⟩ := st_q oR hB c2 hS gg gl go y1 y2 y3 m (q + 1) f d1 (by omega) (by omega)
    refine ⟨d', ?_, j2.trans ⟨fun h => ?_, fun h => ?_⟩⟩
    · rw [← j1]
      show X0_draw_B132 _ _ _ _ _ _ _ _ _ _ _ = _
      unfold X0_draw_B132
      rw [if_neg (show ¬ (7 : Int32) ≤ nI q from nI_ge (b := 7) (by omega) (by decide))]
      have i1' : X0_draw_L142 (X0_draw_J182 (X0_draw_L132 f)) 1000 (nI q) 0 gg gl go (b2 d) B S y1 y2 y3 = _ := i1
      rw [i1']
      unfold X0_draw_J182 lat
      rw [nI_1]
    · have h0 := i2.mp h.1
      refine ⟨h0.1, fun p' q' h1 h2 h3 h4 => ?_⟩
      rcases (show q' = q ∨ q + 1 ≤ q' by omega) with rfl | y
      · exact h0.2 p' (Nat.zero_le _) h3 h4
      · exact h.2 p' q' y h2 h3 h4
    · exact ⟨i2.mpr ⟨h.1, fun p' _ h2 h3 => h.2 p' q (Nat.le_refl q) (by omega) h2 h3⟩, fun p' q' h1 h2 h3 h4 => h.2 p' q' (by omega) h2 h3 h4⟩
/-- the class's draw, over any labels g of the groups -/
theorem draw_c {T : Tab} {pl : Int32} {sq : Nat → Int32} (ok : okT T) (hc : cT T pl sq) {a b lo : Nat} (ha : a < T.1) (hb : b < T.1) {x3 : Int32} (hlo : ∀ p, p < 7 → ∀ q, q < 7 → p ≠ q → (X10_pairOf (nI p) (nI q) = x3 ↔ pr p q = lo)) {g : Nat → Nat} (hg : GI (off T.2 T.1 a b) (jn T.2 T.1 a b lo) g) (g1 g2 g3 g4 : Int32) (g5 g6 : Nat → Int32) (g7 g8 g9 : Int64) : ∃ c d B S y1 y2 y3, X0_draw (nI a) (nI b) x3 g1 g2 g3 g4 g5 g6 g7 g8 g9 pl sq = some (nI (sm (rt (off T.2 T.1 a b) g) 7), nI (ms (lai T.2 T.1 a b) T.1), nI (ms (off T.2 T.1 a b) T.1), b2 d, B, S, y1, y2, y3) ∧ CI (off T.2 T.1 a b) (jn T.2 T.1 a b lo) (bd T.2 a b) g 7 c ∧ eS 7 c S ∧ (∀ v, off T.2 T.1 a b v = true → c v ≠ 0) ∧ (∀ v, off T.2 T.1 a b v = true → g v = v → c v = 1) ∧ (d = true ↔ ∀ p q, jn T.2 T.1 a b lo p q = true → hol (bd T.2 a b p q) (c p) (c q) = true) := by
  have h7 := ok.2.1
  have pL := place_L ok hc ha hb T.1 0 1000 (by omega) (by omega)
  have pL' : X0_layPlaces (nI a) (nI b) g2 g3 pl sq = some (nI (ms (lai T.2 T.1 a b) T.1), nI (ms (off T.2 T.1 a b) T.1)) := pL
  obtain ⟨B, z1, z2, z3, i1, i2⟩ := bond_q ok hc ha hb hlo X0_draw_J120 g1 (nI (ms (off T.2 T.1 a b) T.1)) g4 g6 7 0 1000 g5 g7 g8 g9 (by omega) (by omega) (fun p' q' _ _ h => by omega)
  have hB : Bnd (jn T.2 T.1 a b lo) (bd T.2 a b) B := i2
  obtain ⟨c, S, j1, j2, j3, j4, j5⟩ := findGroups_c hg (jn_symm T.2 T.1 a b lo) (bd_b T.2 a b) (ms_128 (f := off T.2 T.1 a b) h7) (fun p _ => by
    rw [ms_bit]
    by_cases h : p < T.1
    · rw [decide_eq_true h]; rfl
    · unfold off; rw [decide_eq_false h]; rfl) (fun p h => by have := off_n h; omega) hB g1 g6
  obtain ⟨d, k1, k2⟩ := st_q (bd_b T.2 a b) hB j2.2.1 j3 (nI (sm (rt (off T.2 T.1 a b) g) 7)) (nI (ms (lai T.2 T.1 a b) T.1)) (nI (ms (off T.2 T.1 a b) T.1)) z1 z2 z3 7 0 1000 true (by omega) (by omega)
  refine ⟨c, d, B, S, z1, z2, z3, ?_, j2, j3, j4, j5, k2.trans ⟨fun h p q hj => ?_, fun h => ⟨rfl, fun p' q' _ _ _ hj => h p' q' hj⟩⟩⟩
  · unfold X0_draw
    rw [pL', bs]
    have i1' : X0_draw_L9 sq X0_draw_J120 1000 (nI a) (nI b) x3 0 g1 (nI (ms (lai T.2 T.1 a b) T.1)) (nI (ms (off T.2 T.1 a b) T.1)) g4 g5 g6 g7 g8 g9 = _ := i1
    dsimp only
    rw [i1']
    unfold X0_draw_J120
    rw [j1, bs]
    exact k1
  · obtain ⟨n1, n2, n3⟩ := jn_ne hj
    rcases (show q < p ∨ p < q by omega) with y | y
    · rw [bd_symm, hol_symm]
      exact h.2 q p (Nat.zero_le _) (by omega) y (by rw [jn_symm]; exact hj)
    · exact h.2 p q (Nat.zero_le _) (by omega) y hj
/-- one stands if and only if the other does, and then the sides are the same -/
theorem same_dr {o : Nat → Bool} {J : Nat → Nat → Bool} {R R' : Nat → Nat → Nat} {g s c : Nat → Nat} {dC dM : Bool} (r1 : ∀ p q, 1 ≤ R p q) (r3 : ∀ p q, o p = true → o q = true → R p q ≤ 3) (rE : ∀ p q, J p q = true → R' p q = R p q) (hR : RI o J R' g s) (gE : ∀ p q, edg o J p q → g p = g q) (hC : CI o J R g 7 c) (c1 : ∀ v, o v = true → c v ≠ 0) (c3 : ∀ v, o v = true → g v = v → c v = 1) (hd : dC = true ↔ ∀ p q, J p q = true → hol (R p q) (c p) (c q) = true) (hm : dM = true ↔ ∀ p q, J p q = true → hol (R' p q) (s p) (s q) = true) : dC = dM ∧ (dC = true → ∀ p, s p = c p) := by
  have vs : ∀ v : Nat → Nat, (∀ p, o p = true → v p = 1 ∨ v p = 2) → (∀ p q, J p q = true → hol (R p q) (v p) (v q) = true) → VS o J R v := fun v hv hh => by
    refine ⟨hv, fun p q hE => ?_⟩
    have a1 := hh p q hE.2.2
    have a2 := r1 p q
    have a3 := r3 p q hE.1 hE.2.1
    have a4 := hv p hE.1
    have a5 := hv q hE.2.1
    unfold hol at a1
    unfold fl
    rcases (show R p q = 1 ∨ R p q = 2 ∨ R p q = 3 by omega) with y | y | y
    · rw [y, if_pos rfl] at a1; exact absurd a1 (by decide)
    · rw [y, if_neg (by decide), if_pos rfl, decide_eq_true_eq] at a1
      rw [y, if_neg (by decide)]; omega
    · rw [y, if_neg (by decide), if_neg (by decide), if_pos rfl] at a1
      simp only [Bool.not_eq_true', decide_eq_false_iff_not] at a1
      rw [y, if_pos rfl]; omega
  have vs' : ∀ v, VS o J R v → VS o J R' v := fun v h => ⟨h.1, fun p q hE => by rw [rE p q hE.2.2]; exact h.2 p q hE⟩
  have cs : dC = true → ∀ p, s p = c p := fun h p => by
    cases ho : o p with
    | false => rw [hR.2 p ho, hC.1 p ho]
    | true =>
      obtain ⟨p1, p2, p3, p4, p5, p6⟩ := hR.1 p ho
      have hV := vs c (fun v hv => by have := c1 v hv; have := hC.2.1 v; omega) (hd.mp h)
      have q1 := p6 c (vs' c hV)
      have q2 : g p = g (g p) := p5 g (fun a b hab => gE a b hab)
      have q3 := c3 (g p) p2 q2.symm
      have q4 := c1 p ho
      have q5 := hC.2.1 p
      omega
  have ms' : dM = true → ∀ p, s p = c p := fun h p => by
    cases ho : o p with
    | false => rw [hR.2 p ho, hC.1 p ho]
    | true =>
      have hh := hm.mp h
      have hV := vs s (fun v hv => (hR.1 v hv).2.2.1) (fun p q hj => by have := hh p q hj; rwa [rE p q hj] at this)
      exact (hC.2.2.2 s ⟨hV, fun v hv => (hR.1 v hv).2.2.2.1⟩ p (c1 p ho)).symm
  refine ⟨?_, cs⟩
  cases hc' : dC with
  | true =>
    have e := cs hc'
    refine (hm.mpr fun p q hj => ?_).symm
    rw [rE p q hj, e p, e q]
    exact hd.mp hc' p q hj
  | false =>
    cases hm' : dM with
    | false => rfl
    | true =>
      have e := ms' hm'
      have : dC = true := hd.mpr fun p q hj => by
        rw [← rE p q hj, ← e p, ← e q]
        exact hm.mp hm' p q hj
      rw [this] at hc'; exact absurd hc' (by decide)
