/-! drawings: the reference's layDrawings -/
def ms (f : Nat → Bool) : Nat → Nat
  | 0 => 0
  | k + 1 => if f k = true then ms f k ||| 2 ^ k else ms f k
theorem ms_lt (f : Nat → Bool) : ∀ k, ms f k < 2 ^ k
  | 0 => by show 0 < 2 ^ 0; decide
  | k + 1 => by
    have h := ms_lt f k
    have h2 : ms f k < 2 ^ (k + 1) := Nat.lt_of_lt_of_le h (Nat.pow_le_pow_right (by decide) (by omega))
    show (if f k = true then ms f k ||| 2 ^ k else ms f k) < _
    split
    · exact Nat.or_lt_two_pow h2 (Nat.pow_lt_pow_right (by decide) (by omega))
    · exact h2
theorem ms_bit (f : Nat → Bool) (j : Nat) : ∀ k, (ms f k).testBit j = (decide (j < k) && f j)
  | 0 => by rw [show ms f 0 = 0 from rfl, Nat.zero_testBit, decide_eq_false (by omega)]; rfl
  | k + 1 => by
    have ih := ms_bit f j k
    show (if f k = true then ms f k ||| 2 ^ k else ms f k).testBit j = _
    by_cases z : f k = true
    · rw [if_pos z, Nat.testBit_or, ih, Nat.testBit_two_pow]
      by_cases y : k = j
      · subst y; rw [decide_eq_true rfl, decide_eq_true (by omega : k < k + 1), z]; simp
      · rw [decide_eq_false y, Bool.or_false]
        by_cases w : j < k
        · rw [decide_eq_true w, decide_eq_true (by omega)]
        · rw [decide_eq_false w, decide_eq_false (by omega)]
    · rw [if_neg z, ih]
      by_cases y : k = j
      · subst y; rw [Bool.not_eq_true] at z; rw [z, Bool.and_false, Bool.and_false]
      · by_cases w : j < k
        · rw [decide_eq_true w, decide_eq_true (by omega)]
        · rw [decide_eq_false w, decide_eq_false (by omega)]
theorem ms_128 {f : Nat → Bool} {n : Nat} (h : n ≤ 7) : ms f n < 128 := Nat.lt_of_lt_of_le (ms_lt f n) (Nat.pow_le_pow_right (n := 2) (by decide) h)
theorem isLaid_m {v p : Nat} (hv : v < 128) (hp : p < 7) : X11_isLaid (nI p) (nI v) = b2 (v.testBit p) := by
  unfold X11_isLaid
  rw [bitI v hv p hp]
  cases v.testBit p <;> rfl
theorem lai_bit {e : Nat → Nat} {n a b p : Nat} : (ms (lai e n a b) n).testBit p = lai e n a b p := by
  rw [ms_bit]
  by_cases h : p < n
  · rw [decide_eq_true h]; rfl
  · unfold lai; rw [decide_eq_false h]; rfl
theorem lai_n {e : Nat → Nat} {n a b p : Nat} (h : lai e n a b p = true) : p < n := by
  unfold lai at h
  simp only [Bool.and_eq_true, decide_eq_true_eq] at h
  exact h.1
theorem t3_aa (e : Nat → Nat) (a b : Nat) : t3 e a b a = false := by
  unfold t3 t2; rw [tv_self e a]; simp
theorem t3_bb (e : Nat → Nat) (a b : Nat) : t3 e a b b = false := by
  unfold t3 t2; rw [tv_self e b]; simp
abbrev LdK : Type := Int32 → Int32 → Int32 → Int32 → Int32 → Int32 → (Nat → Int32) → (Nat → Int32) → Option (Int32 × Int32 × Int32 × (Nat → Int32) × (Nat → Int32))
def s0 (o : Nat → Bool) (p : Nat) : Nat := if o p = true then 1 else 0
theorem eG_snoc {o : Nat → Bool} {p : Nat} {g : Nat → Nat} {G : Nat → Int32} (h : eG o p g G) : eG o (p + 1) g (upd G p (if o p = true then nI (g p) else -4)) := by
  intro j hj
  unfold upd
  by_cases z : j = p
  · rw [if_pos z, z]
  · rw [if_neg z]; exact h j (by omega)
theorem eS_snoc {p : Nat} {s : Nat → Nat} {S : Nat → Int32} (h : eS p s S) : eS (p + 1) s (upd S p (nI (s p))) := by
  intro j hj
  unfold upd
  by_cases z : j = p
  · rw [if_pos z, z]
  · rw [if_neg z]; exact h j (by omega)
theorem dr_0 {T : Tab} {st : Nat → Int32} (ok : okT T) (hm : mst T st) {a b : Nat} (ha : a < T.1) (hb : b < T.1) (k157 : LdK) (gm dr : Int32) : ∀ (m p f : Nat) (G S : Nat → Int32), p + m = T.1 → m + 1 ≤ f → eG (off T.2 T.1 a b) p id G → eS p (s0 (off T.2 T.1 a b)) S → ∃ G' S', X11_layDrawings_L26 st k157 f (nI a) (nI b) (nI T.1) (nI p) gm dr (nI (ms (lai T.2 T.1 a b) p)) G S = k157 (nI a) (nI b) (nI T.1) gm dr (nI (ms (lai T.2 T.1 a b) T.1)) G' S' ∧ eG (off T.2 T.1 a b) T.1 id G' ∧ eS T.1 (s0 (off T.2 T.1 a b)) S'
  | 0, p, f + 1, G, S, hp, _, hG, hS => by
    have h7 := ok.2.1
    have : p = T.1 := by omega
    subst this
    refine ⟨G, S, ?_, hG, hS⟩
    show X11_layDrawings_B26 _ _ _ _ _ _ _ _ _ _ _ _ = _
    unfold X11_layDrawings_B26
    rw [if_pos (nI_le (by omega) (by omega))]
  | m + 1, p, f + 1, G, S, hp, hf, hG, hS => by
    have h7 := ok.2.1
    have a7 : a < 7 := by omega
    have b7 : b < 7 := by omega
    have p7 : p < 7 := by omega
    obtain ⟨G', S', i1, i2, i3⟩ := dr_0 ok hm ha hb k157 gm dr m (p + 1) f _ _ (by omega) (by omega) (eG_snoc hG) (eS_snoc hS)
    refine ⟨G', S', ?_, i2, i3⟩
    rw [← i1]
    have el : lai T.2 T.1 a b p = (t3 T.2 a b p && c3 T.2 a b p) := by
      unfold lai; rw [decide_eq_true (show p < T.1 by omega)]; rfl
    have eo : off T.2 T.1 a b p = (t3 T.2 a b p && decide (0 < wZ T.2 a b p)) := by
      unfold off; rw [decide_eq_true (show p < T.1 by omega)]; rfl
    have wb := wZ_b ok a b p
    have ew : (w3 T.2 a b p ≤ 0) ↔ ¬ 0 < wZ T.2 a b p := by
      rw [w3_fI, ← fI_0, fI_le (by omega) (by omega) (by omega) (by omega)]; omega
    have k126 : ∀ (c : Bool) (lm : Int32), X11_layDrawings_J126 (X11_layDrawings_L26 st k157 f) k157 (nI a) (nI b) (nI T.1) (nI p) (nI p) (if c = true then nI p else -4) gm dr lm G S = X11_layDrawings_L26 st k157 f (nI a) (nI b) (nI T.1) (nI (p + 1)) gm dr lm (upd G p (if c = true then nI p else -4)) (upd S p (nI (if c = true then 1 else 0))) := fun c lm => by
      unfold X11_layDrawings_J126 X11_layDrawings_J150 lat
      dsimp only
      rw [gd_in (by omega) (by decide), gd_in (by omega) (by decide), nI_clamp (by omega), nI_1]
      cases c with
      | true => rw [if_pos rfl, if_pos rfl, upd_e, if_neg (nI_n4 (by omega)), gd_in (by omega) (by decide)]; rfl
      | false => rw [if_neg (show ¬ false = true by decide), upd_e, if_pos rfl, gd_in (by omega) (by decide)]; rfl
    have k71 : X11_layDrawings_J71 st (X11_layDrawings_L26 st k157 f) k157 (nI a) (nI b) (nI T.1) (nI p) (b2 (lai T.2 T.1 a b p)) gm dr (nI (ms (lai T.2 T.1 a b) p)) G S = X11_layDrawings_L26 st k157 f (nI a) (nI b) (nI T.1) (nI (p + 1)) gm dr (nI (ms (lai T.2 T.1 a b) (p + 1))) (upd G p (if off T.2 T.1 a b p = true then nI (id p) else -4)) (upd S p (nI (s0 (off T.2 T.1 a b) p))) := by
      unfold X11_layDrawings_J71 X11_layDrawings_J91 lat
      dsimp only
      show _ = X11_layDrawings_L26 st k157 f (nI a) (nI b) (nI T.1) (nI (p + 1)) gm dr (nI (if lai T.2 T.1 a b p = true then ms (lai T.2 T.1 a b) p ||| 2 ^ p else ms (lai T.2 T.1 a b) p)) _ _
      cases hl : lai T.2 T.1 a b p with
      | false =>
        have ho : off T.2 T.1 a b p = false := by
          cases h : off T.2 T.1 a b p with
          | false => rfl
          | true => rw [off_lai ok h] at hl; exact absurd hl (by decide)
        rw [ifb_f, ifb_f, if_neg (show ¬ false = true by decide), ho]
        have := k126 false (nI (ms (lai T.2 T.1 a b) p))
        unfold X11_layDrawings_J124
        rw [show (nI (ms (lai T.2 T.1 a b) p) ||| 0) = nI (ms (lai T.2 T.1 a b) p) from Int32.or_zero]
        unfold s0
        rw [ho]
        exact this
      | true =>
        rw [ifb_t, ifb_t, if_pos rfl, shlI p (by omega), nI_or, wideOf_m ok hm.2 a7 b7 p7, bs]
        have t3t : t3 T.2 a b p = true := by
          rw [el] at hl; cases h : t3 T.2 a b p with
          | false => rw [h, Bool.false_and] at hl; exact absurd hl (by decide)
          | true => rfl
        rw [t3t, Bool.true_and] at eo
        unfold s0
        by_cases z : 0 < wZ T.2 a b p
        · rw [if_neg (fun y => (ew.mp y) z)]
          rw [decide_eq_true z] at eo
          rw [eo]
          exact k126 true _
        · rw [if_pos (ew.mpr z)]
          rw [decide_eq_false z] at eo
          rw [eo]
          unfold X11_layDrawings_J124
          exact k126 false _
    have k70 : t3 T.2 a b p = false → X11_layDrawings_J70 st (X11_layDrawings_L26 st k157 f) k157 (nI a) (nI b) (nI T.1) (nI p) gm dr (nI (ms (lai T.2 T.1 a b) p)) G S = X11_layDrawings_J71 st (X11_layDrawings_L26 st k157 f) k157 (nI a) (nI b) (nI T.1) (nI p) (b2 (lai T.2 T.1 a b p)) gm dr (nI (ms (lai T.2 T.1 a b) p)) G S := fun h => by
      rw [el, h]; rfl
    show X11_layDrawings_B26 _ _ _ _ _ _ _ _ _ _ _ _ = _
    unfold X11_layDrawings_B26
    rw [if_neg (nI_ge (by omega) (by omega)), ← k71]
    by_cases za : nI p = nI a
    · have : p = a := (nI_eq (by omega) (by omega)).mp za
      rw [if_pos za]
      exact k70 (by rw [this]; exact t3_aa _ _ _)
    · rw [if_neg za]
      by_cases zb : nI p = nI b
      · have : p = b := (nI_eq (by omega) (by omega)).mp zb
        rw [if_pos zb]
        exact k70 (by rw [this]; exact t3_bb _ _ _)
      · rw [if_neg zb, areTold_m ok hm.2 a7 b7 p7, bs, canBe_m ok hm.2 a7 b7 p7, bs]
        cases h1 : t3 T.2 a b p with
        | false => rw [ifb_f]; exact k70 h1
        | true =>
          rw [ifb_t]
          cases h2 : c3 T.2 a b p with
          | false =>
            rw [ifb_f]
            unfold X11_layDrawings_J70
            rw [el, h1, h2]; rfl
          | true => rw [ifb_t, el, h1, h2]; rfl
/-- do two joined ones hold -/
def hol (r x y : Nat) : Bool := if r = 1 then false else if r = 2 then decide (x = y) else if r = 3 then !(decide (x = y)) else true
theorem hol_symm (r x y : Nat) : hol r x y = hol r y x := by
  unfold hol
  rw [show decide (x = y) = decide (y = x) from decide_eq_decide.mpr eq_comm]
abbrev LdK4 : Type := Int32 → Int32 → Int32 → Int32 → Int32 → Int32 → Int32 → (Nat → Int32) → (Nat → Int32) → Option (Int32 × Int32 × Int32 × (Nat → Int32) × (Nat → Int32))
theorem dr_q {T : Tab} {st : Nat → Int32} (ok : okT T) (hm : mst T st) {a b : Nat} (ha : a < T.1) (hb : b < T.1) (k324 : LdK4) (gm : Int32) {s : Nat → Nat} (s2 : ∀ p, s p ≤ 2) {G S : Nat → Int32} (hS : eS T.1 s S) {p : Nat} (hp : p < T.1) : ∀ (m q f : Nat) (d : Bool), q + m = p → m + 1 ≤ f → ∃ d', X11_layDrawings_L201 st k324 f (nI a) (nI b) (nI T.1) (nI p) (nI q) gm (b2 d) (nI (ms (lai T.2 T.1 a b) T.1)) G S = k324 (nI a) (nI b) (nI T.1) (nI p) gm (b2 d') (nI (ms (lai T.2 T.1 a b) T.1)) G S ∧ (d' = true ↔ d = true ∧ ∀ q', q ≤ q' → q' < p → jn T.2 T.1 a b 99 p q' = true → hol (bd T.2 a b p q') (s p) (s q') = true)
  | 0, q, f + 1, d, hq, _ => by
    have h7 := ok.2.1
    refine ⟨d, ?_, fun h => ⟨h, fun q' h1 h2 => by omega⟩, fun h => h.1⟩
    show X11_layDrawings_B201 _ _ _ _ _ _ _ _ _ _ _ _ _ = _
    unfold X11_layDrawings_B201
    rw [if_pos (nI_le (by omega) (by omega))]
  | m + 1, q, f + 1, d, hq, hf => by
    have h7 := ok.2.1
    have p7 : p < 7 := by omega
    have q7 : q < 7 := by omega
    have pq : ¬ p = q := by omega
    have m8 := ms_128 (f := lai T.2 T.1 a b) h7
    have ej : jn T.2 T.1 a b 99 p q = (t2 T.2 p q && (lai T.2 T.1 a b p && lai T.2 T.1 a b q)) := by
      unfold jn
      rw [decide_eq_false (by have := pr_lt p p7 q q7 pq; omega)]
      cases t2 T.2 p q <;> cases lai T.2 T.1 a b p <;> cases lai T.2 T.1 a b q <;> rfl
    have skip : jn T.2 T.1 a b 99 p q = false → ∃ d', X11_layDrawings_J318 (X11_layDrawings_L201 st k324 f) k324 (nI a) (nI b) (nI T.1) (nI p) (nI q) gm (b2 d) (nI (ms (lai T.2 T.1 a b) T.1)) G S = k324 (nI a) (nI b) (nI T.1) (nI p) gm (b2 d') (nI (ms (lai T.2 T.1 a b) T.1)) G S ∧ (d' = true ↔ d = true ∧ ∀ q', q ≤ q' → q' < p → jn T.2 T.1 a b 99 p q' = true → hol (bd T.2 a b p q') (s p) (s q') = true) := fun hj => by
      obtain ⟨d', i1, i2⟩ := dr_q ok hm ha hb k324 gm s2 hS hp m (q + 1) f d (by omega) (by omega)
      refine ⟨d', ?_, i2.trans ⟨fun h => ⟨h.1, fun q' h1 h2 h3 => ?_⟩, fun h => ⟨h.1, fun q' h1 h2 h3 => h.2 q' (by omega) h2 h3⟩⟩⟩
      · unfold X11_layDrawings_J318 lat; rw [nI_1]; exact i1
      · rcases (show q' = q ∨ q + 1 ≤ q' by omega) with rfl | y
        · rw [hj] at h3; exact absurd h3 (by decide)
        · exact h.2 q' y h2 h3
    have go : jn T.2 T.1 a b 99 p q = true → ∀ d2, (d2 = (d && hol (bd T.2 a b p q) (s p) (s q))) → ∃ d', X11_layDrawings_J315 (X11_layDrawings_L201 st k324 f) k324 (nI a) (nI b) (nI T.1) (nI p) (nI q) (b2 d2) gm (b2 d) (nI (ms (lai T.2 T.1 a b) T.1)) G S = k324 (nI a) (nI b) (nI T.1) (nI p) gm (b2 d') (nI (ms (lai T.2 T.1 a b) T.1)) G S ∧ (d' = true ↔ d = true ∧ ∀ q', q ≤ q' → q' < p → jn T.2 T.1 a b 99 p q' = true → hol (bd T.2 a b p q') (s p) (s q') = true) := fun hj d2 hd2 => by
      obtain ⟨d', i1, i2⟩ := dr_q ok hm ha hb k324 gm s2 hS hp m (q + 1) f d2 (by omega) (by omega)
      refine ⟨d', ?_, i2.trans ⟨fun h => ?_, fun h => ?_⟩⟩
      · unfold X11_layDrawings_J315 X11_layDrawings_J318 lat; rw [gz_b2, nI_1]; exact i1
      · have h0 := h.1
        rw [hd2, Bool.and_eq_true] at h0
        refine ⟨h0.1, fun q' h1 h2 h3 => ?_⟩
        rcases (show q' = q ∨ q + 1 ≤ q' by omega) with rfl | y
        · exact h0.2
        · exact h.2 q' y h2 h3
      · refine ⟨?_, fun q' h1 h2 h3 => h.2 q' (by omega) h2 h3⟩
        rw [hd2, h.1, h.2 q (Nat.le_refl q) (by omega) hj]; rfl
    show ∃ d', X11_layDrawings_B201 _ _ _ _ _ _ _ _ _ _ _ _ _ = _ ∧ _
    unfold X11_layDrawings_B201
    rw [if_neg (nI_ge (by omega) (by omega)), isLaid_m m8 p7, isLaid_m m8 q7, lai_bit, lai_bit, sq_m ok hm.2 p7 q7, bs, relation_m ok hm.2 (by omega) (by omega) p7 q7, bs, gd_in (by omega) (by decide), gd_in (by omega) (by decide), nI_clamp (by omega), nI_clamp (by omega), hS p hp, hS q (by omega)]
    have l0 := le0_m ok p q
    cases h1 : lai T.2 T.1 a b p with
    | false => rw [ifb_f]; exact skip (by rw [ej, h1]; cases t2 T.2 p q <;> rfl)
    | true =>
      rw [ifb_t]
      cases h2 : lai T.2 T.1 a b q with
      | false => rw [ifb_f]; exact skip (by rw [ej, h1, h2]; cases t2 T.2 p q <;> rfl)
      | true =>
        rw [ifb_t]
        cases h3 : t2 T.2 p q with
        | false => rw [if_pos (l0.mpr h3)]; exact skip (by rw [ej, h1, h2, h3]; rfl)
        | true =>
          rw [if_neg (fun y => by rw [l0.mp y] at h3; exact absurd h3 (by decide))]
          have hj : jn T.2 T.1 a b 99 p q = true := by rw [ej, h1, h2, h3]; rfl
          have bb := bd_b T.2 a b p q
          have sp := s2 p
          have sq' := s2 q
          have es : (nI (s p) = nI (s q)) ↔ s p = s q := nI_eq (by omega) (by omega)
          have e273 : (if nI (s p) = nI (s q) then X11_layDrawings_J273 (X11_layDrawings_L201 st k324 f) k324 (nI a) (nI b) (nI T.1) (nI p) (nI q) (rl (bd T.2 a b p q)) 1 gm (b2 d) (nI (ms (lai T.2 T.1 a b) T.1)) G S else X11_layDrawings_J273 (X11_layDrawings_L201 st k324 f) k324 (nI a) (nI b) (nI T.1) (nI p) (nI q) (rl (bd T.2 a b p q)) 0 gm (b2 d) (nI (ms (lai T.2 T.1 a b) T.1)) G S) = X11_layDrawings_J315 (X11_layDrawings_L201 st k324 f) k324 (nI a) (nI b) (nI T.1) (nI p) (nI q) (b2 (d && hol (bd T.2 a b p q) (s p) (s q))) gm (b2 d) (nI (ms (lai T.2 T.1 a b) T.1)) G S := by
            unfold X11_layDrawings_J273 X11_layDrawings_J307 X11_layDrawings_J310 X11_layDrawings_J314 hol
            simp only [es]
            cases d with
            | false => simp [b2]
            | true =>
              rcases (show bd T.2 a b p q = 1 ∨ bd T.2 a b p q = 2 ∨ bd T.2 a b p q = 3 ∨ bd T.2 a b p q = 4 by omega) with y | y | y | y <;> by_cases x : s p = s q <;> simp [y, x, rl, b2]
          rw [e273]
          exact go hj _ rfl
def rt (o : Nat → Bool) (g : Nat → Nat) (p : Nat) : Nat := if (o p && decide (g p = p)) = true then 1 else 0
theorem dr_p {T : Tab} {st : Nat → Int32} (ok : okT T) (hm : mst T st) {a b : Nat} (ha : a < T.1) (hb : b < T.1) {g s : Nat → Nat} (s2 : ∀ p, s p ≤ 2) (g7 : ∀ p, off T.2 T.1 a b p = true → g p ≤ p) {G S : Nat → Int32} (hG : eG (off T.2 T.1 a b) T.1 g G) (hS : eS T.1 s S) : ∀ (m p f : Nat) (d : Bool), p + m = T.1 → m + 1 ≤ f → ∃ d', X11_layDrawings_L166 st f (nI a) (nI b) (nI T.1) (nI p) (nI (sm (rt (off T.2 T.1 a b) g) p)) (b2 d) (nI (ms (lai T.2 T.1 a b) T.1)) G S = some (nI (sm (rt (off T.2 T.1 a b) g) T.1), b2 d', nI (ms (lai T.2 T.1 a b) T.1), G, S) ∧ (d' = true ↔ d = true ∧ ∀ p' q', p ≤ p' → p' < T.1 → q' < p' → jn T.2 T.1 a b 99 p' q' = true → hol (bd T.2 a b p' q') (s p') (s q') = true)
  | 0, p, f + 1, d, hp, _ => by
    have h7 := ok.2.1
    have : p = T.1 := by omega
    subst this
    refine ⟨d, ?_, fun h => ⟨h, fun p' q' h1 h2 => by omega⟩, fun h => h.1⟩
    show X11_layDrawings_B166 _ _ _ _ _ _ _ _ _ _ _ = _
    unfold X11_layDrawings_B166
    rw [if_pos (nI_le (by omega) (by omega))]
  | m + 1, p, f + 1, d, hp, hf => by
    have h7 := ok.2.1
    have hpn : p < T.1 := by omega
    obtain ⟨d1, i1, i2⟩ := dr_q ok hm ha hb (X11_layDrawings_J324 (X11_layDrawings_L166 st f)) (nI (sm (rt (off T.2 T.1 a b) g) (p + 1))) s2 (G := G) hS hpn p 0 1000 d (by omega) (by omega)
    obtain ⟨d', j1, j2⟩ := dr_p ok hm ha hb s2 g7 hG hS m (p + 1) f d1 (by omega) (by omega)
    refine ⟨d', ?_, j2.trans ⟨fun h => ?_, fun h => ?_⟩⟩
    · rw [← j1]
      show X11_layDrawings_B166 _ _ _ _ _ _ _ _ _ _ _ = _
      unfold X11_layDrawings_B166 X11_layDrawings_J194 lat
      rw [if_neg (nI_ge (by omega) (by omega)), gd_in (by omega) (by decide), nI_clamp (by omega), hG p hpn]
      have i1' : X11_layDrawings_L201 st (X11_layDrawings_J324 (X11_layDrawings_L166 st f)) 1000 (nI a) (nI b) (nI T.1) (nI p) 0 (nI (sm (rt (off T.2 T.1 a b) g) (p + 1))) (b2 d) (nI (ms (lai T.2 T.1 a b) T.1)) G S = _ := i1
      have fin : X11_layDrawings_L201 st (X11_layDrawings_J324 (X11_layDrawings_L166 st f)) 1000 (nI a) (nI b) (nI T.1) (nI p) 0 (nI (sm (rt (off T.2 T.1 a b) g) (p + 1))) (b2 d) (nI (ms (lai T.2 T.1 a b) T.1)) G S = X11_layDrawings_L166 st f (nI a) (nI b) (nI T.1) (nI (p + 1)) (nI (sm (rt (off T.2 T.1 a b) g) (p + 1))) (b2 d1) (nI (ms (lai T.2 T.1 a b) T.1)) G S := by
        rw [i1']
        unfold X11_layDrawings_J324 lat
        rw [nI_1]
      rw [← fin]
      have es : sm (rt (off T.2 T.1 a b) g) (p + 1) = sm (rt (off T.2 T.1 a b) g) p + rt (off T.2 T.1 a b) g p := rfl
      rw [es]
      unfold rt
      cases ho : off T.2 T.1 a b p with
      | false =>
        rw [if_neg (show ¬ false = true by decide), if_neg (fun y => nI_n4 (k := p) (by omega) y.symm), if_neg (show ¬ (false && decide (g p = p)) = true by simp), Nat.add_zero]
        rw [show ∀ x : Int32, x + 0 = x from Int32.add_zero]
      | true =>
        have gp := g7 p ho
        rw [if_pos rfl, Bool.true_and]
        have eg : (nI (g p) = nI p) ↔ g p = p := nI_eq (by omega) (by omega)
        by_cases z : g p = p
        · rw [if_pos (eg.mpr z), decide_eq_true z, if_pos rfl, nI_1]
        · rw [if_neg (fun y => z (eg.mp y)), decide_eq_false z, if_neg (show ¬ false = true by decide), Nat.add_zero]
          rw [show ∀ x : Int32, x + 0 = x from Int32.add_zero]
    · have h0 := i2.mp h.1
      refine ⟨h0.1, fun p' q' h1 h2 h3 h4 => ?_⟩
      rcases (show p' = p ∨ p + 1 ≤ p' by omega) with rfl | y
      · exact h0.2 q' (Nat.zero_le _) h3 h4
      · exact h.2 p' q' y h2 h3 h4
    · exact ⟨i2.mpr ⟨h.1, fun q' _ h2 h3 => h.2 p q' (Nat.le_refl p) hpn h2 h3⟩, fun p' q' h1 h2 h3 h4 => h.2 p' q' (by omega) h2 h3 h4⟩
theorem RI_0 (o : Nat → Bool) (J : Nat → Nat → Bool) (R : Nat → Nat → Nat) : RI o J R id (s0 o) := by
  refine ⟨fun p hp => ?_, fun p hp => ?_⟩
  · have : s0 o p = 1 := by unfold s0; rw [if_pos hp]
    rw [this]
    exact ⟨Nat.le_refl _, hp, Or.inl rfl, fun _ => rfl, fun h _ => rfl, fun v _ => ⟨fun _ => rfl, fun _ => rfl⟩⟩
  · unfold s0; rw [hp]; rfl
theorem RI_2 {o : Nat → Bool} {J : Nat → Nat → Bool} {R : Nat → Nat → Nat} {g s : Nat → Nat} (h : RI o J R g s) (p : Nat) : s p ≤ 2 := by
  cases z : o p with
  | false => rw [h.2 p z]; omega
  | true => have := (h.1 p z).2.2.1; omega
theorem sm_id : ∀ n, n ≤ 7 → sm id n ≤ 21
  | 0, _ => by decide
  | n + 1, h => by
    rcases (show n = 0 ∨ n = 1 ∨ n = 2 ∨ n = 3 ∨ n = 4 ∨ n = 5 ∨ n = 6 by omega) with rfl | rfl | rfl | rfl | rfl | rfl | rfl <;> decide
theorem jn_ne {e : Nat → Nat} {n a b lo p q : Nat} (h : jn e n a b lo p q = true) : p < n ∧ q < n ∧ p ≠ q := by
  unfold jn at h
  simp only [Bool.and_eq_true] at h
  refine ⟨lai_n h.2.1, lai_n h.2.2.1, fun z => ?_⟩
  subst z
  have := h.1
  unfold t2 at this
  rw [tv_self, decide_eq_true_eq] at this
  omega
theorem layDraw_m {T : Tab} {st : Nat → Int32} (ok : okT T) (hm : mst T st) {a b : Nat} (ha : a < T.1) (hb : b < T.1) (gm dr la : Int32) (G S : Nat → Int32) : ∃ g s d G' S', X11_layDrawings (nI a) (nI b) gm dr la G S st = some (nI (sm (rt (off T.2 T.1 a b) g) T.1), b2 d, nI (ms (lai T.2 T.1 a b) T.1), G', S') ∧ RI (off T.2 T.1 a b) (jn T.2 T.1 a b 99) (bd T.2 a b) g s ∧ eS T.1 s S' ∧ (∀ p q, edg (off T.2 T.1 a b) (jn T.2 T.1 a b 99) p q → g p = g q) ∧ (d = true ↔ ∀ p q, jn T.2 T.1 a b 99 p q = true → hol (bd T.2 a b p q) (s p) (s q) = true) := by
  have h7 := ok.2.1
  obtain ⟨G1, S1, i1, i2, i3⟩ := dr_0 ok hm ha hb (X11_layDrawings_J157 st) 0 1 T.1 0 1000 G S (by omega) (by omega) (fun p hp => by omega) (fun p hp => by omega)
  have hsm := sm_id T.1 h7
  obtain ⟨g, s, G2, S2, j1, j2, j3, j4, j5⟩ := grp_w ok hm ha hb 1000 id (s0 (off T.2 T.1 a b)) G1 S1 (by omega) (RI_0 _ _ _) i2 i3
  obtain ⟨d, k1, k2⟩ := dr_p ok hm ha hb (RI_2 j2) (fun p hp => (j2.1 p hp).1) j3 j4 T.1 0 1000 true (by omega) (by omega)
  refine ⟨g, s, d, G2, S2, ?_, j2, j4, fun p q h => ?_, k2.trans ⟨fun h p q hj => ?_, fun h => ⟨rfl, fun p' q' _ _ _ hj => h p' q' hj⟩⟩⟩
  · have e1 : X11_layDrawings (nI a) (nI b) gm dr la G S st = X11_layDrawings_L26 st (X11_layDrawings_J157 st) 1000 (nI a) (nI b) (st 21) 0 0 1 0 G S := rfl
    rw [e1, hm.1]
    have i1' : X11_layDrawings_L26 st (X11_layDrawings_J157 st) 1000 (nI a) (nI b) (nI T.1) 0 0 1 0 G S = _ := i1
    rw [i1']
    unfold X11_layDrawings_J157
    have j1' : X11_layGroups (nI a) (nI b) G1 S1 st = some (G2, S2) := j1
    rw [j1', bs]
    exact k1
  · have q1 := j5 p q h
    have q2 := j5 q p ⟨h.2.1, h.1, by rw [jn_symm]; exact h.2.2⟩
    omega
  · obtain ⟨n1, n2, n3⟩ := jn_ne hj
    rcases (show q < p ∨ p < q by omega) with y | y
    · exact h.2 p q (Nat.zero_le _) n1 y hj
    · rw [bd_symm, hol_symm]
      exact h.2 q p (Nat.zero_le _) n2 y (by rw [jn_symm]; exact hj)
