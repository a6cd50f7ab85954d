/-! lengths read from a sheet -/
theorem l112b (g : Nat → Int32) (kk : Int32 → Int32 → Int32 → Int32 → (Nat → Int32) → Option (Int32 × Int32 × (Nat → Int32))) : ∀ n, X10_read_L112b g kk n = X10_read_L112a g kk n
  | 0 => rfl
  | n + 1 => by
    funext x3 x4 x6 x7 x8 lt sq
    show X10_read_B112b g (X10_read_L112b g kk n) kk x3 x4 x6 x7 x8 lt sq = X10_read_B112a g (X10_read_L112a g kk n) kk x3 x4 x6 x7 x8 lt sq
    rw [l112b g kk n]; rfl
theorem l75b (g : Nat → Int32) (pl : Int32) (kk : Int32 → Int32 → Int32 → Int32 → Int32 → (Nat → Int32) → Option (Int32 × Int32 × (Nat → Int32))) : ∀ n, X10_read_L75b g pl kk n = X10_read_L75a g pl kk n
  | 0 => rfl
  | n + 1 => by
    funext x3 x4 x6 x7 x8 lt sq
    show X10_read_B75b g pl (X10_read_L75b g pl kk n) kk x3 x4 x6 x7 x8 lt sq = X10_read_B75a g pl (X10_read_L75a g pl kk n) kk x3 x4 x6 x7 x8 lt sq
    rw [l75b g pl kk n]; rfl
theorem read_b : X10_read_J51b = X10_read_J51a := by
  funext sz g pl x3 x4 s0 lt sq
  have e : X10_read_J109b g = X10_read_J109a g := by
    funext a b c d e f
    unfold X10_read_J109b X10_read_J109a
    rw [l112b]
  unfold X10_read_J51b X10_read_J51a X10_read_J70b X10_read_J70a
  rw [e, l75b]
theorem l112c (g : Nat → Int32) (kk : Int32 → Int32 → Int32 → Int32 → (Nat → Int32) → Option (Int32 × Int32 × (Nat → Int32))) : ∀ n, X10_read_L112c g kk n = X10_read_L112a g kk n
  | 0 => rfl
  | n + 1 => by
    funext x3 x4 x6 x7 x8 lt sq
    show X10_read_B112c g (X10_read_L112c g kk n) kk x3 x4 x6 x7 x8 lt sq = X10_read_B112a g (X10_read_L112a g kk n) kk x3 x4 x6 x7 x8 lt sq
    rw [l112c g kk n]; rfl
theorem l75c (g : Nat → Int32) (pl : Int32) (kk : Int32 → Int32 → Int32 → Int32 → Int32 → (Nat → Int32) → Option (Int32 × Int32 × (Nat → Int32))) : ∀ n, X10_read_L75c g pl kk n = X10_read_L75a g pl kk n
  | 0 => rfl
  | n + 1 => by
    funext x3 x4 x6 x7 x8 lt sq
    show X10_read_B75c g pl (X10_read_L75c g pl kk n) kk x3 x4 x6 x7 x8 lt sq = X10_read_B75a g pl (X10_read_L75a g pl kk n) kk x3 x4 x6 x7 x8 lt sq
    rw [l75c g pl kk n]; rfl
theorem read_c : X10_read_J51c = X10_read_J51a := by
  funext sz g pl x3 x4 s0 lt sq
  have e : X10_read_J109c g = X10_read_J109a g := by
    funext a b c d e f
    unfold X10_read_J109c X10_read_J109a
    rw [l112c]
  unfold X10_read_J51c X10_read_J51a X10_read_J70c X10_read_J70a
  rw [e, l75c]
theorem l112d (g : Nat → Int32) (kk : Int32 → Int32 → Int32 → Int32 → (Nat → Int32) → Option (Int32 × Int32 × (Nat → Int32))) : ∀ n, X10_read_L112d g kk n = X10_read_L112a g kk n
  | 0 => rfl
  | n + 1 => by
    funext x3 x4 x6 x7 x8 lt sq
    show X10_read_B112d g (X10_read_L112d g kk n) kk x3 x4 x6 x7 x8 lt sq = X10_read_B112a g (X10_read_L112a g kk n) kk x3 x4 x6 x7 x8 lt sq
    rw [l112d g kk n]; rfl
theorem l75d (g : Nat → Int32) (pl : Int32) (kk : Int32 → Int32 → Int32 → Int32 → Int32 → (Nat → Int32) → Option (Int32 × Int32 × (Nat → Int32))) : ∀ n, X10_read_L75d g pl kk n = X10_read_L75a g pl kk n
  | 0 => rfl
  | n + 1 => by
    funext x3 x4 x6 x7 x8 lt sq
    show X10_read_B75d g pl (X10_read_L75d g pl kk n) kk x3 x4 x6 x7 x8 lt sq = X10_read_B75a g pl (X10_read_L75a g pl kk n) kk x3 x4 x6 x7 x8 lt sq
    rw [l75d g pl kk n]; rfl
theorem read_d : X10_read_J51d = X10_read_J51a := by
  funext sz g pl x3 x4 s0 lt sq
  have e : X10_read_J109d g = X10_read_J109a g := by
    funext a b c d e f
    unfold X10_read_J109d X10_read_J109a
    rw [l112d]
  unfold X10_read_J51d X10_read_J51a X10_read_J70d X10_read_J70a
  rw [e, l75d]
def g3 (n : Nat) (c : Nat → Int32) (x t : Nat) : Bool := two n (c (x + 3 * t)) (c (x + 3 * t + 1)) && rng 1 9999 (c (x + 3 * t + 2))
def tbs (T : Tab) (c : Nat → Int32) (x : Nat) : Nat → Tab
  | 0 => T
  | t + 1 => tl (tbs T c x t) (c (x + 3 * t)) (c (x + 3 * t + 1)) (c (x + 3 * t + 2))
theorem tl_1 (T : Tab) (x y z : Int32) : (tl T x y z).1 = T.1 := by unfold tl; split <;> rfl
theorem tbs_1 (T : Tab) (c : Nat → Int32) (x : Nat) : ∀ t, (tbs T c x t).1 = T.1
  | 0 => rfl
  | t + 1 => by show (tl _ _ _ _).1 = _; rw [tl_1, tbs_1 T c x t]
theorem tbs_ok {T : Tab} (ok : okT T) (c : Nat → Int32) (x : Nat) : ∀ t, okT (tbs T c x t)
  | 0 => ok
  | t + 1 => tl_ok (tbs_ok ok c x t) _ _ _
theorem cell_c {g c : Nat → Int32} (h : ∀ i, i < 40 → g i = c i) {i : Nat} (hi : i < 40) : X6_cell (nI i) g = some (c i) := by
  unfold X6_cell
  rw [if_neg (nI_pos (by omega)), if_neg (show ¬ (40 : Int32) ≤ nI i from nI_ge (b := 40) hi (by decide)), gd_in hi (by decide), nI_clamp (by omega), h i hi]
theorem good_c {g c : Nat → Int32} (h : ∀ i, i < 40 → g i = c i) (n : Nat) {x t : Nat} (hx : x + 3 * t + 2 < 40) : X10_isGoodLength (nI x + nI t * 3) (nI n) g = some (b2 (g3 n c x t)) := by
  unfold X10_isGoodLength g3
  rw [show (3 : Int32) = nI 3 from rfl, nI_mul, nI_add, show t * 3 = 3 * t by omega, show (2 : Int32) = nI 2 from rfl, show (1 : Int32) = nI 1 from rfl, nI_add, nI_add, cell_c h (by omega), cell_c h (by omega), cell_c h (by omega)]
  simp only [bs, areTwo_c, isSq_c]
  cases two n (c (x + 3 * t)) (c (x + 3 * t + 1)) with
  | false => rw [ifb_f]; rfl
  | true =>
    rw [ifb_t]
    cases rng 1 9999 (c (x + 3 * t + 2)) with
    | false => rw [ifb_f]; rfl
    | true => rw [ifb_t]; rfl
theorem chk_c {g c : Nat → Int32} (h : ∀ i, i < 40 → g i = c i) (n : Nat) (kk : Int32 → Int32 → Int32 → Int32 → Int32 → (Nat → Int32) → Option (Int32 × Int32 × (Nat → Int32))) {x w : Nat} (hw : x + 3 * w ≤ 40) (x4 x6 lt : Int32) (sq : Nat → Int32) : ∀ (m t f : Nat), t + m = w → m + 1 ≤ f → (∀ i, t ≤ i → i < w → g3 n c x i = true) → X10_read_L75a g (nI n) kk f (nI x) x4 x6 (nI w) (nI t) lt sq = kk (nI x) x4 x6 (nI w) lt sq
  | 0, t, f + 1, ht, _, _ => by
    show X10_read_B75a _ _ _ _ _ _ _ _ _ _ _ = _
    unfold X10_read_B75a
    rw [if_pos (nI_le (by omega) (by omega))]
  | m + 1, t, f + 1, ht, hf, hg => by
    have h1 := chk_c h n kk hw x4 x6 lt sq m (t + 1) f (by omega) (by omega) (fun i a b => hg i (by omega) b)
    show X10_read_B75a _ _ _ _ _ _ _ _ _ _ _ = _
    unfold X10_read_B75a lat
    rw [if_neg (nI_ge (by omega) (by omega)), good_c h n (by omega), bs, hg t (by omega) (by omega), ifb_t, nI_1]
    exact h1
theorem bad_c {g c : Nat → Int32} (h : ∀ i, i < 40 → g i = c i) (n : Nat) (kk : Int32 → Int32 → Int32 → Int32 → Int32 → (Nat → Int32) → Option (Int32 × Int32 × (Nat → Int32))) {x w b : Nat} (hw : x + 3 * w ≤ 40) (hb : b < w) (h2 : g3 n c x b = false) (x4 x6 lt : Int32) (sq : Nat → Int32) : ∀ (m t f : Nat), t + m = b → m + 1 ≤ f → (∀ i, t ≤ i → i < b → g3 n c x i = true) → X10_read_L75a g (nI n) kk f (nI x) x4 x6 (nI w) (nI t) lt sq = some (-20 - nI b, lt, sq)
  | 0, t, f + 1, ht, _, _ => by
    show X10_read_B75a _ _ _ _ _ _ _ _ _ _ _ = _
    unfold X10_read_B75a
    rw [if_neg (nI_ge (by omega) (by omega)), good_c h n (by omega), bs, show t = b by omega, h2, ifb_f]
  | m + 1, t, f + 1, ht, hf, hg => by
    have h1 := bad_c h n kk hw hb h2 x4 x6 lt sq m (t + 1) f (by omega) (by omega) (fun i a b => hg i (by omega) b)
    show X10_read_B75a _ _ _ _ _ _ _ _ _ _ _ = _
    unfold X10_read_B75a lat
    rw [if_neg (nI_ge (by omega) (by omega)), good_c h n (by omega), bs, hg t (by omega) (by omega), ifb_t, nI_1]
    exact h1
theorem g3_of {T : Tab} (ok : okT T) {c : Nat → Int32} {x t : Nat} (h : g3 T.1 c x t = true) : ∃ a b v, a < T.1 ∧ b < T.1 ∧ a ≠ b ∧ c (x + 3 * t) = nI a ∧ c (x + 3 * t + 1) = nI b ∧ v ≤ 9999 ∧ c (x + 3 * t + 2) = nI v ∧ tl (tbs T c x t) (c (x + 3 * t)) (c (x + 3 * t + 1)) (c (x + 3 * t + 2)) = (T.1, up (tbs T c x t).2 (pr a b) v) := by
  unfold g3 at h
  have h7 := ok.2.1
  rw [Bool.and_eq_true] at h
  obtain ⟨a, b, ha, hb, hab, e1, e2⟩ := two_of (by omega) h.1
  obtain ⟨v, h3, h4, e3⟩ := rng_of (by decide) (by decide) h.2
  refine ⟨a, b, v, ha, hb, hab, e1, e2, h4, e3, ?_⟩
  unfold tl
  rw [tbs_1, if_pos ⟨h.1, Or.inr h.2⟩, e1, e2, e3, if_neg (fun z => by have := nI_pos (n := v) (by omega); rw [z] at this; exact this (by decide)), nI_clamp (by omega), nI_clamp (by omega), nI_clamp (by omega)]
theorem put_cL {T : Tab} {pl : Int32} {g c : Nat → Int32} (ok : okT T) (h : ∀ i, i < 40 → g i = c i) (kk : Int32 → Int32 → Int32 → Int32 → (Nat → Int32) → Option (Int32 × Int32 × (Nat → Int32))) {x w : Nat} (hw : x + 3 * w ≤ 40) (x4 x6 lt : Int32) (hg : ∀ i, i < w → g3 T.1 c x i = true) : ∀ (m t f : Nat) (sq : Nat → Int32), t + m = w → m + 1 ≤ f → cT (tbs T c x t) pl sq → ∃ sq', X10_read_L112a g kk f (nI x) x4 x6 (nI w) (nI t) lt sq = kk x4 x6 (nI w) lt sq' ∧ cT (tbs T c x w) pl sq'
  | 0, t, f + 1, sq, ht, _, hc => by
    refine ⟨sq, ?_, by rw [show w = t by omega]; exact hc⟩
    show X10_read_B112a _ _ _ _ _ _ _ _ _ _ = _
    unfold X10_read_B112a
    rw [if_pos (nI_le (by omega) (by omega))]
  | m + 1, t, f + 1, sq, ht, hf, hc => by
    have h7 := ok.2.1
    obtain ⟨a, b, v, ha, hb, hab, e1, e2, hv, e3, e4⟩ := g3_of ok (hg t (by omega))
    obtain ⟨sq1, p1, p2⟩ := put_c hc (a := a) (b := b) (by omega) (by omega) hab v
    have e5 : tbs T c x (t + 1) = (T.1, up (tbs T c x t).2 (pr a b) v) := e4
    rw [tbs_1] at p2
    obtain ⟨sq', h1, h2⟩ := put_cL ok h kk hw x4 x6 lt hg m (t + 1) f sq1 (by omega) (by omega) (by rw [e5]; exact p2)
    refine ⟨sq', ?_, h2⟩
    show X10_read_B112a _ _ _ _ _ _ _ _ _ _ = _
    unfold X10_read_B112a lat
    rw [if_neg (nI_ge (by omega) (by omega)), show (3 : Int32) = nI 3 from rfl, nI_mul, nI_add, show t * 3 = 3 * t by omega, show (2 : Int32) = nI 2 from rfl, show (1 : Int32) = nI 1 from rfl, nI_add]
    dsimp only
    rw [nI_add, nI_add, cell_c h (by omega), cell_c h (by omega), cell_c h (by omega)]
    simp only [bs, e1, e2, e3, p1]
    exact h1
theorem least (g : Nat → Bool) : ∀ w, (∀ i, i < w → g i = true) ∨ ∃ b, b < w ∧ g b = false ∧ ∀ i, i < b → g i = true
  | 0 => Or.inl (fun i h => absurd h (Nat.not_lt_zero i))
  | w + 1 => by
    rcases least g w with h | ⟨b, h1, h2, h3⟩
    · cases q : g w with
      | true =>
        left; intro i hi
        rcases (show i < w ∨ i = w by omega) with z | rfl
        · exact h i z
        · exact q
      | false => exact Or.inr ⟨w, by omega, q, h⟩
    · exact Or.inr ⟨b, by omega, h2, h3⟩
theorem div3 : ∀ s, s < 41 → ∀ x, x < 41 → x ≤ s → (nI s - nI x) / 3 = nI ((s - x) / 3) := by decide +kernel
theorem mod3 : ∀ y, y < 40 → nI y - nI y / 3 * 3 = nI (y % 3) := by decide +kernel
/-- how many lengths lie whole in the sheet -/
def wl (L : Nat) (x : Int32) (k : Nat) : Nat := if x < 0 then 0 else if x ≤ nI L then min ((L - x.toNatClampNeg) / 3) k else 0
theorem wl_c {L k : Nat} (hL : L ≤ 40) (hk : k ≤ 13) (x : Int32) : X6_wholeLengths x (nI k) (nI L) = nI (wl L x k) := by
  unfold X6_wholeLengths wl
  by_cases h : x < 0
  · rw [if_pos h, if_pos h]; rfl
  rw [if_neg h, if_neg h]
  by_cases h2 : x ≤ nI L
  · rw [if_pos h2, if_pos h2]
    obtain ⟨j, hj, rfl⟩ := nI_of h
    have h3 := (nI_leI hj (by omega)).mp h2
    rw [div3 L (by omega) j (by omega) h3, nI_clamp hj]
    by_cases q : (L - j) / 3 < k
    · rw [if_pos (nI_lt q (by omega)), Nat.min_eq_left (by omega)]
    · rw [if_neg (nI_nlt (by omega) (by omega)), Nat.min_eq_right (by omega)]
  · rw [if_neg h2, if_neg h2]; rfl
