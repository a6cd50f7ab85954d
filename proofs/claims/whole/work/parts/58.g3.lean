/-! the fewest false: the reference's loops -/
abbrev FbR : Type := Option (Int32 × (Nat → Int32) × (Nat → Int32) × (Nat → Int32))
theorem r_L {T : Tab} {st : Nat → Int32} (ok : okT T) (hm : mst T st) {p q : Option Nat} (hp : p21 p) (hq : p21 q) {c : Nat} (h1 : 1 ≤ c) (h3 : c ≤ 3) (k206 : Int32 → Int32 → Int32 → Int32 → (Nat → Int32) → (Nat → Int32) → (Nat → Int32) → FbR) : ∀ (m r f : Nat) (o : Option Nat) (as sums : Nat → Int32), r + m = 21 → m + 1 ≤ f → (∀ j, r ≤ j → j < 21 → pcn (pm p ||| pm q ||| 2 ^ j) = c) → okF T.2 T.1 c o → ∃ o' as' sums', X11_falseBits_L74 k206 f (nI c) (bM o) (bC p) (bC q) (nI r) as st sums = k206 (nI c) (bM o') (bC p) (bC q) as' st sums' ∧ okF T.2 T.1 c o' ∧ (∀ H, leF o H → leF o' H) ∧ ∀ j, r ≤ j → j < 21 → good T.2 T.1 (pm p ||| pm q ||| 2 ^ j) → leF o' (pm p ||| pm q ||| 2 ^ j)
  | 0, r, f + 1, o, as, sums, hr, _, _, ho => by
    refine ⟨o, as, sums, ?_, ho, fun H h => h, fun j a b => by omega⟩
    show X11_falseBits_B74 _ _ _ _ _ _ _ _ _ _ = _
    unfold X11_falseBits_B74 X11_falseBits_J87
    rw [if_pos (show (1 : Int32) ≤ nI c from nI_le (a := 1) h1 (by omega)), if_pos (show (21 : Int32) ≤ nI r from nI_le (a := 21) (by omega) (by omega))]
  | m + 1, r, f + 1, o, as, sums, hr, hf, hc, ho => by
    have hr2 : p21 (some r) := fun k hk => by injection hk with hk; omega
    obtain ⟨o1, as1, su1, g1, g2, g3, g4⟩ := one_m ok hm hp hq hr2 h3 (hc r (Nat.le_refl r) (by omega)) ho (X11_falseBits_L74 k206 f) k206 as sums
    obtain ⟨o', as', su', i1, i2, i3, i4⟩ := r_L ok hm hp hq h1 h3 k206 m (r + 1) f o1 as1 su1 (by omega) (by omega) (fun j a b => hc j (by omega) b) g2
    refine ⟨o', as', su', ?_, i2, fun H h => i3 H (g3 H h), fun j a b g => ?_⟩
    · rw [← i1, ← nI_1]
      show X11_falseBits_B74 _ _ _ _ _ _ _ _ _ _ = _
      unfold X11_falseBits_B74 X11_falseBits_J87
      rw [if_pos (show (1 : Int32) ≤ nI c from nI_le (a := 1) h1 (by omega)), if_neg (show ¬ (21 : Int32) ≤ nI r from nI_ge (b := 21) (by omega) (by decide))]
      exact g1
    · rcases (show j = r ∨ r + 1 ≤ j by omega) with rfl | z
      · exact i3 _ (g4 g)
      · exact i4 j z b g
theorem p21n : p21 none := fun k h => by cases h
/-- no pair at all -/
theorem r_0 {T : Tab} {st : Nat → Int32} (ok : okT T) (hm : mst T st) (k206 : Int32 → Int32 → Int32 → Int32 → (Nat → Int32) → (Nat → Int32) → (Nat → Int32) → FbR) : ∀ (f : Nat) (as sums : Nat → Int32), 2 ≤ f → ∃ o' as' sums', X11_falseBits_L74 k206 f (nI 0) (bM none) (bC none) (bC none) (-1) as st sums = k206 (nI 0) (bM o') (bC none) (bC none) as' st sums' ∧ okF T.2 T.1 0 o' ∧ (good T.2 T.1 0 → leF o' 0)
  | f + 2, as, sums, _ => by
    obtain ⟨o1, as1, su1, g1, g2, g3, g4⟩ := one_m ok hm p21n p21n p21n (c := 0) (o := none) (by omega) (show pcn 0 = 0 from pcn_0) (fun m h => by cases h) (X11_falseBits_L74 k206 (f + 1)) k206 as sums
    refine ⟨o1, as1, su1, ?_, g2, g4⟩
    have e1 : X11_falseBits_L74 k206 (f + 2) (nI 0) (bM none) (bC none) (bC none) (-1) as st sums = X11_falseBits_L74 k206 (f + 1) (nI 0) (bM o1) (bC none) (bC none) (bC none + 1) as1 st su1 := by
      rw [← g1]
      show X11_falseBits_B74 _ _ _ _ _ _ _ _ _ _ = _
      unfold X11_falseBits_B74 X11_falseBits_J87
      rw [if_neg (show ¬ (1 : Int32) ≤ nI 0 by decide), if_neg (show ¬ (0 : Int32) ≤ -1 by decide)]
      rfl
    rw [e1]
    show X11_falseBits_B74 _ _ _ _ _ _ _ _ _ _ = _
    unfold X11_falseBits_B74 X11_falseBits_J87
    rw [if_neg (show ¬ (1 : Int32) ≤ nI 0 by decide), if_pos (show (0 : Int32) ≤ bC none + 1 by decide)]
theorem q_L {T : Tab} {st : Nat → Int32} (ok : okT T) (hm : mst T st) {p : Option Nat} (hp : p21 p) {c : Nat} (h1 : 2 ≤ c) (h3 : c ≤ 3) (k212 : Int32 → Int32 → Int32 → (Nat → Int32) → (Nat → Int32) → (Nat → Int32) → FbR) : ∀ (m q f : Nat) (o : Option Nat) (as sums : Nat → Int32), q + m = 21 → m + 1 ≤ f → (∀ i j, q ≤ i → i < j → j < 21 → pcn (pm p ||| 2 ^ i ||| 2 ^ j) = c) → okF T.2 T.1 c o → ∃ o' as' sums', X11_falseBits_L43 k212 f (nI c) (bM o) (bC p) (nI q) as st sums = k212 (nI c) (bM o') (bC p) as' st sums' ∧ okF T.2 T.1 c o' ∧ (∀ H, leF o H → leF o' H) ∧ ∀ i j, q ≤ i → i < j → j < 21 → good T.2 T.1 (pm p ||| 2 ^ i ||| 2 ^ j) → leF o' (pm p ||| 2 ^ i ||| 2 ^ j)
  | 0, q, f + 1, o, as, sums, hr, _, _, ho => by
    refine ⟨o, as, sums, ?_, ho, fun H h => h, fun i j a b d => by omega⟩
    show X11_falseBits_B43 _ _ _ _ _ _ _ _ _ = _
    unfold X11_falseBits_B43 X11_falseBits_J56
    rw [if_pos (show (2 : Int32) ≤ nI c from nI_le (a := 2) h1 (by omega)), if_pos (show (21 : Int32) ≤ nI q from nI_le (a := 21) (by omega) (by omega))]
  | m + 1, q, f + 1, o, as, sums, hr, hf, hc, ho => by
    have hq2 : p21 (some q) := fun k hk => by injection hk with hk; omega
    obtain ⟨o1, as1, su1, g1, g2, g3, g4⟩ := r_L ok hm hp hq2 (show 1 ≤ c by omega) h3 (X11_falseBits_J206 (X11_falseBits_L43 k212 f) k212) (21 - (q + 1)) (q + 1) 1000 o as sums (by omega) (by omega) (fun j a b => hc q j (Nat.le_refl q) (by omega) b) ho
    obtain ⟨o', as', su', i1, i2, i3, i4⟩ := q_L ok hm hp h1 h3 k212 m (q + 1) f o1 as1 su1 (by omega) (by omega) (fun i j a b d => hc i j (by omega) b d) g2
    refine ⟨o', as', su', ?_, i2, fun H h => i3 H (g3 H h), fun i j a b d g => ?_⟩
    · rw [← i1]
      show X11_falseBits_B43 _ _ _ _ _ _ _ _ _ = _
      unfold X11_falseBits_B43 X11_falseBits_J56 X11_falseBits_J72
      rw [if_pos (show (2 : Int32) ≤ nI c from nI_le (a := 2) h1 (by omega)), if_neg (show ¬ (21 : Int32) ≤ nI q from nI_ge (b := 21) (by omega) (by decide)), if_pos (show (1 : Int32) ≤ nI c from nI_le (a := 1) (by omega) (by omega)), nI_1]
      have g1' : X11_falseBits_L74 (X11_falseBits_J206 (X11_falseBits_L43 k212 f) k212) 1000 (nI c) (bM o) (bC p) (nI q) (nI (q + 1)) as st sums = _ := g1
      rw [g1']
      unfold X11_falseBits_J206 lat
      rw [show bC (some q) = nI q from rfl, nI_1]
    · rcases (show i = q ∨ q + 1 ≤ i by omega) with rfl | z
      · exact i3 _ (g4 j (by omega) d g)
      · exact i4 i j z b d g
/-- no second pair -/
theorem q_01 {T : Tab} {st : Nat → Int32} (ok : okT T) (hm : mst T st) {c : Nat} (h1 : c < 2) (k212 : Int32 → Int32 → Int32 → (Nat → Int32) → (Nat → Int32) → (Nat → Int32) → FbR) : ∀ (f : Nat) (as sums : Nat → Int32), 2 ≤ f → ∃ o' as' sums', X11_falseBits_L43 k212 f (nI c) (bM none) (bC none) (-1) as st sums = k212 (nI c) (bM o') (bC none) as' st sums' ∧ okF T.2 T.1 c o' ∧ ((c = 0 → good T.2 T.1 0 → leF o' 0) ∧ (c = 1 → ∀ j, j < 21 → good T.2 T.1 (2 ^ j) → leF o' (2 ^ j)))
  | f + 2, as, sums, _ => by
    have key : ∃ o' as' sums', (if 1 ≤ nI c then X11_falseBits_J72 (X11_falseBits_L43 k212 (f + 1)) k212 (nI c) (bM none) (bC none) (-1) ((-1 : Int32) + 1) as st sums else X11_falseBits_J72 (X11_falseBits_L43 k212 (f + 1)) k212 (nI c) (bM none) (bC none) (-1) (-1) as st sums) = X11_falseBits_J206 (X11_falseBits_L43 k212 (f + 1)) k212 (nI c) (bM o') (bC none) (bC none) as' st sums' ∧ okF T.2 T.1 c o' ∧ ((c = 0 → good T.2 T.1 0 → leF o' 0) ∧ (c = 1 → ∀ j, j < 21 → good T.2 T.1 (2 ^ j) → leF o' (2 ^ j))) := by
      rcases (show c = 0 ∨ c = 1 by omega) with rfl | rfl
      · obtain ⟨o1, as1, su1, g1, g2, g3⟩ := r_0 ok hm (X11_falseBits_J206 (X11_falseBits_L43 k212 (f + 1)) k212) 1000 as sums (by omega)
        rw [if_neg (show ¬ (1 : Int32) ≤ nI 0 by decide)]
        exact ⟨o1, as1, su1, g1, g2, fun _ => g3, fun z => absurd z (by decide)⟩
      · have z2 : ∀ j, pm none ||| pm none ||| 2 ^ j = 2 ^ j := fun j => by
          rw [show pm none = 0 from rfl, Nat.zero_or, Nat.zero_or]
        obtain ⟨o1, as1, su1, g1, g2, g3, g4⟩ := r_L ok hm p21n p21n (Nat.le_refl 1) (by omega) (X11_falseBits_J206 (X11_falseBits_L43 k212 (f + 1)) k212) 21 0 1000 none as sums (by omega) (by omega) (fun j _ hj => by
          rw [z2]
          have := pcn_or (M := 0) hj (Nat.zero_testBit j)
          rw [Nat.zero_or, pcn_0] at this; exact this) (fun m h => by cases h)
        rw [if_pos (show (1 : Int32) ≤ nI 1 by decide)]
        refine ⟨o1, as1, su1, g1, g2, fun z => absurd z (by decide), fun _ j hj g => ?_⟩
        have := g4 j (by omega) hj
        rw [z2] at this
        exact this g
    obtain ⟨o1, as1, su1, g1, g2, g3⟩ := key
    refine ⟨o1, as1, su1, ?_, g2, g3⟩
    have n2 : ¬ (2 : Int32) ≤ nI c := nI_ge (b := 2) h1 (by decide)
    have e1 : X11_falseBits_L43 k212 (f + 2) (nI c) (bM none) (bC none) (-1) as st sums = X11_falseBits_J206 (X11_falseBits_L43 k212 (f + 1)) k212 (nI c) (bM o1) (bC none) (bC none) as1 st su1 := by
      rw [← g1]
      show X11_falseBits_B43 _ _ _ _ _ _ _ _ _ = _
      unfold X11_falseBits_B43 X11_falseBits_J56
      rw [if_neg n2, if_neg (show ¬ (0 : Int32) ≤ -1 by decide)]
    rw [e1]
    unfold X11_falseBits_J206 lat
    show X11_falseBits_B43 _ _ _ _ _ _ _ _ _ = _
    unfold X11_falseBits_B43 X11_falseBits_J56
    rw [if_neg n2, if_pos (show (0 : Int32) ≤ bC none + 1 by decide)]
def scF (c H : Nat) : Prop := H < 2 ^ 21 ∧ pcn H = c
theorem p_L {T : Tab} {st : Nat → Int32} (ok : okT T) (hm : mst T st) : ∀ (m p f : Nat) (o : Option Nat) (as sums : Nat → Int32), p + m = 21 → m + 1 ≤ f → okF T.2 T.1 3 o → ∃ o' as' sums', X11_falseBits_L14 f (nI 3) (bM o) (nI p) as st sums = some (bM o', as', st, sums') ∧ okF T.2 T.1 3 o' ∧ (∀ H, leF o H → leF o' H) ∧ ∀ h i j, p ≤ h → h < i → i < j → j < 21 → good T.2 T.1 (2 ^ h ||| 2 ^ i ||| 2 ^ j) → leF o' (2 ^ h ||| 2 ^ i ||| 2 ^ j)
  | 0, p, f + 1, o, as, sums, hr, _, ho => by
    refine ⟨o, as, sums, ?_, ho, fun H h => h, fun h i j a b d e => by omega⟩
    show X11_falseBits_B14 _ _ _ _ _ _ _ = _
    unfold X11_falseBits_B14 X11_falseBits_J26
    rw [if_pos (show (3 : Int32) ≤ nI 3 by decide), if_pos (show (21 : Int32) ≤ nI p from nI_le (a := 21) (by omega) (by omega))]
  | m + 1, p, f + 1, o, as, sums, hr, hf, ho => by
    have hp2 : p21 (some p) := fun k hk => by injection hk with hk; omega
    obtain ⟨o1, as1, su1, g1, g2, g3, g4⟩ := q_L ok hm hp2 (c := 3) (by omega) (by omega) (X11_falseBits_J212 (X11_falseBits_L14 f)) (21 - (p + 1)) (p + 1) 1000 o as sums (by omega) (by omega) (fun i j a b d => by
      have n1 : (2 ^ p).testBit i = false := by rw [Nat.testBit_two_pow]; exact decide_eq_false (by omega)
      have n2 : (2 ^ p ||| 2 ^ i).testBit j = false := by rw [Nat.testBit_or, Nat.testBit_two_pow, Nat.testBit_two_pow, decide_eq_false (by omega), decide_eq_false (by omega)]; rfl
      have c1 := pcn_or (M := 0) (k := p) (by omega) (Nat.zero_testBit p)
      rw [Nat.zero_or, pcn_0] at c1
      have c2 := pcn_or (k := i) (by omega) n1
      have c3 := pcn_or (k := j) (by omega) n2
      show pcn (2 ^ p ||| 2 ^ i ||| 2 ^ j) = 3
      omega) ho
    obtain ⟨o', as', su', i1, i2, i3, i4⟩ := p_L ok hm m (p + 1) f o1 as1 su1 (by omega) (by omega) g2
    refine ⟨o', as', su', ?_, i2, fun H h => i3 H (g3 H h), fun h i j a b d e g => ?_⟩
    · rw [← i1]
      show X11_falseBits_B14 _ _ _ _ _ _ _ = _
      unfold X11_falseBits_B14 X11_falseBits_J26 X11_falseBits_J41
      rw [if_pos (show (3 : Int32) ≤ nI 3 by decide), if_neg (show ¬ (21 : Int32) ≤ nI p from nI_ge (b := 21) (by omega) (by decide)), if_pos (show (2 : Int32) ≤ nI 3 by decide), nI_1]
      have g1' : X11_falseBits_L43 (X11_falseBits_J212 (X11_falseBits_L14 f)) 1000 (nI 3) (bM o) (nI p) (nI (p + 1)) as st sums = _ := g1
      rw [g1']
      unfold X11_falseBits_J212 lat
      rw [show bC (some p) = nI p from rfl, nI_1]
    · rcases (show h = p ∨ p + 1 ≤ h by omega) with rfl | z
      · exact i3 _ (g4 i j (by omega) d e g)
      · exact i4 h i j z b d e g
/-- no first pair -/
theorem p_012 {T : Tab} {st : Nat → Int32} (ok : okT T) (hm : mst T st) {c : Nat} (h1 : c < 3) : ∀ (f : Nat) (as sums : Nat → Int32), 2 ≤ f → ∃ o' as' sums', X11_falseBits_L14 f (nI c) (bM none) (-1) as st sums = some (bM o', as', st, sums') ∧ okF T.2 T.1 c o' ∧ ((c = 0 → good T.2 T.1 0 → leF o' 0) ∧ (c = 1 → ∀ j, j < 21 → good T.2 T.1 (2 ^ j) → leF o' (2 ^ j)) ∧ (c = 2 → ∀ i j, i < j → j < 21 → good T.2 T.1 (2 ^ i ||| 2 ^ j) → leF o' (2 ^ i ||| 2 ^ j)))
  | f + 2, as, sums, _ => by
    have key : ∃ o' as' sums', (if 2 ≤ nI c then X11_falseBits_J41 (X11_falseBits_L14 (f + 1)) (nI c) (bM none) (-1) ((-1 : Int32) + 1) as st sums else X11_falseBits_J41 (X11_falseBits_L14 (f + 1)) (nI c) (bM none) (-1) (-1) as st sums) = X11_falseBits_J212 (X11_falseBits_L14 (f + 1)) (nI c) (bM o') (bC none) as' st sums' ∧ okF T.2 T.1 c o' ∧ ((c = 0 → good T.2 T.1 0 → leF o' 0) ∧ (c = 1 → ∀ j, j < 21 → good T.2 T.1 (2 ^ j) → leF o' (2 ^ j)) ∧ (c = 2 → ∀ i j, i < j → j < 21 → good T.2 T.1 (2 ^ i ||| 2 ^ j) → leF o' (2 ^ i ||| 2 ^ j))) := by
      rcases (show c < 2 ∨ c = 2 by omega) with z | rfl
      · obtain ⟨o1, as1, su1, g1, g2, g3, g4⟩ := q_01 ok hm z (X11_falseBits_J212 (X11_falseBits_L14 (f + 1))) 1000 as sums (by omega)
        rw [if_neg (show ¬ (2 : Int32) ≤ nI c from nI_ge (b := 2) z (by decide))]
        exact ⟨o1, as1, su1, g1, g2, g3, g4, fun y => by omega⟩
      · have z2 : ∀ i j, pm none ||| 2 ^ i ||| 2 ^ j = 2 ^ i ||| 2 ^ j := fun i j => by
          rw [show pm none = 0 from rfl, Nat.zero_or]
        obtain ⟨o1, as1, su1, g1, g2, g3, g4⟩ := q_L ok hm p21n (c := 2) (by omega) (by omega) (X11_falseBits_J212 (X11_falseBits_L14 (f + 1))) 21 0 1000 none as sums (by omega) (by omega) (fun i j a b d => by
          rw [z2]
          have n1 : (2 ^ i).testBit j = false := by rw [Nat.testBit_two_pow]; exact decide_eq_false (by omega)
          have c1 := pcn_or (M := 0) (k := i) (by omega) (Nat.zero_testBit i)
          rw [Nat.zero_or, pcn_0] at c1
          have c2 := pcn_or (k := j) (by omega) n1
          omega) (fun m h => by cases h)
        rw [if_pos (show (2 : Int32) ≤ nI 2 by decide)]
        refine ⟨o1, as1, su1, g1, g2, fun y => by omega, fun y => by omega, fun _ i j a b g => ?_⟩
        have := g4 i j (by omega) a b
        rw [z2] at this
        exact this g
    obtain ⟨o1, as1, su1, g1, g2, g3⟩ := key
    refine ⟨o1, as1, su1, ?_, g2, g3⟩
    have n3 : ¬ (3 : Int32) ≤ nI c := nI_ge (b := 3) h1 (by decide)
    have e1 : X11_falseBits_L14 (f + 2) (nI c) (bM none) (-1) as st sums = X11_falseBits_J212 (X11_falseBits_L14 (f + 1)) (nI c) (bM o1) (bC none) as1 st su1 := by
      rw [← g1]
      show X11_falseBits_B14 _ _ _ _ _ _ _ = _
      unfold X11_falseBits_B14 X11_falseBits_J26
      rw [if_neg n3, if_neg (show ¬ (0 : Int32) ≤ -1 by decide)]
    rw [e1]
    unfold X11_falseBits_J212 lat
    show X11_falseBits_B14 _ _ _ _ _ _ _ = _
    unfold X11_falseBits_B14 X11_falseBits_J26
    rw [if_neg n3, if_pos (show (0 : Int32) ≤ bC none + 1 by decide)]
theorem bits_of {T : Tab} {st : Nat → Int32} (ok : okT T) (hm : mst T st) {c : Nat} (h3 : c ≤ 3) (as sums : Nat → Int32) : ∃ o as' sums', X11_falseBits (nI c) as st sums = some (bM o, as', st, sums') ∧ okF T.2 T.1 c o ∧ ∀ H, H < 2 ^ 21 → pcn H = c → good T.2 T.1 H → leF o H := by
  rcases (show c < 3 ∨ c = 3 by omega) with z | rfl
  · obtain ⟨o, as', su', g1, g2, g3, g4, g5⟩ := p_012 ok hm z 1000 as sums (by omega)
    refine ⟨o, as', su', ?_, g2, fun H a b g => ?_⟩
    · unfold X11_falseBits X11_falseBits_J13
      rw [if_neg (show ¬ (3 : Int32) ≤ nI c from nI_ge (b := 3) z (by decide))]
      exact g1
    · rcases forms a (by omega) with ⟨rfl, p⟩ | ⟨x, hx, rfl, p⟩ | ⟨x, y, h1, h2, rfl, p⟩ | ⟨x, y, w, h1, h2, h3, rfl, p⟩
      · exact g3 (by omega) g
      · exact g4 (by omega) x hx g
      · exact g5 (by omega) x y h1 h2 g
      · omega
  · obtain ⟨o, as', su', g1, g2, g3, g4⟩ := p_L ok hm 21 0 1000 none as sums (by omega) (by omega) (fun m h => by cases h)
    refine ⟨o, as', su', ?_, g2, fun H a b g => ?_⟩
    · unfold X11_falseBits X11_falseBits_J13
      rw [if_pos (show (3 : Int32) ≤ nI 3 by decide)]
      exact g1
    · rcases forms a (by omega) with ⟨rfl, p⟩ | ⟨x, hx, rfl, p⟩ | ⟨x, y, h1, h2, rfl, p⟩ | ⟨x, y, w, h1, h2, h3, rfl, p⟩
      · omega
      · omega
      · omega
      · exact g4 x y w (by omega) h1 h2 h3 g
/-- the reference by the class's answer -/
theorem falses_L {T : Tab} {st : Nat → Int32} (ok : okT T) (hm : mst T st) {o : Option Nat} (ho : okO T.2 T.1 o) (hl : ∀ H, H < 2 ^ 21 → hits T.2 T.1 H → pcn H ≤ 3 → leO o H) (x : Int32) : ∀ (m c f : Nat) (as sums : Nat → Int32), c + m = 4 → m + 1 ≤ f → (∀ k, o = some k → c ≤ pcn k) → ∃ as' sums', X11_falses_L18 X11_falses_J35 f x (nI c) 1 as st sums = some (match o with | none => -4 | some k => (if x = 0 then nI (pcn k) else nI k), 1, as', st, sums')
  | 0, c, f + 1, as, sums, hc, _, hk => by
    refine ⟨as, sums, ?_⟩
    have on : o = none := by
      cases o with
      | none => rfl
      | some k => have := hk k rfl; have := (ho k rfl).2.1; omega
    subst on
    show X11_falses_B18 _ _ _ _ _ _ _ _ = _
    unfold X11_falses_B18
    rw [if_pos (show (3 : Int32) < nI c from nI_lt (a := 3) (by omega) (by omega))]
  | m + 1, c, f + 1, as, sums, hc, hf, hk => by
    have h8 : T.1 < 8 := by have := ok.2.1; omega
    obtain ⟨o2, as2, su2, g1, g2, g3⟩ := bits_of ok hm (show c ≤ 3 by omega) as sums
    show ∃ as' sums', X11_falses_B18 _ _ _ _ _ _ _ _ = _
    unfold X11_falses_B18 lat
    rw [if_neg (show ¬ (3 : Int32) < nI c from nI_nlt (a := 3) (by omega) (by decide)), g1, bs]
    dsimp only
    cases o2 with
    | none =>
      rw [show bM none = -4 from rfl, if_pos rfl, nI_1]
      refine falses_L ok hm ho hl x m (c + 1) f as2 su2 (by omega) (by omega) (fun k z => ?_)
      have h1 := hk k z
      rcases (show c + 1 ≤ pcn k ∨ pcn k = c by omega) with y | y
      · exact y
      · exfalso
        obtain ⟨k1, k2, k3⟩ := ho k z
        obtain ⟨m', w, -⟩ := g3 k k1 y ⟨k3, fun j hj => by
          have := told_o h8 k1 k2 k3 (fun H a b d => by
            obtain ⟨m', w1, w2⟩ := hl H a b d
            rw [z] at w1
            rw [Option.some.inj w1]; exact w2) hj
          omega⟩
        cases w
    | some b =>
      obtain ⟨b1, b2', b3⟩ := g2 b rfl
      have n4 : ¬ nI b = -4 := fun z => by have := nI_pos (n := b) (by omega); rw [z] at this; exact this (by decide)
      rw [show bM (some b) = nI b from rfl, if_neg n4]
      obtain ⟨k, w1, w2⟩ := hl b b1 b3 (by omega)
      subst w1
      obtain ⟨k1, k2, k3⟩ := ho k rfl
      have h1 := hk k rfl
      have e1 : pcn k = c := by
        rcases (show pcn k = c ∨ c < pcn k by omega) with y | y
        · exact y
        · have := (kk2_lt b1 k1).mpr (Or.inl (by omega)); omega
      obtain ⟨b', v1, v2⟩ := g3 k k1 e1 ⟨k3, fun j hj => by
          have := told_o h8 k1 k2 k3 (fun H a b d => by
            obtain ⟨m', w1, w2⟩ := hl H a b d
            rw [Option.some.inj w1]; exact w2) hj
          omega⟩
      injection v1 with v1
      subst v1
      have e2 : b = k := by
        rcases (show b = k ∨ b < k by omega) with y | y
        · exact y
        · have := (kk2_lt b1 k1).mpr (Or.inr ⟨by omega, y⟩); omega
      subst e2
      refine ⟨as2, su2, ?_⟩
      unfold X11_falses_J35
      dsimp only
      by_cases z : x = 0
      · rw [if_pos z, if_pos z, e1]
      · rw [if_neg z, if_neg z]
theorem falses_m {T : Tab} {aw : Int32} {st : Nat → Int32} (hm : mQ T aw st) (x : Int32) (as sums : Nat → Int32) : X11_falses x aw as st sums = if b2 (rng 0 1 x) = 0 then some (-1, 1, as, awk aw st, sums) else X11_falses_L18 X11_falses_J35 1000 x 0 1 as (awk aw st) sums := by
  have key : ∀ (F : Int32 → Int32 → Int32 → (Nat → Int32) → (Nat → Int32) → (Nat → Int32) → Option (Int32 × Int32 × (Nat → Int32) × (Nat → Int32) × (Nat → Int32))), (lat (X11_awake aw st) fun u3 => if (X11_in x.toInt64 (0 : Int64) (1 : Int64)) = 0 then (some ((-1 : Int32), u3.1, as, u3.2, sums)) else (F x (0 : Int32) u3.1 as u3.2 sums)) = if b2 (rng 0 1 x) = 0 then some (-1, 1, as, awk aw st, sums) else F x 0 1 as (awk aw st) sums := by
    intro F
    rw [awake_m hm, in_01]
    unfold lat
    dsimp only
  exact key (X11_falses_L18 X11_falses_J35 1000)
theorem q_falses {T : Tab} {pl aw : Int32} {sq st : Nat → Int32} (ok : okT T) (hc : cT T pl sq) (hm : mQ T aw st) (x : Int32) (g1 g2 g0 g3 g4 g5 : Int32) (g6 as sums : Nat → Int32) : ∃ u um, X10_falses x g1 g2 g0 g3 g4 g5 g6 pl sq = some u ∧ X11_falses x aw as st sums = some um ∧ u.1 = um.1 ∧ um.2.1 = 1 ∧ um.2.2.2.1 = awk aw st := by
  have h7 := ok.2.1
  have h8 : T.1 < 8 := by omega
  obtain ⟨b4, b3, f3, sz, t3, fl, e1, e2⟩ := lookAt_c ok hc g1 g2 g3 g4 g5 g6
  rw [falses_m hm x]
  unfold X10_falses
  rw [e1, bs]
  dsimp only
  cases h : rng 0 1 x with
  | false =>
    rw [ifb_f]
    refine ⟨(-1, g1, g2, g0, g3, g4, g5, g6), _, ?_, rfl, rfl, rfl, rfl⟩
    unfold rng at h
    rw [nI_0, show nI 1 = 1 from rfl] at h
    by_cases q : x < 0
    · rw [if_pos q]
    · rw [if_neg q, if_neg (fun z => by simp [q, z] at h)]
  | true =>
    rw [ifb_t]
    have h2 := h
    unfold rng at h2
    rw [nI_0, show nI 1 = 1 from rfl] at h2
    simp only [Bool.and_eq_true, Bool.not_eq_true', decide_eq_false_iff_not, decide_eq_true_eq] at h2
    rw [if_neg h2.1, if_pos h2.2]
    obtain ⟨c1, c2, c3, c4, c5, c6⟩ := e2
    obtain ⟨o, k1, k2, k3⟩ := fewest_c h8 c6 g0
    have k1' : X1_fewestFalse g0 sz fl = some (bC o, bC o) := by rw [c4]; exact k1
    obtain ⟨as', su', l1⟩ := falses_L ok hm.st k2 k3 x 4 0 1000 as sums (by omega) (by omega) (fun k _ => Nat.zero_le _)
    have l1' : X11_falses_L18 X11_falses_J35 1000 x 0 1 as (awk aw st) sums = _ := l1
    rw [k1', bs, l1']
    dsimp only
    cases o with
    | none =>
      rw [show bC none = -1 from rfl, if_pos rfl]
      exact ⟨_, _, rfl, rfl, rfl, rfl, rfl⟩
    | some k =>
      obtain ⟨j1, j2, j3⟩ := k2 k rfl
      have n1 : ¬ nI k = -1 := fun z => by have := nI_pos (n := k) (by omega); rw [z] at this; exact this (by decide)
      rw [show bC (some k) = nI k from rfl, if_neg n1, bcn j1 j2]
      by_cases x0 : x = 0
      · rw [if_pos x0]; refine ⟨_, _, rfl, rfl, ?_, rfl, rfl⟩; dsimp only; rw [if_pos x0]
      · rw [if_neg x0]; refine ⟨_, _, rfl, rfl, ?_, rfl, rfl⟩; dsimp only; rw [if_neg x0]
