/-! ===== numbers, places, squares: class and reference over one table ===== -/
theorem tv_symm (e : Nat → Nat) (a b : Nat) : tv e a b = tv e b a := by
  unfold tv pr
  by_cases h : a = b
  · subst h; rfl
  · have h' : ¬ b = a := fun z => h z.symm
    rw [if_neg h, if_neg h']
    by_cases h1 : a < b
    · rw [if_pos h1, if_neg (by omega)]
    · rw [if_neg h1, if_pos (by omega)]
theorem tv_self (e : Nat → Nat) (a : Nat) : tv e a a = 0 := by unfold tv; rw [if_pos rfl]
def b2 (b : Bool) : Int32 := if b = true then 1 else 0
theorem b2_t : b2 true = 1 := rfl
theorem b2_f : b2 false = 0 := rfl
theorem b2_01 (b : Bool) : b2 b = 0 ∨ b2 b = 1 := by cases b <;> decide
theorem gz_b2 {α : Type} (b : Bool) (o : Option α) : gz (b2 b) o = o := by unfold gz; rw [if_pos (b2_01 b)]
theorem ifb_t {α : Type} (x y : α) : (if b2 true = 0 then x else y) = y := by rw [if_neg (by decide)]
theorem ifb_f {α : Type} (x y : α) : (if b2 false = 0 then x else y) = x := by rw [if_pos (by decide)]
theorem bs {α β : Type} (x : α) (f : α → Option β) : (some x).bind f = f x := by
  have h := Option.bind_some x f
  rw [h]
def isP (n : Nat) (x : Int32) : Bool := !(decide (x < 0)) && !(decide (nI n ≤ x))
theorem isP_of {n : Nat} {x : Int32} (hn : n < 2 ^ 31) (h : isP n x = true) : ∃ a, a < n ∧ x = nI a := by
  unfold isP at h
  simp only [Bool.and_eq_true, Bool.not_eq_true', decide_eq_false_iff_not] at h
  obtain ⟨j, hj, rfl⟩ := nI_of h.1
  exact ⟨j, by have := h.2; rw [nI_leI hn hj] at this; omega, rfl⟩
theorem isP_nI {n a : Nat} (hn : n < 2 ^ 31) (h : a < n) : isP n (nI a) = true := by
  unfold isP
  simp only [Bool.and_eq_true, Bool.not_eq_true', decide_eq_false_iff_not]
  exact ⟨nI_pos (by omega), nI_ge h hn⟩
theorem isP_nI' {n a : Nat} (hn : n < 2 ^ 31) (ha : a < 2 ^ 31) : isP n (nI a) = decide (a < n) := by
  by_cases h : a < n
  · rw [isP_nI hn h, decide_eq_true h]
  · unfold isP
    rw [decide_eq_false h]
    have : nI n ≤ nI a := nI_le (by omega) ha
    simp [this]
def two (n : Nat) (x y : Int32) : Bool := isP n x && (isP n y && !(decide (x = y)))
def three (n : Nat) (x y z : Int32) : Bool := two n x y && (two n x z && !(decide (y = z)))
def four (n : Nat) (x y z t : Int32) : Bool := three n x y z && (three n x y t && !(decide (z = t)))
theorem two_of {n : Nat} {x y : Int32} (hn : n < 2 ^ 31) (h : two n x y = true) : ∃ a b, a < n ∧ b < n ∧ a ≠ b ∧ x = nI a ∧ y = nI b := by
  unfold two at h
  simp only [Bool.and_eq_true, Bool.not_eq_true', decide_eq_false_iff_not] at h
  obtain ⟨a, ha, rfl⟩ := isP_of hn h.1
  obtain ⟨b, hb, rfl⟩ := isP_of hn h.2.1
  exact ⟨a, b, ha, hb, fun e => h.2.2 (by rw [e]), rfl, rfl⟩
theorem three_of {n : Nat} {x y z : Int32} (hn : n < 2 ^ 31) (h : three n x y z = true) : ∃ a b c, a < n ∧ b < n ∧ c < n ∧ a ≠ b ∧ a ≠ c ∧ b ≠ c ∧ x = nI a ∧ y = nI b ∧ z = nI c := by
  unfold three at h
  simp only [Bool.and_eq_true, Bool.not_eq_true', decide_eq_false_iff_not] at h
  obtain ⟨a, b, ha, hb, hab, rfl, rfl⟩ := two_of hn h.1
  obtain ⟨a', c, ha', hc, hac, e, rfl⟩ := two_of hn h.2.1
  have : a = a' := (nI_eq (by omega) (by omega)).mp e
  subst this
  exact ⟨a, b, c, ha, hb, hc, hab, hac, fun e => h.2.2 (by rw [e]), rfl, rfl, rfl⟩
theorem four_of {n : Nat} {x y z t : Int32} (hn : n < 2 ^ 31) (h : four n x y z t = true) : ∃ a b c d, a < n ∧ b < n ∧ c < n ∧ d < n ∧ a ≠ b ∧ a ≠ c ∧ b ≠ c ∧ a ≠ d ∧ b ≠ d ∧ c ≠ d ∧ x = nI a ∧ y = nI b ∧ z = nI c ∧ t = nI d := by
  unfold four at h
  simp only [Bool.and_eq_true, Bool.not_eq_true', decide_eq_false_iff_not] at h
  obtain ⟨a, b, c, ha, hb, hc, hab, hac, hbc, rfl, rfl, rfl⟩ := three_of hn h.1
  obtain ⟨a', b', d, ha', hb', hd, hab', had, hbd, e, e2, rfl⟩ := three_of hn h.2.1
  have : a = a' := (nI_eq (by omega) (by omega)).mp e
  subst this
  have : b = b' := (nI_eq (by omega) (by omega)).mp e2
  subst this
  exact ⟨a, b, c, d, ha, hb, hc, hd, hab, hac, hbc, had, hbd, fun e => h.2.2 (by rw [e]), rfl, rfl, rfl, rfl⟩
-- the class
theorem isPlace_c (n : Nat) (x : Int32) : X8_isPlace x (nI n) = b2 (isP n x) := by
  unfold X8_isPlace isP b2
  by_cases h1 : x < 0 <;> by_cases h2 : nI n ≤ x <;> simp [h1, h2]
theorem areTwo_c (n : Nat) (x y : Int32) : X8_areTwo x y (nI n) = b2 (two n x y) := by
  unfold X8_areTwo two
  rw [isPlace_c, isPlace_c]
  cases isP n x <;> cases isP n y <;> by_cases h : x = y <;> simp [b2, h]
theorem areThree_c (n : Nat) (x y z : Int32) : X8_areThree x y z (nI n) = b2 (three n x y z) := by
  unfold X8_areThree three
  rw [areTwo_c, areTwo_c]
  cases two n x y <;> cases two n x z <;> by_cases h : y = z <;> simp [b2, h]
theorem areFour_c (n : Nat) (x y z t : Int32) : X8_areFour x y z t (nI n) = b2 (four n x y z t) := by
  unfold X8_areFour four
  rw [areThree_c, areThree_c]
  cases three n x y z <;> cases three n x y t <;> by_cases h : z = t <;> simp [b2, h]
-- the reference
def awk (aw : Int32) (st : Nat → Int32) : Nat → Int32 := if aw = 0 then upd st 21 3 else st
def mst (T : Tab) (st : Nat → Int32) : Prop := st 21 = nI T.1 ∧ ∀ k, k < 21 → st k = nI (T.2 k)
def mQ (T : Tab) (aw : Int32) (st : Nat → Int32) : Prop := mA T aw st ∧ ∀ k, k < 21 → st k = nI (T.2 k)
theorem mQ.st {T : Tab} {aw : Int32} {st : Nat → Int32} (h : mQ T aw st) : mst T (awk aw st) := by
  unfold awk
  rcases h.1 with ⟨e, h1⟩ | ⟨e, h1, h2⟩
  · rw [if_neg (by rw [e]; decide)]; exact ⟨h1, h.2⟩
  · rw [if_pos e]
    refine ⟨?_, fun k hk => ?_⟩
    · unfold upd; rw [if_pos rfl, h2]; rfl
    · unfold upd; rw [if_neg (by omega)]; exact h.2 k hk
theorem mst.q {T : Tab} {st : Nat → Int32} (h : mst T st) : mQ T 1 st := ⟨Or.inl ⟨rfl, h.1⟩, h.2⟩
theorem awk_1 (st : Nat → Int32) : awk 1 st = st := by unfold awk; rw [if_neg (by decide)]
theorem awk_ne {aw : Int32} {st : Nat → Int32} {k : Nat} (h : k ≠ 21) : awk aw st k = st k := by
  unfold awk
  split
  · unfold upd; rw [if_neg h]
  · rfl
theorem awake_m {T : Tab} {aw : Int32} {st : Nat → Int32} (h : mQ T aw st) : X11_awake aw st = (1, awk aw st) := by
  unfold X11_awake awk
  rcases h.1 with ⟨e, h1⟩ | ⟨e, h1, h2⟩
  · rw [if_neg (by rw [e]; decide), if_neg (by rw [e]; decide), e]
  · rw [if_pos e, if_pos e]; rfl
theorem in_m {n : Nat} (h1 : 1 ≤ n) (hn : n < 2 ^ 31) (x : Int32) : X11_in x.toInt64 0 (nI n - 1).toInt64 = b2 (isP n x) := by
  have e : nI n - 1 = nI (n - 1) := by
    have := nI_pred (n - 1)
    rw [show n - 1 + 1 = n by omega] at this
    exact this
  rw [e, nI_l (by omega)]
  unfold X11_in isP b2
  have a1 : (x.toInt64 < 0) ↔ x < 0 := by
    rw [Int64.lt_iff_toInt_lt, Int32.lt_iff_toInt_lt, Int32.toInt_toInt64]; rfl
  have a2 : (lN (n - 1) < x.toInt64) ↔ nI n ≤ x := by
    rw [Int64.lt_iff_toInt_lt, Int32.le_iff_toInt_le, Int32.toInt_toInt64, lN_toInt (by omega), nI_toInt hn]; omega
  by_cases h1 : x < 0 <;> by_cases h2 : nI n ≤ x <;> simp [a1, a2, h1, h2]
theorem isPlace_m {T : Tab} {aw : Int32} {st : Nat → Int32} (ok : okT T) (h : mQ T aw st) (x : Int32) : X11_isPlace x aw st = some (b2 (isP T.1 x), 1, awk aw st) := by
  unfold X11_isPlace lat
  rw [awake_m h]
  show gz (X11_in x.toInt64 0 (awk aw st 21 - 1).toInt64) (some (X11_in x.toInt64 0 (awk aw st 21 - 1).toInt64, 1, awk aw st)) = _
  rw [h.st.1, in_m (by have := ok.1; omega) (by have := ok.2.1; omega), gz_b2]
theorem areTwo_m {T : Tab} {aw : Int32} {st : Nat → Int32} (ok : okT T) (h : mQ T aw st) (x y : Int32) : X11_areTwo x y aw st = some (b2 (two T.1 x y), 1, awk aw st) := by
  unfold X11_areTwo two
  rw [isPlace_m ok h]
  have h2 := isPlace_m ok h.st.q y
  rw [awk_1] at h2
  simp only [bs]
  rw [h2]
  simp only [bs]
  cases isP T.1 x <;> cases isP T.1 y <;> by_cases e : x = y <;> simp [b2, e]
theorem areThree_m {T : Tab} {aw : Int32} {st : Nat → Int32} (ok : okT T) (h : mQ T aw st) (x y z : Int32) : X11_areThree x y z aw st = some (b2 (three T.1 x y z), 1, awk aw st) := by
  unfold X11_areThree three
  rw [areTwo_m ok h]
  have h2 := areTwo_m ok h.st.q x z
  rw [awk_1] at h2
  simp only [bs]
  rw [h2]
  simp only [bs]
  cases two T.1 x y <;> cases two T.1 x z <;> by_cases e : y = z <;> simp [b2, e]
theorem areFour_m {T : Tab} {aw : Int32} {st : Nat → Int32} (ok : okT T) (h : mQ T aw st) (x y z t : Int32) : X11_areFour x y z t aw st = some (b2 (four T.1 x y z t), 1, awk aw st) := by
  unfold X11_areFour four
  rw [areThree_m ok h]
  have h2 := areThree_m ok h.st.q x y t
  rw [awk_1] at h2
  simp only [bs]
  rw [h2]
  simp only [bs]
  cases three T.1 x y z <;> cases three T.1 x y t <;> by_cases e : z = t <;> simp [b2, e]
-- squares
theorem pairOf_c : ∀ a, a < 7 → ∀ b, b < 7 → X10_pairOf (nI a) (nI b) = nI (if a = b then a * (a - 1) / 2 + a else pr a b) := by decide +kernel
theorem pairOf_m : ∀ a, a < 7 → ∀ b, b < 7 → X11_pairOf (nI a) (nI b) = nI (if a = b then a * (a - 1) / 2 + a else pr a b) := by decide +kernel
theorem pr_lt : ∀ a, a < 7 → ∀ b, b < 7 → a ≠ b → pr a b < 21 := by decide +kernel
theorem tv_le {T : Tab} (ok : okT T) (a b : Nat) : tv T.2 a b ≤ 9999 := by
  unfold tv
  split
  · omega
  · exact ok.2.2.1 _
theorem square_c {T : Tab} {pl : Int32} {sq : Nat → Int32} (h : cT T pl sq) {a b : Nat} (ha : a < 7) (hb : b < 7) : X8_square (nI a) (nI b) sq = some (nI (tv T.2 a b)) := by
  have e : nI a * 7 + nI b = nI (a * 7 + b) := by
    have : nI a * 7 = nI (a * 7) := (Int32.ofNat_mul a 7).symm
    rw [this, nI_add]
  have h7 : (7 : Int32) = nI 7 := rfl
  unfold X8_square
  rw [if_neg (nI_pos (by omega)), if_neg (by rw [h7]; exact nI_ge ha (by decide)), if_neg (nI_pos (by omega)), if_pos (by rw [h7]; exact nI_lt hb (by decide)), e]
  unfold gd
  rw [if_neg (nI_in (by omega) (by decide)), nI_clamp (by omega), h.2 a b ha hb]
def q6 (e : Nat → Nat) (a b : Nat) : Int64 := lN (tv e a b)
theorem q6_symm (e : Nat → Nat) (a b : Nat) : q6 e a b = q6 e b a := by unfold q6; rw [tv_symm]
theorem sq_m {T : Tab} {st : Nat → Int32} (ok : okT T) (h : ∀ k, k < 21 → st k = nI (T.2 k)) {a b : Nat} (ha : a < 7) (hb : b < 7) : X11_sq (nI a) (nI b) st = some (q6 T.2 a b) := by
  unfold X11_sq q6 tv
  by_cases e : a = b
  · subst e; rw [if_pos rfl, if_pos rfl]; rfl
  · have e' : ¬ nI a = nI b := fun z => e ((nI_eq (by omega) (by omega)).mp z)
    have hl := pr_lt a ha b hb e
    rw [if_neg e', if_neg e, pairOf_m a ha b hb, if_neg e]
    unfold gd
    rw [if_neg (nI_in (by omega) (by decide)), nI_clamp (by omega), h _ hl, nI_l (by have := ok.2.2.1 (pr a b); omega)]
theorem toI64 {T : Tab} (ok : okT T) (a b : Nat) : (nI (tv T.2 a b)).toInt64 = q6 T.2 a b := nI_l (by have := tv_le ok a b; omega)
-- told ones
def t2 (e : Nat → Nat) (a b : Nat) : Bool := decide (0 < tv e a b)
def t3 (e : Nat → Nat) (a b c : Nat) : Bool := t2 e a b && (t2 e a c && t2 e b c)
def t4 (e : Nat → Nat) (a b c d : Nat) : Bool := t3 e a b c && (t3 e a b d && t2 e c d)
def w3 (e : Nat → Nat) (a b c : Nat) : Int64 := X11_wideBy (q6 e a b) (q6 e a c) (q6 e b c)
def c3 (e : Nat → Nat) (a b c : Nat) : Bool := !(decide (w3 e a b c < 0))
def dt (e : Nat → Nat) (a b c : Nat) : Int64 := q6 e a b + q6 e a c - q6 e b c
def det (e : Nat → Nat) (a b c d : Nat) : Int64 :=
  2 * q6 e a b * (2 * q6 e a c) * (2 * q6 e a d) + 2 * dt e a b c * dt e a b d * dt e a c d - 2 * q6 e a b * dt e a c d * dt e a c d - 2 * q6 e a c * dt e a b d * dt e a b d - 2 * q6 e a d * dt e a b c * dt e a b c
def c4 (e : Nat → Nat) (a b c d : Nat) : Bool := c3 e a b c && (c3 e a b d && (c3 e a c d && (c3 e b c d && decide (det e a b c d = 0))))
theorem le0_c {T : Tab} (ok : okT T) (a b : Nat) : (nI (tv T.2 a b) ≤ 0) ↔ t2 T.2 a b = false := by
  have := tv_le ok a b
  rw [show (0 : Int32) = nI 0 from rfl, nI_leI (by omega) (by omega)]
  unfold t2; simp
theorem le0_m {T : Tab} (ok : okT T) (a b : Nat) : (q6 T.2 a b ≤ 0) ↔ t2 T.2 a b = false := by
  have := tv_le ok a b
  rw [show (0 : Int64) = lN 0 from rfl]; unfold q6; rw [lN_le (by omega) (by omega)]
  unfold t2; simp
theorem eq0_c {T : Tab} (ok : okT T) (a b : Nat) : (nI (tv T.2 a b) = 0) ↔ t2 T.2 a b = false := by
  have := tv_le ok a b
  rw [show (0 : Int32) = nI 0 from rfl, nI_eq (by omega) (by omega)]
  unfold t2; simp
theorem eq0_m {T : Tab} (ok : okT T) (a b : Nat) : (q6 T.2 a b = 0) ↔ t2 T.2 a b = false := by
  have := tv_le ok a b
  rw [show (0 : Int64) = lN 0 from rfl]; unfold q6; rw [lN_eq (by omega) (by omega)]
  unfold t2; simp
