/-! threes and fours that cannot be -/
abbrev It : Type := Nat × Nat × Nat × Nat
/-- (a, b, c, 7): a three; (a, b, c, d): a four -/
def isB3 (e : Nat → Nat) (i : It) : Bool := decide (i.2.2.2 = 7) && (t3 e i.1 i.2.1 i.2.2.1 && !(c3 e i.1 i.2.1 i.2.2.1))
def isB4 (e : Nat → Nat) (i : It) : Bool := !(decide (i.2.2.2 = 7)) && (t4 e i.1 i.2.1 i.2.2.1 i.2.2.2 && !(c4 e i.1 i.2.1 i.2.2.1 i.2.2.2))
def isF3 (e : Nat → Nat) (i : It) : Bool := decide (i.2.2.2 = 7) && (t3 e i.1 i.2.1 i.2.2.1 && decide (w3 e i.1 i.2.1 i.2.2.1 = 0))
def isT3 (e : Nat → Nat) (i : It) : Bool := decide (i.2.2.2 = 7) && t3 e i.1 i.2.1 i.2.2.1
def isFl (e : Nat → Nat) (i : It) : Bool := isB3 e i || isB4 e i
def mk3 (a b c : Nat) : Nat := 2 ^ pr a b ||| 2 ^ pr a c ||| 2 ^ pr b c
def mkI (i : It) : Nat := if i.2.2.2 = 7 then mk3 i.1 i.2.1 i.2.2.1 else mk3 i.1 i.2.1 i.2.2.1 ||| mk3 i.1 i.2.1 i.2.2.2 ||| 2 ^ pr i.2.2.1 i.2.2.2
def mk3B (a b c : Nat) : Bool := !(decide (a < b)) || (!(decide (b < c)) || decide (X1_pairsOfThree (nI a) (nI b) (nI c) = nI (mkI (a, b, c, 7))))
theorem mk3_c0 : ∀ a, a < 7 → ∀ b, b < 7 → ∀ c, c < 7 → mk3B a b c = true := by decide +kernel
theorem mk3_c {a b c : Nat} (h1 : a < b) (h2 : b < c) (h3 : c < 7) : X1_pairsOfThree (nI a) (nI b) (nI c) = nI (mkI (a, b, c, 7)) := by
  have h := mk3_c0 a (by omega) b (by omega) c h3
  unfold mk3B at h
  rw [decide_eq_true h1, decide_eq_true h2] at h
  simpa using h
def mk4B (a b c d : Nat) : Bool := !(decide (a < b)) || (!(decide (b < c)) || (!(decide (c < d)) || decide (((X1_pairsOfThree (nI a) (nI b) (nI c)) ||| (X1_pairsOfThree (nI a) (nI b) (nI d))) ||| ((1 : Int32) <<< ((X10_pairOf (nI c) (nI d)) &&& 31)) = nI (mkI (a, b, c, d)))))
theorem mk4_c0 : ∀ a, a < 7 → ∀ b, b < 7 → ∀ c, c < 7 → ∀ d, d < 7 → mk4B a b c d = true := by decide +kernel
theorem mk4_c {a b c d : Nat} (h1 : a < b) (h2 : b < c) (h3 : c < d) (h4 : d < 7) : ((X1_pairsOfThree (nI a) (nI b) (nI c)) ||| (X1_pairsOfThree (nI a) (nI b) (nI d))) ||| ((1 : Int32) <<< ((X10_pairOf (nI c) (nI d)) &&& 31)) = nI (mkI (a, b, c, d)) := by
  have h := mk4_c0 a (by omega) b (by omega) c (by omega) d h4
  unfold mk4B at h
  rw [decide_eq_true h1, decide_eq_true h2, decide_eq_true h3] at h
  simpa using h
-- the items in the class's order
def qd (a b c : Nat) : Nat → Nat → List It
  | 0, _ => []
  | m + 1, d => (a, b, c, d) :: qd a b c m (d + 1)
def l3 (n a b c : Nat) : List It := (a, b, c, 7) :: qd a b c (n - (c + 1)) (c + 1)
def la (n b c : Nat) : Nat → Nat → List It
  | 0, _ => []
  | m + 1, a => l3 n a b c ++ la n b c m (a + 1)
def lb (n c : Nat) : Nat → Nat → List It
  | 0, _ => []
  | m + 1, b => la n b c b 0 ++ lb n c m (b + 1)
def lc (n : Nat) : Nat → Nat → List It
  | 0, _ => []
  | m + 1, c => lb n c (c - 1) 1 ++ lc n m (c + 1)
def items (n : Nat) : List It := lc n (n - 2) 2
-- and in the reference's
def lC (n a b : Nat) : Nat → Nat → List It
  | 0, _ => []
  | m + 1, c => l3 n a b c ++ lC n a b m (c + 1)
def lB (n a : Nat) : Nat → Nat → List It
  | 0, _ => []
  | m + 1, b => lC n a b (n - (b + 1)) (b + 1) ++ lB n a m (b + 1)
def lA (n : Nat) : Nat → Nat → List It
  | 0, _ => []
  | m + 1, a => lB n a (n - (a + 1)) (a + 1) ++ lA n m (a + 1)
def itemsM (n : Nat) : List It := lA n n 0
theorem items_perm0 : ∀ n, n < 8 → (items n).isPerm (itemsM n) = true := by decide +kernel
theorem items_perm {n : Nat} (h : n < 8) : (items n).Perm (itemsM n) := List.isPerm_iff.mp (items_perm0 n h)
theorem items_len : ∀ n, n < 8 → (items n).length ≤ 70 := by decide +kernel
/-- the class's cells after a part of the items -/
def cW (e : Nat → Nat) (P : List It) (b4 b3 f3 sz t3 : Int32) (fl : Nat → Int32) : Prop := b4 = nI (P.countP (isB4 e)) ∧ b3 = nI (P.countP (isB3 e)) ∧ f3 = nI (P.countP (isF3 e)) ∧ sz = nI (P.countP (isFl e)) ∧ t3 = nI (P.countP (isT3 e)) ∧ ∀ i, i < P.countP (isFl e) → fl i = nI (mkI ((P.filter (isFl e)).getD i (0, 0, 0, 0)))
theorem cnt_1 (p : It → Bool) (P : List It) (i : It) : (P ++ [i]).countP p = P.countP p + (if p i = true then 1 else 0) := by
  rw [List.countP_append, List.countP_cons, List.countP_nil, Nat.zero_add]
