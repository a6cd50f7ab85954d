/-! threes and fours that cannot be -/
abbrev It : Type := Nat × Nat × Nat × Nat
/-- (a, b, c, 7): a three; (a, b, c, d): a four -/
def isB3 (e : Nat → Nat) (i : It) : Bool := decide (i.2.2.2 = 7) && (t3 e i.1 i.2.1 i.2.2.1 && !(c3 e i.1 i.2.1 i.2.2.1))
def isB4 (e : Nat → Nat) (i : It) : Bool := !(decide (i.2.2.2 = 7)) && (t4 e i.1 i.2.1 i.2.2.1 i.2.2.2 && !(c4 e i.1 i.2.1 i.2.2.1 i.2.2.2))
def isF3 (e : Nat → Nat) (i : It) : Bool := decide (i.2.2.2 = 7) && (t3 e i.1 i.2.1 i.2.2.1 && decide (w3 e i.1 i.2.1 i.2.2.1 = 0))
def isT3 (e : Nat → Nat) (i : It) : Bool := decide (i.2.2.2 = 7) && t3 e i.1 i.2.1 i.2.2.1
def isFl (e : Nat → Nat) (i : It) : Bool := isB3 e i || isB4 e i
def mk3 (a b c : Nat) : Nat := 2 ^ pr a b ||| 2 ^ pr a c ||| 2 ^ pr b c
def mkI (i : It) : Nat := if i.2.2.2 = 7 then mk3 i.1 i.2.1 i.2.2.1 else mk3 i.1 i.2.1 i.2.2.1 ||| mk3 i.1 i.2.1 i.2.2.2 ||| 2 ^ pr i.2.2.1 i.2.2.2
def mk3B (a b c : Nat) : Bool := !(decide (a < b)) || (!(decide (b < c)) || decide (X1_pairsOfThree (nI a) (nI b) (nI c) = nI (mkI (a, b, c, 7))))
theorem mk3_c0 : ∀ a, a < 7 → ∀ b, b < 7 → ∀ c, c < 7 → mk3B a b c = true := by decide +kernel
theorem mk3_c {a b c : Nat} (h1 : a < b) (h2 : b < c) (h3 : c < 7) : X1_pairsOfThree (nI a) (nI b) (nI c) = nI (mkI (a, b, c, 7)) := by
  have h := mk3_c0 a (by omega) b (by omega) c h3
  unfold mk3B at h
  rw [decide_eq_true h1, decide_eq_true h2] at h
  simpa using h
def mk4B (a b c d : Nat) : Bool := !(decide (a < b)) || (!(decide (b < c)) || (!(decide (c < d)) || decide (((X1_pairsOfThree (nI a) (nI b) (nI c)) ||| (X1_pairsOfThree (nI a) (nI b) (nI d))) ||| ((1 : Int32) <<< ((X10_pairOf (nI c) (nI d)) &&& 31)) = nI (mkI (a, b, c, d)))))
theorem mk4_c0 : ∀ a, a < 7 → ∀ b, b < 7 → ∀ c, c < 7 → ∀ d, d < 7 → mk4B a b c d = true := by decide +kernel
theorem mk4_c {a b c d : Nat} (h1 : a < b) (h2 : b < c) (h3 : c < d) (h4 : d < 7) : ((X1_pairsOfThree (nI a) (nI b) (nI c)) ||| (X1_pairsOfThree (nI a) (nI b) (nI d))) ||| ((1 : Int32) <<< ((X10_pairOf (nI c) (nI d)) &&& 31)) = nI (mkI (a, b, c, d)) := by
  have h := mk4_c0 a (by omega) b (by omega) c (by omega) d h4
  unfold mk4B at h
  rw [decide_eq_true h1, decide_eq_true h2, decide_eq_true h3] at h
  simpa using h
-- the items in the class's order
def qd (a b c : Nat) : Nat → Nat → List It
  | 0, _ => []
  | m + 1, d => (a, b, c, d) :: qd a b c m (d + 1)
def l3 (n a b c : Nat) : List It := (a, b, c, 7) :: qd a b c (n - (c + 1)) (c + 1)
def la (n b c : Nat) : Nat → Nat → List It
  | 0, _ => []
  | m + 1, a => l3 n a b c ++ la n b c m (a + 1)
def lb (n c : Nat) : Nat → Nat → List It
  | 0, _ => []
  | m + 1, b => la n b c b 0 ++ lb n c m (b + 1)
def lc (n : Nat) : Nat → Nat → List It
  | 0, _ => []
  | m + 1, c => lb n c (c - 1) 1 ++ lc n m (c + 1)
def items (n : Nat) : List It := lc n (n - 2) 2
-- and in the reference's
def lC (n a b : Nat) : Nat → Nat → List It
  | 0, _ => []
  | m + 1, c => l3 n a b c ++ lC n a b m (c + 1)
def lB (n a : Nat) : Nat → Nat → List It
  | 0, _ => []
  | m + 1, b => lC n a b (n - (b + 1)) (b + 1) ++ lB n a m (b + 1)
def lA (n : Nat) : Nat → Nat → List It
  | 0, _ => []
  | m + 1, a => lB n a (n - (a + 1)) (a + 1) ++ lA n m (a + 1)
def itemsM (n : Nat) : List It := lA n n 0
theorem items_perm0 : ∀ n, n < 8 → (items n).isPerm (itemsM n) = true := by decide +kernel
theorem items_perm {n : Nat} (h : n < 8) : (items n).Perm (itemsM n) := List.isPerm_iff.mp (items_perm0 n h)
theorem items_len : ∀ n, n < 8 → (items n).length ≤ 70 := by decide +kernel
/-- the class's cells after a part of the items -/
def cW (e : Nat → Nat) (P : List It) (b4 b3 f3 sz t3 : Int32) (fl : Nat → Int32) : Prop := b4 = nI (P.countP (isB4 e)) ∧ b3 = nI (P.countP (isB3 e)) ∧ f3 = nI (P.countP (isF3 e)) ∧ sz = nI (P.countP (isFl e)) ∧ t3 = nI (P.countP (isT3 e)) ∧ ∀ i, i < P.countP (isFl e) → fl i = nI (mkI ((P.filter (isFl e)).getD i (0, 0, 0, 0)))
theorem cnt_1 (p : It → Bool) (P : List It) (i : It) : (P ++ [i]).countP p = P.countP p + (if p i = true then 1 else 0) := by
  rw [List.countP_append, List.countP_cons, List.countP_nil, Nat.zero_add]
theorem b2_nI (b : Bool) : b2 b = nI (if b = true then 1 else 0) := by cases b <;> rfl
theorem cnt_fil (p : It → Bool) (P : List It) : P.countP p = (P.filter p).length := List.countP_eq_length_filter
theorem cW_go {e : Nat → Nat} {P : List It} {b4 b3 f3 sz t3 : Int32} {fl : Nat → Int32} (h : cW e P b4 b3 f3 sz t3 fl) (i : It) : cW e (P ++ [i]) (b4 + b2 (isB4 e i)) (b3 + b2 (isB3 e i)) (f3 + b2 (isF3 e i)) (sz + b2 (isFl e i)) (t3 + b2 (isT3 e i)) (if isFl e i = true then upd fl (P.countP (isFl e)) (nI (mkI i)) else fl) := by
  obtain ⟨h1, h2, h3, h4, h5, h6⟩ := h
  refine ⟨?_, ?_, ?_, ?_, ?_, fun k hk => ?_⟩
  · rw [cnt_1, h1, b2_nI, nI_add]
  · rw [cnt_1, h2, b2_nI, nI_add]
  · rw [cnt_1, h3, b2_nI, nI_add]
  · rw [cnt_1, h4, b2_nI, nI_add]
  · rw [cnt_1, h5, b2_nI, nI_add]
  · rw [cnt_1] at hk
    rw [List.filter_append]
    by_cases q : isFl e i = true
    · rw [if_pos q] at hk ⊢
      unfold upd
      by_cases z : k = P.countP (isFl e)
      · rw [if_pos z, List.getD_eq_getElem?_getD, List.getElem?_append_right (by rw [← cnt_fil]; omega), ← cnt_fil, z, Nat.sub_self]
        simp [q]
      · rw [if_neg z, h6 k (by omega), List.getD_eq_getElem?_getD, List.getD_eq_getElem?_getD, List.getElem?_append_left (by rw [← cnt_fil]; omega)]
    · rw [if_neg q] at hk ⊢
      rw [h6 k (by omega)]
      simp [q]
theorem add_c {k : Nat} (hk : k < 70) (x : Int32) (fl : Nat → Int32) : X1_add x (nI k) fl = some (nI k + 1, upd fl k x) := by
  unfold X1_add lat
  rw [if_neg (nI_pos (by omega)), if_neg (show ¬ (70 : Int32) ≤ nI k from nI_ge (b := 70) hk (by decide)), gd_in hk (by decide), nI_clamp (by omega)]
theorem a0 (x : Int32) : x + b2 false = x := Int32.add_zero x
theorem a1 (x : Int32) : x + b2 true = x + 1 := rfl
theorem isFl_le (e : Nat → Nat) {n : Nat} (hn : n < 8) {P Q : List It} (h : items n = P ++ Q) (i : It) (hi : isFl e i = true) (h2 : ∃ Q', Q = i :: Q') : P.countP (isFl e) < 70 := by
  have h1 := items_len n hn
  obtain ⟨Q', rfl⟩ := h2
  rw [h, List.length_append, List.length_cons] at h1
  have := List.countP_le_length (p := isFl e) (l := P)
  omega
theorem four_L {T : Tab} {pl : Int32} {sq : Nat → Int32} (ok : okT T) (hc : cT T pl sq) {a b c : Nat} (hab : a < b) (hbc : b < c) (hcn : c < T.1) : ∀ (m d n : Nat) (P Q : List It) (b4 b3 f3 sz t3 : Int32) (fl : Nat → Int32), d + m = T.1 → c < d → m + 1 ≤ n → items T.1 = P ++ (qd a b c m d ++ Q) → cW T.2 P b4 b3 f3 sz t3 fl → ∃ b4' b3' f3' sz' t3' fl', X1_lookAtThree_L86 pl sq n (nI a) (nI b) (nI c) (nI d) b4 b3 f3 sz t3 fl = some (b4', b3', f3', sz', t3', fl') ∧ cW T.2 (P ++ qd a b c m d) b4' b3' f3' sz' t3' fl'
  | 0, d, n + 1, P, Q, b4, b3, f3, sz, t3, fl, hd, _, _, _, hW => by
    have h7 := ok.2.1
    refine ⟨b4, b3, f3, sz, t3, fl, ?_, by rw [show qd a b c 0 d = [] from rfl, List.append_nil]; exact hW⟩
    show X1_lookAtThree_B86 _ _ _ _ _ _ _ _ _ _ _ _ _ = _
    unfold X1_lookAtThree_B86
    rw [hc.1, if_pos (nI_le (by omega) (by omega))]
  | m + 1, d, n + 1, P, Q, b4, b3, f3, sz, t3, fl, hd, hcd, hn, hP, hW => by
    have h7 := ok.2.1
    have d7 : ¬ d = 7 := by omega
    have n3 : isB3 T.2 (a, b, c, d) = false := by unfold isB3; rw [decide_eq_false d7]; rfl
    have nf : isF3 T.2 (a, b, c, d) = false := by unfold isF3; rw [decide_eq_false d7]; rfl
    have nt : isT3 T.2 (a, b, c, d) = false := by unfold isT3; rw [decide_eq_false d7]; rfl
    have e4 : isB4 T.2 (a, b, c, d) = (t4 T.2 a b c d && !(c4 T.2 a b c d)) := by unfold isB4; rw [decide_eq_false d7]; rfl
    have ef : isFl T.2 (a, b, c, d) = isB4 T.2 (a, b, c, d) := by unfold isFl; rw [n3]; rfl
    have hP2 : items T.1 = (P ++ [(a, b, c, d)]) ++ (qd a b c m (d + 1) ++ Q) := by rw [hP]; show _ = _; rw [List.append_assoc]; rfl
    have hW2 := cW_go hW (a, b, c, d)
    rw [n3, nf, nt, a0, a0, a0, ef] at hW2
    have eq2 : ∀ X : List It, (P ++ [(a, b, c, d)]) ++ X = P ++ ((a, b, c, d) :: X) := fun X => by rw [List.append_assoc]; rfl
    have step : ∀ b4 sz fl, cW T.2 (P ++ [(a, b, c, d)]) b4 b3 f3 sz t3 fl → ∃ b4' b3' f3' sz' t3' fl', X1_lookAtThree_L86 pl sq n (nI a) (nI b) (nI c) (nI d + 1) b4 b3 f3 sz t3 fl = some (b4', b3', f3', sz', t3', fl') ∧ cW T.2 (P ++ qd a b c (m + 1) d) b4' b3' f3' sz' t3' fl' := fun b4 sz fl hw => by
      obtain ⟨r1, r2, r3, r4, r5, r6, g1, g2⟩ := four_L ok hc hab hbc hcn m (d + 1) n (P ++ [(a, b, c, d)]) Q b4 b3 f3 sz t3 fl (by omega) (by omega) (by omega) hP2 hw
      refine ⟨r1, r2, r3, r4, r5, r6, by rw [nI_1]; exact g1, ?_⟩
      rw [eq2] at g2; exact g2
    show ∃ b4' b3' f3' sz' t3' fl', X1_lookAtThree_B86 _ _ _ _ _ _ _ _ _ _ _ _ _ = _ ∧ _
    unfold X1_lookAtThree_B86 X1_lookAtThree_J160 lat
    rw [if_neg (by rw [hc.1]; exact nI_ge (by omega) (by omega)), isToldFour_c ok hc (by omega) (by omega) (by omega) (by omega), canFour_c ok hc (by omega) (by omega) (by omega) (by omega)]
    simp only [bs]
    cases q1 : t4 T.2 a b c d with
    | false =>
      rw [q1] at e4
      rw [e4] at hW2
      rw [ifb_f]
      exact step _ _ _ (by rw [Bool.false_and, a0, a0, if_neg (by decide)] at hW2; exact hW2)
    | true =>
      rw [ifb_t]
      cases q2 : c4 T.2 a b c d with
      | true =>
        rw [q1, q2] at e4
        rw [e4] at hW2
        rw [ifb_t]
        exact step _ _ _ (by rw [show (true && !true) = false from rfl, a0, a0, if_neg (by decide)] at hW2; exact hW2)
      | false =>
        rw [q1, q2] at e4
        have efl : isFl T.2 (a, b, c, d) = true := by rw [ef, e4]; rfl
        have h70 := isFl_le T.2 (n := T.1) (by omega) hP (a, b, c, d) efl ⟨_, rfl⟩
        rw [e4, show (true && !false) = true from rfl, a1, a1, if_pos rfl] at hW2
        rw [ifb_f, mk4_c hab hbc hcd (by omega), hW.2.2.2.1, add_c h70, bs]
        dsimp only
        rw [hW.2.2.2.1] at hW2
        exact step _ _ _ hW2
