/-! threes and fours that cannot be -/
abbrev It : Type := Nat × Nat × Nat × Nat
/-- (a, b, c, 7): a three; (a, b, c, d): a four -/
def isB3 (e : Nat → Nat) (i : It) : Bool := decide (i.2.2.2 = 7) && (t3 e i.1 i.2.1 i.2.2.1 && !(c3 e i.1 i.2.1 i.2.2.1))
def isB4 (e : Nat → Nat) (i : It) : Bool := !(decide (i.2.2.2 = 7)) && (t4 e i.1 i.2.1 i.2.2.1 i.2.2.2 && !(c4 e i.1 i.2.1 i.2.2.1 i.2.2.2))
def isF3 (e : Nat → Nat) (i : It) : Bool := decide (i.2.2.2 = 7) && (t3 e i.1 i.2.1 i.2.2.1 && decide (w3 e i.1 i.2.1 i.2.2.1 = 0))
def isT3 (e : Nat → Nat) (i : It) : Bool := decide (i.2.2.2 = 7) && t3 e i.1 i.2.1 i.2.2.1
def isFl (e : Nat → Nat) (i : It) : Bool := isB3 e i || isB4 e i
def mk3 (a b c : Nat) : Nat := 2 ^ pr a b ||| 2 ^ pr a c ||| 2 ^ pr b c
def mkI (i : It) : Nat := if i.2.2.2 = 7 then mk3 i.1 i.2.1 i.2.2.1 else mk3 i.1 i.2.1 i.2.2.1 ||| mk3 i.1 i.2.1 i.2.2.2 ||| 2 ^ pr i.2.2.1 i.2.2.2
def mk3B (a b c : Nat) : Bool := !(decide (a < b)) || (!(decide (b < c)) || decide (X1_pairsOfThree (nI a) (nI b) (nI c) = nI (mkI (a, b, c, 7))))
theorem mk3_c0 : ∀ a, a < 7 → ∀ b, b < 7 → ∀ c, c < 7 → mk3B a b c = true := by decide +kernel
theorem mk3_c {a b c : Nat} (h1 : a < b) (h2 : b < c) (h3 : c < 7) : X1_pairsOfThree (nI a) (nI b) (nI c) = nI (mkI (a, b, c, 7)) := by
  have h := mk3_c0 a (by omega) b (by omega) c h3
  unfold mk3B at h
  rw [decide_eq_true h1, decide_eq_true h2] at h
  simpa using h
def mk4B (a b c d : Nat) : Bool := !(decide (a < b)) || (!(decide (b < c)) || (!(decide (c < d)) || decide (((X1_pairsOfThree (nI a) (nI b) (nI c)) ||| (X1_pairsOfThree (nI a) (nI b) (nI d))) ||| ((1 : Int32) <<< ((X10_pairOf (nI c) (nI d)) &&& 31)) = nI (mkI (a, b, c, d)))))
theorem mk4_c0 : ∀ a, a < 7 → ∀ b, b < 7 → ∀ c, c < 7 → ∀ d, d < 7 → mk4B a b c d = true := by decide +kernel
theorem mk4_c {a b c d : Nat} (h1 : a < b) (h2 : b < c) (h3 : c < d) (h4 : d < 7) : ((X1_pairsOfThree (nI a) (nI b) (nI c)) ||| (X1_pairsOfThree (nI a) (nI b) (nI d))) ||| ((1 : Int32) <<< ((X10_pairOf (nI c) (nI d)) &&& 31)) = nI (mkI (a, b, c, d)) := by
  have h := mk4_c0 a (by omega) b (by omega) c (by omega) d h4
  unfold mk4B at h
  rw [decide_eq_true h1, decide_eq_true h2, decide_eq_true h3] at h
  simpa using h
-- the items in the class's order
def qd (a b c : Nat) : Nat → Nat → List It
  | 0, _ => []
  | m + 1, d => (a, b, c, d) :: qd a b c m (d + 1)
def l3 (n a b c : Nat) : List It := (a, b, c, 7) :: qd a b c (n - (c + 1)) (c + 1)
def la (n b c : Nat) : Nat → Nat → List It
  | 0, _ => []
  | m + 1, a => l3 n a b c ++ la n b c m (a + 1)
def lb (n c : Nat) : Nat → Nat → List It
  | 0, _ => []
  | m + 1, b => la n b c b 0 ++ lb n c m (b + 1)
def lc (n : Nat) : Nat → Nat → List It
  | 0, _ => []
  | m + 1, c => lb n c (c - 1) 1 ++ lc n m (c + 1)
def items (n : Nat) : List It := lc n (n - 2) 2
-- and in the reference's
def lC (n a b : Nat) : Nat → Nat → List It
  | 0, _ => []
  | m + 1, c => l3 n a b c ++ lC n a b m (c + 1)
def lB (n a : Nat) : Nat → Nat → List It
  | 0, _ => []
  | m + 1, b => lC n a b (n - (b + 1)) (b + 1) ++ lB n a m (b + 1)
def lA (n : Nat) : Nat → Nat → List It
  | 0, _ => []
  | m + 1, a => lB n a (n - (a + 1)) (a + 1) ++ lA n m (a + 1)
def itemsM (n : Nat) : List It := lA n n 0
theorem items_perm0 : ∀ n, n < 8 → (items n).isPerm (itemsM n) = true := by decide +kernel
theorem items_perm {n : Nat} (h : n < 8) : (items n).Perm (itemsM n) := List.isPerm_iff.mp (items_perm0 n h)
theorem items_len : ∀ n, n < 8 → (items n).length ≤ 70 := by decide +kernel
/-- the class's cells after a part of the items -/
def cW (e : Nat → Nat) (P : List It) (b4 b3 f3 sz t3 : Int32) (fl : Nat → Int32) : Prop := b4 = nI (P.countP (isB4 e)) ∧ b3 = nI (P.countP (isB3 e)) ∧ f3 = nI (P.countP (isF3 e)) ∧ sz = nI (P.countP (isFl e)) ∧ t3 = nI (P.countP (isT3 e)) ∧ ∀ i, i < P.countP (isFl e) → fl i = nI (mkI ((P.filter (isFl e)).getD i (0, 0, 0, 0)))
theorem cnt_1 (p : It → Bool) (P : List It) (i : It) : (P ++ [i]).countP p = P.countP p + (if p i = true then 1 else 0) := by
  rw [List.countP_append, List.countP_cons, List.countP_nil, Nat.zero_add]
theorem b2_nI (b : Bool) : b2 b = nI (if b = true then 1 else 0) := by cases b <;> rfl
theorem cnt_fil (p : It → Bool) (P : List It) : P.countP p = (P.filter p).length := List.countP_eq_length_filter
theorem cW_go {e : Nat → Nat} {P : List It} {b4 b3 f3 sz t3 : Int32} {fl : Nat → Int32} (h : cW e P b4 b3 f3 sz t3 fl) (i : It) : cW e (P ++ [i]) (b4 + b2 (isB4 e i)) (b3 + b2 (isB3 e i)) (f3 + b2 (isF3 e i)) (sz + b2 (isFl e i)) (t3 + b2 (isT3 e i)) (if isFl e i = true then upd fl (P.countP (isFl e)) (nI (mkI i)) else fl) := by
  obtain ⟨h1, h2, h3, h4, h5, h6⟩ := h
  refine ⟨?_, ?_, ?_, ?_, ?_, fun k hk => ?_⟩
  · rw [cnt_1, h1, b2_nI, nI_add]
  · rw [cnt_1, h2, b2_nI, nI_add]
  · rw [cnt_1, h3, b2_nI, nI_add]
  · rw [cnt_1, h4, b2_nI, nI_add]
  · rw [cnt_1, h5, b2_nI, nI_add]
  · rw [cnt_1] at hk
    rw [List.filter_append]
    by_cases q : isFl e i = true
    · rw [if_pos q] at hk ⊢
      unfold upd
      by_cases z : k = P.countP (isFl e)
      · rw [if_pos z, List.getD_eq_getElem?_getD, List.getElem?_append_right (by rw [← cnt_fil]; omega), ← cnt_fil, z, Nat.sub_self]
        simp [q]
      · rw [if_neg z, h6 k (by omega), List.getD_eq_getElem?_getD, List.getD_eq_getElem?_getD, List.getElem?_append_left (by rw [← cnt_fil]; omega)]
    · rw [if_neg q] at hk ⊢
      rw [h6 k (by omega)]
      simp [q]
theorem add_c {k : Nat} (hk : k < 70) (x : Int32) (fl : Nat → Int32) : X1_add x (nI k) fl = some (nI k + 1, upd fl k x) := by
  unfold X1_add lat
  rw [if_neg (nI_pos (by omega)), if_neg (show ¬ (70 : Int32) ≤ nI k from nI_ge (b := 70) hk (by decide)), gd_in hk (by decide), nI_clamp (by omega)]
theorem a0 (x : Int32) : x + b2 false = x := Int32.add_zero x
theorem a1 (x : Int32) : x + b2 true = x + 1 := rfl
theorem isFl_le (e : Nat → Nat) {n : Nat} (hn : n < 8) {P Q : List It} (h : items n = P ++ Q) (i : It) (hi : isFl e i = true) (h2 : ∃ Q', Q = i :: Q') : P.countP (isFl e) < 70 := by
  have h1 := items_len n hn
  obtain ⟨Q', rfl⟩ := h2
  rw [h, List.length_append, List.length_cons] at h1
  have := List.countP_le_length (p := isFl e) (l := P)
  omega
theorem four_L {T : Tab} {pl : Int32} {sq : Nat → Int32} (ok : okT T) (hc : cT T pl sq) {a b c : Nat} (hab : a < b) (hbc : b < c) (hcn : c < T.1) : ∀ (m d n : Nat) (P Q : List It) (b4 b3 f3 sz t3 : Int32) (fl : Nat → Int32), d + m = T.1 → c < d → m + 1 ≤ n → items T.1 = P ++ (qd a b c m d ++ Q) → cW T.2 P b4 b3 f3 sz t3 fl → ∃ b4' b3' f3' sz' t3' fl', X1_lookAtThree_L86 pl sq n (nI a) (nI b) (nI c) (nI d) b4 b3 f3 sz t3 fl = some (b4', b3', f3', sz', t3', fl') ∧ cW T.2 (P ++ qd a b c m d) b4' b3' f3' sz' t3' fl'
  | 0, d, n + 1, P, Q, b4, b3, f3, sz, t3, fl, hd, _, _, _, hW => by
    have h7 := ok.2.1
    refine ⟨b4, b3, f3, sz, t3, fl, ?_, by rw [show qd a b c 0 d = [] from rfl, List.append_nil]; exact hW⟩
    show X1_lookAtThree_B86 _ _ _ _ _ _ _ _ _ _ _ _ _ = _
    unfold X1_lookAtThree_B86
    rw [hc.1, if_pos (nI_le (by omega) (by omega))]
  | m + 1, d, n + 1, P, Q, b4, b3, f3, sz, t3, fl, hd, hcd, hn, hP, hW => by
    have h7 := ok.2.1
    have d7 : ¬ d = 7 := by omega
    have n3 : isB3 T.2 (a, b, c, d) = false := by unfold isB3; rw [decide_eq_false d7]; rfl
    have nf : isF3 T.2 (a, b, c, d) = false := by unfold isF3; rw [decide_eq_false d7]; rfl
    have nt : isT3 T.2 (a, b, c, d) = false := by unfold isT3; rw [decide_eq_false d7]; rfl
    have e4 : isB4 T.2 (a, b, c, d) = (t4 T.2 a b c d && !(c4 T.2 a b c d)) := by unfold isB4; rw [decide_eq_false d7]; rfl
    have ef : isFl T.2 (a, b, c, d) = isB4 T.2 (a, b, c, d) := by unfold isFl; rw [n3]; rfl
    have hP2 : items T.1 = (P ++ [(a, b, c, d)]) ++ (qd a b c m (d + 1) ++ Q) := by rw [hP]; show _ = _; rw [List.append_assoc]; rfl
    have hW2 := cW_go hW (a, b, c, d)
    rw [n3, nf, nt, a0, a0, a0, ef] at hW2
    have eq2 : ∀ X : List It, (P ++ [(a, b, c, d)]) ++ X = P ++ ((a, b, c, d) :: X) := fun X => by rw [List.append_assoc]; rfl
    have step : ∀ b4 sz fl, cW T.2 (P ++ [(a, b, c, d)]) b4 b3 f3 sz t3 fl → ∃ b4' b3' f3' sz' t3' fl', X1_lookAtThree_L86 pl sq n (nI a) (nI b) (nI c) (nI d + 1) b4 b3 f3 sz t3 fl = some (b4', b3', f3', sz', t3', fl') ∧ cW T.2 (P ++ qd a b c (m + 1) d) b4' b3' f3' sz' t3' fl' := fun b4 sz fl hw => by
      obtain ⟨r1, r2, r3, r4, r5, r6, g1, g2⟩ := four_L ok hc hab hbc hcn m (d + 1) n (P ++ [(a, b, c, d)]) Q b4 b3 f3 sz t3 fl (by omega) (by omega) (by omega) hP2 hw
      refine ⟨r1, r2, r3, r4, r5, r6, by rw [nI_1]; exact g1, ?_⟩
      rw [eq2] at g2; exact g2
    show ∃ b4' b3' f3' sz' t3' fl', X1_lookAtThree_B86 _ _ _ _ _ _ _ _ _ _ _ _ _ = _ ∧ _
    unfold X1_lookAtThree_B86 X1_lookAtThree_J160 lat
    rw [if_neg (by rw [hc.1]; exact nI_ge (by omega) (by omega)), isToldFour_c ok hc (by omega) (by omega) (by omega) (by omega), canFour_c ok hc (by omega) (by omega) (by omega) (by omega)]
    simp only [bs]
    cases q1 : t4 T.2 a b c d with
    | false =>
      rw [q1] at e4
      rw [e4] at hW2
      rw [ifb_f]
      exact step _ _ _ (by rw [Bool.false_and, a0, a0, if_neg (by decide)] at hW2; exact hW2)
    | true =>
      rw [ifb_t]
      cases q2 : c4 T.2 a b c d with
      | true =>
        rw [q1, q2] at e4
        rw [e4] at hW2
        rw [ifb_t]
        exact step _ _ _ (by rw [show (true && !true) = false from rfl, a0, a0, if_neg (by decide)] at hW2; exact hW2)
      | false =>
        rw [q1, q2] at e4
        have efl : isFl T.2 (a, b, c, d) = true := by rw [ef, e4]; rfl
        have h70 := isFl_le T.2 (n := T.1) (by omega) hP (a, b, c, d) efl ⟨_, rfl⟩
        rw [e4, show (true && !false) = true from rfl, a1, a1, if_pos rfl] at hW2
        rw [ifb_f, mk4_c hab hbc hcd (by omega), hW.2.2.2.1, add_c h70, bs]
        dsimp only
        rw [hW.2.2.2.1] at hW2
        exact step _ _ _ hW2
theorem cW_none {e : Nat → Nat} {b4 b3 f3 sz t3 : Int32} {fl : Nat → Int32} : ∀ (X P : List It), (∀ i ∈ X, isB4 e i = false ∧ isB3 e i = false ∧ isF3 e i = false ∧ isT3 e i = false) → cW e P b4 b3 f3 sz t3 fl → cW e (P ++ X) b4 b3 f3 sz t3 fl
  | [], P, _, h => by rw [List.append_nil]; exact h
  | i :: X, P, hX, h => by
    obtain ⟨z1, z2, z3, z4⟩ := hX i (List.mem_cons_self ..)
    have h2 := cW_go h i
    have zf : isFl e i = false := by unfold isFl; rw [z1, z2]; rfl
    rw [z1, z2, z3, z4, zf, a0, a0, a0, a0, a0, if_neg (by decide)] at h2
    have h3 := cW_none X (P ++ [i]) (fun j hj => hX j (List.mem_cons_of_mem _ hj)) h2
    rw [List.append_assoc] at h3
    exact h3
theorem mem_qd {a b c : Nat} {i : It} : ∀ (m d : Nat), i ∈ qd a b c m d → ∃ d', d ≤ d' ∧ d' < d + m ∧ i = (a, b, c, d')
  | 0, d, h => absurd h (List.not_mem_nil)
  | m + 1, d, h => by
    rcases List.mem_cons.mp h with h | h
    · exact ⟨d, by omega, by omega, h⟩
    · obtain ⟨d', h1, h2, h3⟩ := mem_qd m (d + 1) h
      exact ⟨d', by omega, by omega, h3⟩
theorem three_c {T : Tab} {pl : Int32} {sq : Nat → Int32} (ok : okT T) (hc : cT T pl sq) {a b c : Nat} (hab : a < b) (hbc : b < c) (hcn : c < T.1) (P Q : List It) (b4 b3 f3 sz t3' : Int32) (fl : Nat → Int32) (hP : items T.1 = P ++ (l3 T.1 a b c ++ Q)) (hW : cW T.2 P b4 b3 f3 sz t3' fl) : ∃ b4' b3' f3' sz' t3'' fl', X1_lookAtThree (nI a) (nI b) (nI c) b4 b3 f3 sz t3' fl pl sq = some (b4', b3', f3', sz', t3'', fl') ∧ cW T.2 (P ++ l3 T.1 a b c) b4' b3' f3' sz' t3'' fl' := by
  have h7 := ok.2.1
  unfold X1_lookAtThree X1_lookAtThree_J80 lat
  rw [isToldThree_c ok hc (by omega) (by omega) (by omega), wideOf_c ok hc (by omega) (by omega) (by omega)]
  simp only [bs]
  have n4 : isB4 T.2 (a, b, c, 7) = false := by unfold isB4; rw [decide_eq_true rfl]; rfl
  have e3 : isB3 T.2 (a, b, c, 7) = (t3 T.2 a b c && !(c3 T.2 a b c)) := by unfold isB3; rw [decide_eq_true rfl]; rfl
  have ef3 : isF3 T.2 (a, b, c, 7) = (t3 T.2 a b c && decide (w3 T.2 a b c = 0)) := by unfold isF3; rw [decide_eq_true rfl]; rfl
  have et3 : isT3 T.2 (a, b, c, 7) = t3 T.2 a b c := by unfold isT3; rw [decide_eq_true rfl]; rfl
  have efl : isFl T.2 (a, b, c, 7) = isB3 T.2 (a, b, c, 7) := by unfold isFl; rw [n4, Bool.or_false]
  cases q1 : t3 T.2 a b c with
  | false =>
    rw [ifb_f]
    refine ⟨_, _, _, _, _, _, rfl, cW_none _ _ (fun i hi => ?_) hW⟩
    rcases List.mem_cons.mp hi with rfl | hi
    · rw [n4, e3, ef3, et3, q1]; exact ⟨rfl, rfl, rfl, rfl⟩
    · obtain ⟨d', g1, g2, rfl⟩ := mem_qd _ _ hi
      have d7 : ¬ d' = 7 := by omega
      refine ⟨?_, ?_, ?_, ?_⟩
      · unfold isB4 t4; rw [q1, Bool.false_and, Bool.false_and, Bool.and_false]
      · unfold isB3; rw [decide_eq_false d7]; rfl
      · unfold isF3; rw [decide_eq_false d7]; rfl
      · unfold isT3; rw [decide_eq_false d7]; rfl
  | true =>
    rw [ifb_t]
    rw [q1] at e3 ef3 et3
    have hW2 := cW_go hW (a, b, c, 7)
    rw [n4, a0, et3, a1] at hW2
    have hP2 : items T.1 = (P ++ [(a, b, c, 7)]) ++ (qd a b c (T.1 - (c + 1)) (c + 1) ++ Q) := by rw [hP]; show _ = _; rw [List.append_assoc]; rfl
    have eqP : (P ++ [(a, b, c, 7)]) ++ qd a b c (T.1 - (c + 1)) (c + 1) = P ++ l3 T.1 a b c := by rw [List.append_assoc]; rfl
    have step : ∀ b3 f3 sz fl, cW T.2 (P ++ [(a, b, c, 7)]) b4 b3 f3 sz (t3' + 1) fl → ∃ b4' b3' f3' sz' t3'' fl', X1_lookAtThree_L86 pl sq 1000 (nI a) (nI b) (nI c) (nI c + 1) b4 b3 f3 sz (t3' + 1) fl = some (b4', b3', f3', sz', t3'', fl') ∧ cW T.2 (P ++ l3 T.1 a b c) b4' b3' f3' sz' t3'' fl' := fun b3 f3 sz fl hw => by
      obtain ⟨r1, r2, r3, r4, r5, r6, g1, g2⟩ := four_L ok hc hab hbc hcn (T.1 - (c + 1)) (c + 1) 1000 (P ++ [(a, b, c, 7)]) Q b4 b3 f3 sz (t3' + 1) fl (by omega) (by omega) (by omega) hP2 hw
      rw [eqP] at g2
      exact ⟨r1, r2, r3, r4, r5, r6, by rw [nI_1]; exact g1, g2⟩
    have ec3 : c3 T.2 a b c = !(decide (w3 T.2 a b c < 0)) := rfl
    by_cases z0 : w3 T.2 a b c = 0
    · have c3t : c3 T.2 a b c = true := by rw [ec3, z0]; rfl
      rw [if_pos z0]
      rw [efl, e3, ef3, c3t, decide_eq_true z0, show (true && !true) = false from rfl, show (true && true) = true from rfl, a0, a1, a0, if_neg (by decide)] at hW2
      exact step _ _ _ _ hW2
    · rw [if_neg z0]
      rw [ef3, decide_eq_false z0, show (true && false) = false from rfl, a0] at hW2
      by_cases z1 : 0 ≤ w3 T.2 a b c
      · have c3t : c3 T.2 a b c = true := by rw [ec3, decide_eq_false (Int64.not_lt.mpr z1)]; rfl
        rw [if_pos z1]
        rw [efl, e3, c3t, show (true && !true) = false from rfl, a0, a0, if_neg (by decide)] at hW2
        exact step _ _ _ _ hW2
      · have c3t : c3 T.2 a b c = false := by rw [ec3, decide_eq_true (Int64.not_le.mp z1)]; rfl
        have efl2 : isFl T.2 (a, b, c, 7) = true := by rw [efl, e3, c3t]; rfl
        have h70 := isFl_le T.2 (n := T.1) (by omega) hP (a, b, c, 7) efl2 ⟨_, rfl⟩
        rw [if_neg z1, mk3_c hab hbc (by omega), hW.2.2.2.1, add_c h70, bs]
        rw [efl, e3, c3t, show (true && !false) = true from rfl, a1, a1, if_pos rfl, hW.2.2.2.1] at hW2
        exact step _ _ _ _ hW2
theorem look_a {T : Tab} {pl : Int32} {sq : Nat → Int32} (ok : okT T) (hc : cT T pl sq) (kk : Int32 → Int32 → Int32 → Int32 → Int32 → Int32 → Int32 → (Nat → Int32) → Option (Int32 × Int32 × Int32 × Int32 × Int32 × (Nat → Int32))) {b c : Nat} (hbc : b < c) (hcn : c < T.1) : ∀ (m a n : Nat) (P Q : List It) (b4 b3 f3 sz t3 : Int32) (fl : Nat → Int32), a + m = b → m + 1 ≤ n → items T.1 = P ++ (la T.1 b c m a ++ Q) → cW T.2 P b4 b3 f3 sz t3 fl → ∃ b4' b3' f3' sz' t3' fl', X1_lookAt_L45 pl sq kk n (nI c) (nI b) (nI a) b4 b3 f3 sz t3 fl = kk (nI c) (nI b) b4' b3' f3' sz' t3' fl' ∧ cW T.2 (P ++ la T.1 b c m a) b4' b3' f3' sz' t3' fl'
  | 0, a, n + 1, P, Q, b4, b3, f3, sz, t3, fl, ha, _, _, hW => by
    have h7 := ok.2.1
    refine ⟨b4, b3, f3, sz, t3, fl, ?_, by rw [show la T.1 b c 0 a = [] from rfl, List.append_nil]; exact hW⟩
    show X1_lookAt_B45 _ _ _ _ _ _ _ _ _ _ _ _ _ = _
    unfold X1_lookAt_B45
    rw [if_pos (nI_le (by omega) (by omega))]
  | m + 1, a, n + 1, P, Q, b4, b3, f3, sz, t3, fl, ha, hn, hP, hW => by
    have h7 := ok.2.1
    have e : la T.1 b c (m + 1) a = l3 T.1 a b c ++ la T.1 b c m (a + 1) := rfl
    rw [e, List.append_assoc] at hP
    obtain ⟨r1, r2, r3, r4, r5, r6, g1, g2⟩ := three_c ok hc (show a < b by omega) hbc hcn P _ b4 b3 f3 sz t3 fl hP hW
    obtain ⟨s1, s2, s3, s4, s5, s6, k1, k2⟩ := look_a ok hc kk hbc hcn m (a + 1) n (P ++ l3 T.1 a b c) Q r1 r2 r3 r4 r5 r6 (by omega) (by omega) (by rw [List.append_assoc]; exact hP) g2
    refine ⟨s1, s2, s3, s4, s5, s6, ?_, by rw [e, ← List.append_assoc]; exact k2⟩
    show X1_lookAt_B45 _ _ _ _ _ _ _ _ _ _ _ _ _ = _
    unfold X1_lookAt_B45 lat
    rw [if_neg (nI_ge (by omega) (by omega)), g1, bs, nI_1]
    exact k1
theorem look_b {T : Tab} {pl : Int32} {sq : Nat → Int32} (ok : okT T) (hc : cT T pl sq) (kk : Int32 → Int32 → Int32 → Int32 → Int32 → Int32 → (Nat → Int32) → Option (Int32 × Int32 × Int32 × Int32 × Int32 × (Nat → Int32))) {c : Nat} (hcn : c < T.1) : ∀ (m b n : Nat) (P Q : List It) (b4 b3 f3 sz t3 : Int32) (fl : Nat → Int32), b + m = c → m + 1 ≤ n → items T.1 = P ++ (lb T.1 c m b ++ Q) → cW T.2 P b4 b3 f3 sz t3 fl → ∃ b4' b3' f3' sz' t3' fl', X1_lookAt_L37 pl sq kk n (nI c) (nI b) b4 b3 f3 sz t3 fl = kk (nI c) b4' b3' f3' sz' t3' fl' ∧ cW T.2 (P ++ lb T.1 c m b) b4' b3' f3' sz' t3' fl'
  | 0, b, n + 1, P, Q, b4, b3, f3, sz, t3, fl, ha, _, _, hW => by
    have h7 := ok.2.1
    refine ⟨b4, b3, f3, sz, t3, fl, ?_, by rw [show lb T.1 c 0 b = [] from rfl, List.append_nil]; exact hW⟩
    show X1_lookAt_B37 _ _ _ _ _ _ _ _ _ _ _ _ = _
    unfold X1_lookAt_B37
    rw [if_pos (nI_le (by omega) (by omega))]
  | m + 1, b, n + 1, P, Q, b4, b3, f3, sz, t3, fl, ha, hn, hP, hW => by
    have h7 := ok.2.1
    have e : lb T.1 c (m + 1) b = la T.1 b c b 0 ++ lb T.1 c m (b + 1) := rfl
    rw [e, List.append_assoc] at hP
    obtain ⟨r1, r2, r3, r4, r5, r6, g1, g2⟩ := look_a ok hc (X1_lookAt_J66 (X1_lookAt_L37 pl sq kk n) kk) (show b < c by omega) hcn b 0 1000 P _ b4 b3 f3 sz t3 fl (by omega) (by omega) hP hW
    obtain ⟨s1, s2, s3, s4, s5, s6, k1, k2⟩ := look_b ok hc kk hcn m (b + 1) n (P ++ la T.1 b c b 0) Q r1 r2 r3 r4 r5 r6 (by omega) (by omega) (by rw [List.append_assoc]; exact hP) g2
    refine ⟨s1, s2, s3, s4, s5, s6, ?_, by rw [e, ← List.append_assoc]; exact k2⟩
    show X1_lookAt_B37 _ _ _ _ _ _ _ _ _ _ _ _ = _
    unfold X1_lookAt_B37
    rw [nI_0] at g1
    rw [if_neg (nI_ge (by omega) (by omega)), g1]
    unfold X1_lookAt_J66 lat
    rw [nI_1]
    exact k1
theorem look_c {T : Tab} {pl : Int32} {sq : Nat → Int32} (ok : okT T) (hc : cT T pl sq) : ∀ (m c n : Nat) (P : List It) (b4 b3 f3 sz t3 : Int32) (fl : Nat → Int32), c + m = T.1 → 2 ≤ c → m + 1 ≤ n → items T.1 = P ++ lc T.1 m c → cW T.2 P b4 b3 f3 sz t3 fl → ∃ b4' b3' f3' sz' t3' fl', X1_lookAt_L27 pl sq n (nI c) b4 b3 f3 sz t3 fl = some (b4', b3', f3', sz', t3', fl') ∧ cW T.2 (items T.1) b4' b3' f3' sz' t3' fl'
  | 0, c, n + 1, P, b4, b3, f3, sz, t3, fl, ha, _, _, hP, hW => by
    have h7 := ok.2.1
    refine ⟨b4, b3, f3, sz, t3, fl, ?_, by rw [hP, show lc T.1 0 c = [] from rfl, List.append_nil]; exact hW⟩
    show X1_lookAt_B27 _ _ _ _ _ _ _ _ _ _ = _
    unfold X1_lookAt_B27
    rw [hc.1, if_pos (nI_le (by omega) (by omega))]
  | m + 1, c, n + 1, P, b4, b3, f3, sz, t3, fl, ha, h2c, hn, hP, hW => by
    have h7 := ok.2.1
    have e : lc T.1 (m + 1) c = lb T.1 c (c - 1) 1 ++ lc T.1 m (c + 1) := rfl
    rw [e] at hP
    obtain ⟨r1, r2, r3, r4, r5, r6, g1, g2⟩ := look_b ok hc (X1_lookAt_J72 (X1_lookAt_L27 pl sq n)) (show c < T.1 by omega) (c - 1) 1 1000 P _ b4 b3 f3 sz t3 fl (by omega) (by omega) hP hW
    obtain ⟨s1, s2, s3, s4, s5, s6, k1, k2⟩ := look_c ok hc m (c + 1) n (P ++ lb T.1 c (c - 1) 1) r1 r2 r3 r4 r5 r6 (by omega) (by omega) (by omega) (by rw [List.append_assoc]; exact hP) g2
    refine ⟨s1, s2, s3, s4, s5, s6, ?_, k2⟩
    show X1_lookAt_B27 _ _ _ _ _ _ _ _ _ _ = _
    unfold X1_lookAt_B27
    rw [if_neg (by rw [hc.1]; exact nI_ge (by omega) (by omega))]
    rw [show nI 1 = 1 from rfl] at g1
    rw [g1]
    unfold X1_lookAt_J72 lat
    rw [nI_1]
    exact k1
theorem lookAt_c {T : Tab} {pl : Int32} {sq : Nat → Int32} (ok : okT T) (hc : cT T pl sq) (b4 b3 f3 sz t3 : Int32) (fl : Nat → Int32) : ∃ b4' b3' f3' sz' t3' fl', X1_lookAt b4 b3 f3 sz t3 fl pl sq = some (b4', b3', f3', sz', t3', fl') ∧ cW T.2 (items T.1) b4' b3' f3' sz' t3' fl' := by
  have := ok.1; have := ok.2.1
  exact look_c ok hc (T.1 - 2) 2 1000 [] 0 0 0 0 0 fl (by omega) (by omega) (by omega) rfl ⟨rfl, rfl, rfl, rfl, rfl, fun i hi => absurd hi (Nat.not_lt_zero i)⟩
