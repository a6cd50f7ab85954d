/-! the fewest false: the class's search -/
def kk2 (N : Nat) : Nat := pcn N * 2 ^ 21 + N
def leO (o : Option Nat) (H : Nat) : Prop := ∃ m, o = some m ∧ kk2 m ≤ kk2 H
def okO (e : Nat → Nat) (n : Nat) (o : Option Nat) : Prop := ∀ m, o = some m → m < 2 ^ 21 ∧ pcn m ≤ 3 ∧ hits e n m
def sbs (M N : Nat) : Prop := ∀ k, M.testBit k = true → N.testBit k = true
theorem sbs_k {M N : Nat} (hM : M < 2 ^ 21) (hN : N < 2 ^ 21) (h : sbs M N) : kk2 M ≤ kk2 N := by
  obtain ⟨h1, h2⟩ := pcn_sub hM hN h
  unfold kk2
  rcases Nat.lt_or_ge (pcn M) (pcn N) with z | z
  · have : (pcn M + 1) * 2 ^ 21 ≤ pcn N * 2 ^ 21 := Nat.mul_le_mul_right _ z
    rw [Nat.add_mul] at this
    omega
  · rw [h2 (by omega)]; exact Nat.le_refl _
theorem kk2_lt {M N : Nat} (hM : M < 2 ^ 21) (hN : N < 2 ^ 21) : kk2 M < kk2 N ↔ pcn M < pcn N ∨ (pcn M = pcn N ∧ M < N) := by
  unfold kk2
  rcases Nat.lt_trichotomy (pcn M) (pcn N) with z | z | z
  · have : (pcn M + 1) * 2 ^ 21 ≤ pcn N * 2 ^ 21 := Nat.mul_le_mul_right _ z
    rw [Nat.add_mul] at this
    omega
  · rw [z]; omega
  · have : (pcn N + 1) * 2 ^ 21 ≤ pcn M * 2 ^ 21 := Nat.mul_le_mul_right _ z
    rw [Nat.add_mul] at this
    omega
theorem better_c {e : Nat → Nat} {n N : Nat} (hN : N < 2 ^ 21) (h3 : pcn N ≤ 3) {o : Option Nat} (ho : okO e n o) : X1_isBetter (nI N) (bC o) = match o with | none => 1 | some m => if kk2 N < kk2 m then 1 else 0 := by
  unfold X1_isBetter lat
  cases o with
  | none => rw [show bC none = -1 from rfl, if_pos rfl]
  | some m =>
    obtain ⟨hm, m3, -⟩ := ho m rfl
    have n1 : ¬ nI m = -1 := fun z => by have := nI_pos (n := m) (by omega); rw [z] at this; exact this (by decide)
    rw [show bC (some m) = nI m from rfl, if_neg n1, bcn hm m3, bcn hN h3]
    have es : ∀ a, a < 4 → ∀ b, b < 4 → ((0 < nI a - nI b) ↔ b < a) ∧ ((nI a - nI b = 0) ↔ a = b) := by decide
    obtain ⟨e1, e2⟩ := es (pcn m) (by omega) (pcn N) (by omega)
    have e3 : (nI m ≤ nI N) ↔ m ≤ N := nI_leI (by omega) (by omega)
    have e4 := kk2_lt hN hm
    simp only [e1, e2, e3, e4]
    by_cases z1 : pcn N < pcn m
    · simp [z1]
    · by_cases z2 : pcn m = pcn N
      · by_cases z3 : m ≤ N
        · simp [z2, z3, Nat.not_lt.mpr z3]
        · simp [z2, z3, Nat.not_le.mp z3]
      · have z3 : ¬ pcn N = pcn m := fun z => z2 z.symm
        simp [z1, z2, z3]
theorem leO_t {o : Option Nat} {M H : Nat} (h : leO o M) (h2 : kk2 M ≤ kk2 H) : leO o H := by
  obtain ⟨m, h1, h3⟩ := h
  exact ⟨m, h1, Nat.le_trans h3 h2⟩
theorem and_bit {M N : Nat} (h : ¬ M &&& N = 0) (hN : N < 2 ^ 21) : ∃ j, j < 21 ∧ M.testBit j = true ∧ N.testBit j = true := by
  obtain ⟨j, hj⟩ := Nat.exists_testBit_of_ne_zero h
  rw [Nat.testBit_and, Bool.and_eq_true] at hj
  refine ⟨j, ?_, hj.1, hj.2⟩
  rcases Nat.lt_or_ge j 21 with z | z
  · exact z
  · have := bit_big hN z; rw [this] at hj; exact absurd hj.2 (by decide)
theorem bit_and {M N j : Nat} (h1 : M.testBit j = true) (h2 : N.testBit j = true) : ¬ M &&& N = 0 := by
  intro z
  have : (M &&& N).testBit j = true := by rw [Nat.testBit_and, h1, h2]; rfl
  rw [z] at this
  simp at this
theorem or_lt {N k : Nat} (hN : N < 2 ^ 21) (hk : k < 21) : N ||| 2 ^ k < 2 ^ 21 := Nat.or_lt_two_pow hN (Nat.pow_lt_pow_right (by decide) hk)
theorem leave_L {e : Nat → Nat} {n : Nat} (hn : n < 8) {sz : Int32} {fl : Nat → Int32} {d N : Nat} (hN : N < 2 ^ 21) (hd : pcn N + (d + 1) = 3) {t : It} (ht : t ∈ items n) (hz : mkI t &&& N = 0)
    (ih : ∀ (M : Nat) (o : Option Nat), pcn M + d = 3 → M < 2 ^ 21 → okO e n o → ∃ o', X1_leaveOut (d + 1) (nI M) (nI (pcn M)) (bC o) sz fl = some (bC o') ∧ okO e n o' ∧ (∀ H, leO o H → leO o' H) ∧ ∀ H, H < 2 ^ 21 → sbs M H → hits e n H → pcn H ≤ 3 → leO o' H) :
    ∀ (m k f : Nat) (o : Option Nat), k + m = 21 → m + 1 ≤ f → okO e n o → ∃ o', X1_leaveOut_L33 (X1_leaveOut (d + 1)) sz fl f (nI N) (nI (pcn N)) (nI (mkI t)) (nI k) (bC o) = some (bC o') ∧ okO e n o' ∧ (∀ H, leO o H → leO o' H) ∧ ∀ j, k ≤ j → j < 21 → (mkI t).testBit j = true → ∀ H, H < 2 ^ 21 → sbs (N ||| 2 ^ j) H → hits e n H → pcn H ≤ 3 → leO o' H
  | 0, k, f + 1, o, hk, _, ho => by
    refine ⟨o, ?_, ho, fun H h => h, fun j h1 h2 => by omega⟩
    show X1_leaveOut_B33 _ _ _ _ _ _ _ _ _ = _
    unfold X1_leaveOut_B33
    rw [if_pos (show (21 : Int32) ≤ nI k from nI_le (a := 21) (by omega) (by omega))]
  | m + 1, k, f + 1, o, hk, hf, ho => by
    have hb := mask_b hn ht (show k < 21 by omega)
    show ∃ o', X1_leaveOut_B33 _ _ _ _ _ _ _ _ _ = _ ∧ _
    unfold X1_leaveOut_B33 X1_leaveOut_J62 lat
    rw [if_neg (show ¬ (21 : Int32) ≤ nI k from nI_ge (b := 21) (by omega) (by decide)), hb, shlk k (by omega), nI_or, nI_1, nI_1]
    cases hq : (mkI t).testBit k with
    | false =>
      rw [ifb_f]
      obtain ⟨o', h1, h2, h3, h4⟩ := leave_L hn hN hd ht hz ih m (k + 1) f o (by omega) (by omega) ho
      refine ⟨o', h1, h2, h3, fun j g1 g2 g3 => ?_⟩
      rcases (show j = k ∨ k + 1 ≤ j by omega) with rfl | g4
      · rw [hq] at g3; exact absurd g3 (by decide)
      · exact h4 j g4 g2 g3
    | true =>
      rw [ifb_t]
      have nb : N.testBit k = false := by
        cases z : N.testBit k with
        | false => rfl
        | true => exact absurd hz (bit_and hq z)
      have ep := pcn_or (M := N) (k := k) (by omega) nb
      obtain ⟨o1, h1, h2, h3, h4⟩ := ih (N ||| 2 ^ k) o (by omega) (or_lt hN (by omega)) ho
      rw [ep] at h1
      rw [h1, bs]
      obtain ⟨o', g1, g2, g3, g4⟩ := leave_L hn hN hd ht hz ih m (k + 1) f o1 (by omega) (by omega) h2
      refine ⟨o', g1, g2, fun H hH => g3 H (h3 H hH), fun j i1 i2 i3 H i4 i5 i6 i7 => ?_⟩
      rcases (show j = k ∨ k + 1 ≤ j by omega) with rfl | g5
      · exact g3 H (h4 H i4 i5 i6 i7)
      · exact g4 j g5 i2 i3 H i4 i5 i6 i7
theorem leave_c {e : Nat → Nat} {n : Nat} (hn : n < 8) {fl : Nat → Int32} (hf : ∀ i, i < (items n).countP (isFl e) → fl i = nI (mkI (((items n).filter (isFl e)).getD i (0, 0, 0, 0)))) : ∀ (d N : Nat) (o : Option Nat), pcn N + d = 3 → N < 2 ^ 21 → okO e n o → ∃ o', X1_leaveOut (d + 1) (nI N) (nI (pcn N)) (bC o) (nI ((items n).countP (isFl e))) fl = some (bC o') ∧ okO e n o' ∧ (∀ H, leO o H → leO o' H) ∧ ∀ H, H < 2 ^ 21 → sbs N H → hits e n H → pcn H ≤ 3 → leO o' H := by
  have fin : ∀ (d N : Nat) (o : Option Nat), pcn N ≤ 3 → N < 2 ^ 21 → okO e n o → X1_firstFlawWithout (nI N) (nI ((items n).countP (isFl e))) fl = some 0 → hits e n N → ∃ o', X1_leaveOut (d + 1) (nI N) (nI (pcn N)) (bC o) (nI ((items n).countP (isFl e))) fl = some (bC o') ∧ okO e n o' ∧ (∀ H, leO o H → leO o' H) ∧ ∀ H, H < 2 ^ 21 → sbs N H → hits e n H → pcn H ≤ 3 → leO o' H := by
    intro d N o hd hN ho h1 h2
    have ey : X1_leaveOut (d + 1) (nI N) (nI (pcn N)) (bC o) (nI ((items n).countP (isFl e))) fl = if X1_isBetter (nI N) (bC o) = 0 then some (bC o) else some (nI N) := by
      show X1_leaveOut_R _ _ _ _ _ _ = _
      unfold X1_leaveOut_R
      rw [h1, bs, if_pos rfl]
    have eb := better_c hN hd ho
    have okN : okO e n (some N) := fun m hm => by injection hm with hm; subst hm; exact ⟨hN, hd, h2⟩
    have leN : ∀ H, H < 2 ^ 21 → sbs N H → hits e n H → pcn H ≤ 3 → leO (some N) H := fun H a1 a2 a3 a4 => ⟨N, rfl, sbs_k hN a1 a2⟩
    cases o with
    | none =>
      dsimp only at eb
      rw [ey, eb, if_neg (by decide)]
      exact ⟨some N, rfl, okN, fun H ⟨m, z, _⟩ => absurd z (by simp), leN⟩
    | some m =>
      dsimp only at eb
      by_cases z : kk2 N < kk2 m
      · rw [if_pos z] at eb
        rw [ey, eb, if_neg (by decide)]
        refine ⟨some N, rfl, okN, fun H ⟨m', z', y⟩ => ⟨N, rfl, ?_⟩, leN⟩
        have e : m = m' := by injection z'
        rw [← e] at y
        exact Nat.le_trans (Nat.le_of_lt z) y
      · rw [if_neg z] at eb
        rw [ey, eb, if_pos rfl]
        exact ⟨some m, rfl, ho, fun H h => h, fun H a1 a2 a3 a4 => ⟨m, rfl, by have := sbs_k hN a1 a2; omega⟩⟩
  intro d
  induction d with
  | zero =>
    intro N o hd hN ho
    rcases first_c hn hf hN with ⟨h1, h2⟩ | ⟨t, ht, hfl, hz, h1⟩
    · exact fin 0 N o (by omega) hN ho h1 h2
    · obtain ⟨k1, k2⟩ := mask_n hn ht
      refine ⟨o, ?_, ho, fun H h => h, fun H a1 a2 a3 a4 => ?_⟩
      · show X1_leaveOut_R _ _ _ _ _ _ = _
        unfold X1_leaveOut_R
        rw [h1, bs, if_neg (nI_ne0 (by omega) (by omega)), show pcn N = 3 by omega, if_neg (by decide)]
      · obtain ⟨b1, b2⟩ := pcn_sub hN a1 a2
        have := b2 (by omega)
        subst this
        exact absurd hz (a3 t ht hfl)
  | succ d ih =>
    intro N o hd hN ho
    rcases first_c hn hf hN with ⟨h1, h2⟩ | ⟨t, ht, hfl, hz, h1⟩
    · exact fin (d + 1) N o (by omega) hN ho h1 h2
    · obtain ⟨k1, k2⟩ := mask_n hn ht
      obtain ⟨o', g1, g2, g3, g4⟩ := leave_L hn hN hd ht hz ih 21 0 1000 o (by omega) (by omega) ho
      refine ⟨o', ?_, g2, g3, fun H a1 a2 a3 a4 => ?_⟩
      · show X1_leaveOut_R (X1_leaveOut (d + 1)) _ _ _ _ _ = _
        unfold X1_leaveOut_R
        rw [h1, bs, if_neg (nI_ne0 (by omega) (by omega)), if_pos (show nI (pcn N) < 3 from nI_lt (b := 3) (by omega) (by decide))]
        exact g1
      · obtain ⟨j, c1, c2, c3⟩ := and_bit (a3 t ht hfl) a1
        refine g4 j (by omega) c1 c2 H a1 (fun k hk => ?_) a3 a4
        rw [Nat.testBit_or, Nat.testBit_two_pow, Bool.or_eq_true] at hk
        rcases hk with hk | hk
        · exact a2 k hk
        · rw [decide_eq_true_eq] at hk; subst hk; exact c3
/-- the class's answer: the least of those that hit -/
theorem fewest_c {e : Nat → Nat} {n : Nat} (hn : n < 8) {fl : Nat → Int32} (hf : ∀ i, i < (items n).countP (isFl e) → fl i = nI (mkI (((items n).filter (isFl e)).getD i (0, 0, 0, 0)))) (g : Int32) : ∃ o, X1_fewestFalse g (nI ((items n).countP (isFl e))) fl = some (bC o, bC o) ∧ okO e n o ∧ ∀ H, H < 2 ^ 21 → hits e n H → pcn H ≤ 3 → leO o H := by
  obtain ⟨o, h1, h2, h3, h4⟩ := leave_c hn hf 3 0 none (by rw [pcn_0]) (by decide) (fun m h => by cases h)
  refine ⟨o, ?_, h2, fun H a1 a2 a3 => h4 H a1 (fun k hk => by rw [Nat.zero_testBit] at hk; exact absurd hk (by decide)) a2 a3⟩
  unfold X1_fewestFalse
  rw [pcn_0] at h1
  have h1' : X1_leaveOut 4 0 0 (-1) (nI ((items n).countP (isFl e))) fl = some (bC o) := h1
  rw [h1', bs]
/-- a least one has only told lengths -/
theorem told_o {e : Nat → Nat} {n : Nat} (hn : n < 8) {m : Nat} (hm : m < 2 ^ 21) (h3 : pcn m ≤ 3) (hh : hits e n m) (hl : ∀ H, H < 2 ^ 21 → hits e n H → pcn H ≤ 3 → kk2 m ≤ kk2 H) {k : Nat} (hk : m.testBit k = true) : ¬ e k = 0 := by
  intro z
  have k21 : k < 21 := by
    rcases Nat.lt_or_ge k 21 with y | y
    · exact y
    · rw [bit_big hm y] at hk; exact absurd hk (by decide)
  have b1 : ∀ j, (m ^^^ 2 ^ k).testBit j = (m.testBit j && !(decide (k = j))) := fun j => by
    rw [Nat.testBit_xor, Nat.testBit_two_pow]
    by_cases y : k = j
    · subst y; rw [hk, decide_eq_true rfl]; rfl
    · rw [decide_eq_false y]; simp
  have hx : m ^^^ 2 ^ k < 2 ^ 21 := Nat.xor_lt_two_pow hm (Nat.pow_lt_pow_right (by decide) k21)
  have e1 : (m ^^^ 2 ^ k) ||| 2 ^ k = m := by
    apply Nat.eq_of_testBit_eq
    intro j
    rw [Nat.testBit_or, b1, Nat.testBit_two_pow]
    by_cases y : k = j
    · subst y; rw [hk]; simp
    · rw [decide_eq_false y]; simp
  have e2 := pcn_or (M := m ^^^ 2 ^ k) (k := k) k21 (by rw [b1]; simp)
  rw [e1] at e2
  have hh2 : hits e n (m ^^^ 2 ^ k) := fun i hi hfl => by
    obtain ⟨j, j1, j2, j3⟩ := and_bit (hh i hi hfl) hm
    refine bit_and j2 ?_
    rw [b1, j3]
    by_cases y : k = j
    · subst y
      have := isFl_u0 (e := e) hn hi k
      rw [up_id z, hfl, j2] at this
      exact absurd this (by decide)
    · rw [decide_eq_false y]; rfl
  have l1 := hl _ hx hh2 (by omega)
  have l2 := (kk2_lt hx hm).mpr (Or.inl (by omega))
  omega
