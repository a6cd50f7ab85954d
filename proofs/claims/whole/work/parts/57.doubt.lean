/-! the length most doubted -/
def itB (n : Nat) (i : It) : Bool := decide (i.1 < i.2.1) && (decide (i.2.1 < i.2.2.1) && (decide (i.2.2.1 < n) && (decide (i.2.2.2 = 7) || (decide (i.2.2.1 < i.2.2.2) && decide (i.2.2.2 < n)))))
theorem items_b0 : ∀ n, n < 8 → (items n).all (itB n) = true := by decide +kernel
theorem items_b {n : Nat} (hn : n < 8) {i : It} (hi : i ∈ items n) : i.1 < i.2.1 ∧ i.2.1 < i.2.2.1 ∧ i.2.2.1 < n ∧ (i.2.2.2 = 7 ∨ (i.2.2.1 < i.2.2.2 ∧ i.2.2.2 < n)) := by
  have h := List.all_eq_true.mp (items_b0 n hn) i hi
  unfold itB at h
  simpa using h
theorem items_7 : ∀ n, n < 8 → (items n).all (fun i => (items 7).contains i) = true := by decide +kernel
theorem mask_b0 : (items 7).all (fun i => (List.range 21).all (fun k => decide (X10_hasBit (nI (mkI i)) (nI k) = b2 ((mkI i).testBit k)))) = true := by decide +kernel
theorem mask_b {n : Nat} (hn : n < 8) {i : It} (hi : i ∈ items n) {k : Nat} (hk : k < 21) : X10_hasBit (nI (mkI i)) (nI k) = b2 ((mkI i).testBit k) := by
  have h1 := List.all_eq_true.mp (items_7 n hn) i hi
  have h2 := List.all_eq_true.mp mask_b0 i (List.contains_iff_mem.mp h1)
  have h3 := List.all_eq_true.mp h2 k (List.mem_range.mpr hk)
  exact of_decide_eq_true h3
theorem sm_0 (f : Nat → Nat) : ∀ n, sm f (n + 1) = f 0 + sm (fun j => f (j + 1)) n
  | 0 => by show 0 + f 0 = f 0 + 0; omega
  | n + 1 => by
    have h := sm_0 f n
    show sm f (n + 1) + f (n + 1) = f 0 + (sm (fun j => f (j + 1)) n + f (n + 1))
    omega
theorem sm_cnt (p : It → Bool) (d : It) : ∀ F : List It, sm (fun j => if p (F.getD j d) = true then 1 else 0) F.length = F.countP p
  | [] => rfl
  | i :: F => by
    have h := sm_cnt p d F
    rw [List.length_cons, sm_0, List.countP_cons]
    show (if p i = true then 1 else 0) + sm (fun j => if p (F.getD j d) = true then 1 else 0) F.length = _
    rw [h]; omega
theorem sm_le1 (f : Nat → Nat) (h : ∀ j, f j ≤ 1) : ∀ n, sm f n ≤ n
  | 0 => Nat.le_refl 0
  | n + 1 => by have := sm_le1 f h n; have := h n; show sm f n + f n ≤ _; omega
/-- the flaws with a bit -/
def fw (e : Nat → Nat) (n k : Nat) : Nat := ((items n).filter (isFl e)).countP (fun i => (mkI i).testBit k)
theorem fw_cL {e : Nat → Nat} {n : Nat} (hn : n < 8) {fl : Nat → Int32} (hf : ∀ i, i < (items n).countP (isFl e) → fl i = nI (mkI (((items n).filter (isFl e)).getD i (0, 0, 0, 0)))) {k : Nat} (hk : k < 21) : ∀ (m i f : Nat), i + m = (items n).countP (isFl e) → m + 1 ≤ f → X1_flawsWith_L4 (nI ((items n).countP (isFl e))) fl f (nI k) (nI (sm (fun j => if (mkI (((items n).filter (isFl e)).getD j (0, 0, 0, 0))).testBit k = true then 1 else 0) i)) (nI i) = some (nI (fw e n k))
  | 0, i, f + 1, hi, _ => by
    have h1 := items_len n hn
    have h2 := List.countP_le_length (p := isFl e) (l := items n)
    show X1_flawsWith_B4 _ _ _ _ _ _ = _
    unfold X1_flawsWith_B4
    rw [if_pos (nI_le (by omega) (by omega)), show i = (items n).countP (isFl e) by omega, cnt_fil, sm_cnt (fun i => (mkI i).testBit k)]
    rfl
  | m + 1, i, f + 1, hi, hf' => by
    have h1 := items_len n hn
    have h2 := List.countP_le_length (p := isFl e) (l := items n)
    have h3 := fw_cL hn hf hk m (i + 1) f (by omega) (by omega)
    have hl : i < ((items n).filter (isFl e)).length := by rw [← cnt_fil]; omega
    have hmem : ((items n).filter (isFl e)).getD i (0, 0, 0, 0) ∈ items n := by
      rw [List.getD_eq_getElem?_getD, List.getElem?_eq_getElem hl]
      exact (List.mem_filter.mp (List.getElem_mem hl)).1
    show X1_flawsWith_B4 _ _ _ _ _ _ = _
    unfold X1_flawsWith_B4 lat
    rw [if_neg (nI_ge (by omega) (by omega)), if_neg (show ¬ (70 : Int32) ≤ nI i from nI_ge (b := 70) (by omega) (by decide)), gd_in (by omega) (by decide), nI_clamp (by omega), hf i (by omega), mask_b hn hmem hk, nI_1]
    have eb : X10_bit (b2 ((mkI (((items n).filter (isFl e)).getD i (0, 0, 0, 0))).testBit k)) = nI (if (mkI (((items n).filter (isFl e)).getD i (0, 0, 0, 0))).testBit k = true then 1 else 0) := by
      cases (mkI (((items n).filter (isFl e)).getD i (0, 0, 0, 0))).testBit k <;> rfl
    rw [eb, nI_add]
    exact h3
theorem fw_c {e : Nat → Nat} {n : Nat} (hn : n < 8) {fl : Nat → Int32} (hf : ∀ i, i < (items n).countP (isFl e) → fl i = nI (mkI (((items n).filter (isFl e)).getD i (0, 0, 0, 0)))) {k : Nat} (hk : k < 21) : X1_flawsWith (nI k) (nI ((items n).countP (isFl e))) fl = some (nI (fw e n k)) := by
  have h1 := items_len n hn
  have h2 := List.countP_le_length (p := isFl e) (l := items n)
  have := fw_cL hn hf hk ((items n).countP (isFl e)) 0 1000 (by omega) (by omega)
  exact this
theorem tv_u0 {e : Nat → Nat} {k a b : Nat} (h : a ≠ b) : tv (up e k 0) a b = if pr a b = k then 0 else tv e a b := by
  unfold tv up
  rw [if_neg h, if_neg h]
theorem t2_u0 {e : Nat → Nat} {k a b : Nat} (h : a ≠ b) : t2 (up e k 0) a b = (t2 e a b && !(decide (pr a b = k))) := by
  unfold t2
  rw [tv_u0 h]
  by_cases q : pr a b = k
  · rw [if_pos q, decide_eq_true q, Bool.not_true, Bool.and_false]; rfl
  · rw [if_neg q, decide_eq_false q, Bool.not_false, Bool.and_true]
theorem bit_mk3 (a b c k : Nat) : (mk3 a b c).testBit k = (decide (pr a b = k) || (decide (pr a c = k) || decide (pr b c = k))) := by
  unfold mk3
  rw [Nat.testBit_or, Nat.testBit_or, Nat.testBit_two_pow, Nat.testBit_two_pow, Nat.testBit_two_pow, Bool.or_assoc]
theorem isFl_u0 {e : Nat → Nat} {n : Nat} (hn : n < 8) {i : It} (hi : i ∈ items n) (k : Nat) : isFl (up e k 0) i = (isFl e i && !((mkI i).testBit k)) := by
  obtain ⟨h1, h2, h3, h4⟩ := items_b hn hi
  obtain ⟨a, b, c, d⟩ := i
  dsimp only at h1 h2 h3 h4
  have ab := t2_u0 (e := e) (k := k) (show a ≠ b by omega)
  have ac := t2_u0 (e := e) (k := k) (show a ≠ c by omega)
  have bc := t2_u0 (e := e) (k := k) (show b ≠ c by omega)
  have vab := tv_u0 (e := e) (k := k) (show a ≠ b by omega)
  have vac := tv_u0 (e := e) (k := k) (show a ≠ c by omega)
  have vbc := tv_u0 (e := e) (k := k) (show b ≠ c by omega)
  rcases h4 with h4 | ⟨h4, h5⟩
  · subst h4
    unfold isFl isB3 isB4 mkI
    dsimp only
    rw [decide_eq_true (show 7 = 7 from rfl), if_pos rfl, bit_mk3]
    unfold t3
    rw [ab, ac, bc]
    by_cases q1 : pr a b = k
    · simp [q1]
    by_cases q2 : pr a c = k
    · simp [q2]
    by_cases q3 : pr b c = k
    · simp [q3]
    rw [if_neg q1] at vab; rw [if_neg q2] at vac; rw [if_neg q3] at vbc
    have ec : c3 (up e k 0) a b c = c3 e a b c := by unfold c3 w3 q6; rw [vab, vac, vbc]
    rw [ec, decide_eq_false q1, decide_eq_false q2, decide_eq_false q3]
    simp
  · have d7 : ¬ d = 7 := by omega
    have ad := t2_u0 (e := e) (k := k) (show a ≠ d by omega)
    have bd := t2_u0 (e := e) (k := k) (show b ≠ d by omega)
    have cd := t2_u0 (e := e) (k := k) (show c ≠ d by omega)
    have vad := tv_u0 (e := e) (k := k) (show a ≠ d by omega)
    have vbd := tv_u0 (e := e) (k := k) (show b ≠ d by omega)
    have vcd := tv_u0 (e := e) (k := k) (show c ≠ d by omega)
    unfold isFl isB3 isB4 mkI
    dsimp only
    rw [decide_eq_false d7, if_neg d7, Nat.testBit_or, Nat.testBit_or, bit_mk3, bit_mk3, Nat.testBit_two_pow]
    unfold t4 t3
    rw [ab, ac, bc, ad, bd, cd]
    by_cases q1 : pr a b = k
    · simp [q1]
    by_cases q2 : pr a c = k
    · simp [q2]
    by_cases q3 : pr b c = k
    · simp [q3]
    by_cases q4 : pr a d = k
    · simp [q4]
    by_cases q5 : pr b d = k
    · simp [q5]
    by_cases q6' : pr c d = k
    · simp [q6']
    rw [if_neg q1] at vab; rw [if_neg q2] at vac; rw [if_neg q3] at vbc; rw [if_neg q4] at vad; rw [if_neg q5] at vbd; rw [if_neg q6'] at vcd
    have ec : c4 (up e k 0) a b c d = c4 e a b c d := by unfold c4 det dt c3 w3 q6; rw [vab, vac, vbc, vad, vbd, vcd]
    rw [ec, decide_eq_false q1, decide_eq_false q2, decide_eq_false q3, decide_eq_false q4, decide_eq_false q5, decide_eq_false q6']
    simp
theorem cnt_split (p q : It → Bool) : ∀ L : List It, L.countP (fun i => p i && !(q i)) + (L.filter p).countP q = L.countP p
  | [] => rfl
  | i :: L => by
    have h := cnt_split p q L
    rw [List.countP_cons, List.countP_cons]
    cases hp : p i with
    | false => rw [List.filter_cons_of_neg (by rw [hp]; decide)]; simp; omega
    | true =>
      rw [List.filter_cons_of_pos hp, List.countP_cons]
      cases hq : q i <;> simp <;> omega
theorem cnt_cong {p q : It → Bool} : ∀ L : List It, (∀ i ∈ L, p i = q i) → L.countP p = L.countP q
  | [], _ => rfl
  | i :: L, h => by
    rw [List.countP_cons, List.countP_cons, h i (List.mem_cons_self ..), cnt_cong L (fun j hj => h j (List.mem_cons_of_mem _ hj))]
theorem fw_u0 (e : Nat → Nat) {n : Nat} (hn : n < 8) (k : Nat) : (items n).countP (isFl (up e k 0)) + fw e n k = (items n).countP (isFl e) := by
  rw [cnt_cong (items n) (fun i hi => isFl_u0 (e := e) hn hi k)]
  exact cnt_split (isFl e) (fun i => (mkI i).testBit k) (items n)
theorem cnt_B (e : Nat → Nat) : ∀ L : List It, L.countP (isB3 e) + L.countP (isB4 e) = L.countP (isFl e)
  | [] => rfl
  | i :: L => by
    have h := cnt_B e L
    rw [List.countP_cons, List.countP_cons, List.countP_cons]
    unfold isFl isB3 isB4 at *
    by_cases q : i.2.2.2 = 7
    · simp [q]; split <;> omega
    · simp [q]; split <;> omega
