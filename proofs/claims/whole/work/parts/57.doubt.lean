/-! the length most doubted -/
def itB (n : Nat) (i : It) : Bool := decide (i.1 < i.2.1) && (decide (i.2.1 < i.2.2.1) && (decide (i.2.2.1 < n) && (decide (i.2.2.2 = 7) || (decide (i.2.2.1 < i.2.2.2) && decide (i.2.2.2 < n)))))
theorem items_b0 : ∀ n, n < 8 → (items n).all (itB n) = true := by decide +kernel
theorem items_b {n : Nat} (hn : n < 8) {i : It} (hi : i ∈ items n) : i.1 < i.2.1 ∧ i.2.1 < i.2.2.1 ∧ i.2.2.1 < n ∧ (i.2.2.2 = 7 ∨ (i.2.2.1 < i.2.2.2 ∧ i.2.2.2 < n)) := by
  have h := List.all_eq_true.mp (items_b0 n hn) i hi
  unfold itB at h
  simpa using h
theorem items_7 : ∀ n, n < 8 → (items n).all (fun i => (items 7).contains i) = true := by decide +kernel
theorem mask_b0 : (items 7).all (fun i => (List.range 21).all (fun k => decide (X10_hasBit (nI (mkI i)) (nI k) = b2 ((mkI i).testBit k)))) = true := by decide +kernel
theorem mask_b {n : Nat} (hn : n < 8) {i : It} (hi : i ∈ items n) {k : Nat} (hk : k < 21) : X10_hasBit (nI (mkI i)) (nI k) = b2 ((mkI i).testBit k) := by
  have h1 := List.all_eq_true.mp (items_7 n hn) i hi
  have h2 := List.all_eq_true.mp mask_b0 i (List.contains_iff_mem.mp h1)
  have h3 := List.all_eq_true.mp h2 k (List.mem_range.mpr hk)
  exact of_decide_eq_true h3
theorem sm_0 (f : Nat → Nat) : ∀ n, sm f (n + 1) = f 0 + sm (fun j => f (j + 1)) n
  | 0 => by show 0 + f 0 = f 0 + 0; omega
  | n + 1 => by
    have h := sm_0 f n
    show sm f (n + 1) + f (n + 1) = f 0 + (sm (fun j => f (j + 1)) n + f (n + 1))
    omega
theorem sm_cnt (p : It → Bool) (d : It) : ∀ F : List It, sm (fun j => if p (F.getD j d) = true then 1 else 0) F.length = F.countP p
  | [] => rfl
  | i :: F => by
    have h := sm_cnt p d F
    rw [List.length_cons, sm_0, List.countP_cons]
    show (if p i = true then 1 else 0) + sm (fun j => if p (F.getD j d) = true then 1 else 0) F.length = _
    rw [h]; omega
theorem sm_le1 (f : Nat → Nat) (h : ∀ j, f j ≤ 1) : ∀ n, sm f n ≤ n
  | 0 => Nat.le_refl 0
  | n + 1 => by have := sm_le1 f h n; have := h n; show sm f n + f n ≤ _; omega
/-- the flaws with a bit -/
def fw (e : Nat → Nat) (n k : Nat) : Nat := ((items n).filter (isFl e)).countP (fun i => (mkI i).testBit k)
theorem fw_cL {e : Nat → Nat} {n : Nat} (hn : n < 8) {fl : Nat → Int32} (hf : ∀ i, i < (items n).countP (isFl e) → fl i = nI (mkI (((items n).filter (isFl e)).getD i (0, 0, 0, 0)))) {k : Nat} (hk : k < 21) : ∀ (m i f : Nat), i + m = (items n).countP (isFl e) → m + 1 ≤ f → X1_flawsWith_L4 (nI ((items n).countP (isFl e))) fl f (nI k) (nI (sm (fun j => if (mkI (((items n).filter (isFl e)).getD j (0, 0, 0, 0))).testBit k = true then 1 else 0) i)) (nI i) = some (nI (fw e n k))
  | 0, i, f + 1, hi, _ => by
    have h1 := items_len n hn
    have h2 := List.countP_le_length (p := isFl e) (l := items n)
    show X1_flawsWith_B4 _ _ _ _ _ _ = _
    unfold X1_flawsWith_B4
    rw [if_pos (nI_le (by omega) (by omega)), show i = (items n).countP (isFl e) by omega, cnt_fil, sm_cnt (fun i => (mkI i).testBit k)]
    rfl
  | m + 1, i, f + 1, hi, hf' => by
    have h1 := items_len n hn
    have h2 := List.countP_le_length (p := isFl e) (l := items n)
    have h3 := fw_cL hn hf hk m (i + 1) f (by omega) (by omega)
    have hl : i < ((items n).filter (isFl e)).length := by rw [← cnt_fil]; omega
    have hmem : ((items n).filter (isFl e)).getD i (0, 0, 0, 0) ∈ items n := by
      rw [List.getD_eq_getElem?_getD, List.getElem?_eq_getElem hl]
      exact (List.mem_filter.mp (List.getElem_mem hl)).1
    show X1_flawsWith_B4 _ _ _ _ _ _ = _
    unfold X1_flawsWith_B4 lat
    rw [if_neg (nI_ge (by omega) (by omega)), if_neg (show ¬ (70 : Int32) ≤ nI i from nI_ge (b := 70) (by omega) (by decide)), gd_in (by omega) (by decide), nI_clamp (by omega), hf i (by omega), mask_b hn hmem hk, nI_1]
    have eb : X10_bit (b2 ((mkI (((items n).filter (isFl e)).getD i (0, 0, 0, 0))).testBit k)) = nI (if (mkI (((items n).filter (isFl e)).getD i (0, 0, 0, 0))).testBit k = true then 1 else 0) := by
      cases (mkI (((items n).filter (isFl e)).getD i (0, 0, 0, 0))).testBit k <;> rfl
    rw [eb, nI_add]
    exact h3
theorem fw_c {e : Nat → Nat} {n : Nat} (hn : n < 8) {fl : Nat → Int32} (hf : ∀ i, i < (items n).countP (isFl e) → fl i = nI (mkI (((items n).filter (isFl e)).getD i (0, 0, 0, 0)))) {k : Nat} (hk : k < 21) : X1_flawsWith (nI k) (nI ((items n).countP (isFl e))) fl = some (nI (fw e n k)) := by
  have h1 := items_len n hn
  have h2 := List.countP_le_length (p := isFl e) (l := items n)
  have := fw_cL hn hf hk ((items n).countP (isFl e)) 0 1000 (by omega) (by omega)
  exact this
