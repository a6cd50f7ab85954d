/-! the fewest false -/
def pcn (N : Nat) : Nat := sm (fun k => if N.testBit k = true then 1 else 0) 21
theorem sm_mono {f g : Nat → Nat} (h : ∀ k, f k ≤ g k) : ∀ n, sm f n ≤ sm g n
  | 0 => Nat.le_refl 0
  | n + 1 => Nat.add_le_add (sm_mono h n) (h n)
theorem sm_eq {f g : Nat → Nat} (h : ∀ k, f k ≤ g k) : ∀ n, sm f n = sm g n → ∀ k, k < n → f k = g k
  | 0, _, k, hk => absurd hk (Nat.not_lt_zero k)
  | n + 1, e, k, hk => by
    have h1 := sm_mono h n
    have h2 := h n
    have e' : sm f n + f n = sm g n + g n := e
    rcases (show k < n ∨ k = n by omega) with z | rfl
    · exact sm_eq h n (by omega) k z
    · omega
theorem bit_big {N k : Nat} (h : N < 2 ^ 21) (hk : 21 ≤ k) : N.testBit k = false := Nat.testBit_lt_two_pow (Nat.lt_of_lt_of_le h (Nat.pow_le_pow_right (by decide) hk))
theorem pcn_sub {M N : Nat} (hM : M < 2 ^ 21) (hN : N < 2 ^ 21) (h : ∀ k, M.testBit k = true → N.testBit k = true) : pcn M ≤ pcn N ∧ (pcn M = pcn N → M = N) := by
  have hl : ∀ k, (if M.testBit k = true then 1 else 0) ≤ (if N.testBit k = true then 1 else 0) := fun k => by
    by_cases z : M.testBit k = true
    · rw [if_pos z, if_pos (h k z)]; exact Nat.le_refl 1
    · rw [if_neg z]; exact Nat.zero_le _
  refine ⟨sm_mono hl 21, fun e => Nat.eq_of_testBit_eq fun k => ?_⟩
  by_cases hk : k < 21
  · have := sm_eq hl 21 e k hk
    by_cases z : M.testBit k = true
    · rw [z, h k z]
    · by_cases y : N.testBit k = true
      · rw [if_neg z, if_pos y] at this; omega
      · rw [Bool.not_eq_true] at z y; rw [z, y]
  · rw [bit_big hM (by omega), bit_big hN (by omega)]
theorem sm_add1 {f g : Nat → Nat} {k : Nat} (h : ∀ j, g j = if j = k then f j + 1 else f j) : ∀ n, sm g n = if k < n then sm f n + 1 else sm f n
  | 0 => rfl
  | n + 1 => by
    have e := sm_add1 h n
    show sm g n + g n = if k < n + 1 then sm f n + f n + 1 else sm f n + f n
    rw [e, h n]
    by_cases z : n = k
    · subst z
      rw [if_neg (by omega), if_pos rfl, if_pos (by omega)]; omega
    · rw [if_neg z]
      by_cases y : k < n
      · rw [if_pos y, if_pos (by omega)]; omega
      · rw [if_neg y, if_neg (by omega)]
theorem pcn_or {M k : Nat} (hk : k < 21) (h : M.testBit k = false) : pcn (M ||| 2 ^ k) = pcn M + 1 := by
  unfold pcn
  rw [sm_add1 (f := fun j => if M.testBit j = true then 1 else 0) (k := k) (fun j => ?_) 21, if_pos hk]
  rw [Nat.testBit_or, Nat.testBit_two_pow]
  by_cases z : j = k
  · subst z; simp [h]
  · rw [if_neg z, decide_eq_false (fun q => z q.symm), Bool.or_false]
theorem pcn_0 : pcn 0 = 0 := by decide +kernel
/-- the highest bit -/
theorem pcn_top {N : Nat} (hN : N < 2 ^ 21) (h : N ≠ 0) : ∃ k M, k < 21 ∧ M < 2 ^ k ∧ N = M ||| 2 ^ k ∧ pcn N = pcn M + 1 := by
  have h1 : 2 ^ N.log2 ≤ N := Nat.log2_self_le h
  have h2 : N < 2 ^ (N.log2 + 1) := Nat.lt_log2_self
  have hk : N.log2 < 21 := (Nat.log2_lt h).mpr hN
  have hM : N - 2 ^ N.log2 < 2 ^ N.log2 := by rw [Nat.pow_succ] at h2; omega
  have e : N = (N - 2 ^ N.log2) ||| 2 ^ N.log2 := by
    have := Nat.two_pow_add_eq_or_of_lt hM 1
    rw [Nat.mul_one] at this
    rw [Nat.or_comm, ← this]; omega
  have hb : (N - 2 ^ N.log2).testBit N.log2 = false := Nat.testBit_lt_two_pow hM
  refine ⟨N.log2, N - 2 ^ N.log2, hk, hM, e, ?_⟩
  have := pcn_or hk hb
  rw [← e] at this
  exact this
theorem bc0 : J6_bitCount_0f7a4 (nI 0) = nI 0 := by decide +kernel
theorem bc1 : ∀ a, a < 21 → J6_bitCount_0f7a4 (nI (2 ^ a)) = nI 1 := by decide +kernel
theorem bc2 : ∀ b, b < 21 → ∀ a, a < b → J6_bitCount_0f7a4 (nI (2 ^ a ||| 2 ^ b)) = nI 2 := by decide +kernel
theorem bc3 : ∀ c, c < 21 → ∀ b, b < c → ∀ a, a < b → J6_bitCount_0f7a4 (nI (2 ^ a ||| 2 ^ b ||| 2 ^ c)) = nI 3 := by decide +kernel
theorem forms {N : Nat} (hN : N < 2 ^ 21) (h : pcn N ≤ 3) : (N = 0 ∧ pcn N = 0) ∨ (∃ a, a < 21 ∧ N = 2 ^ a ∧ pcn N = 1) ∨ (∃ a b, a < b ∧ b < 21 ∧ N = 2 ^ a ||| 2 ^ b ∧ pcn N = 2) ∨ (∃ a b c, a < b ∧ b < c ∧ c < 21 ∧ N = 2 ^ a ||| 2 ^ b ||| 2 ^ c ∧ pcn N = 3) := by
  have lt : ∀ {M k : Nat}, M < 2 ^ k → k < 21 → M < 2 ^ 21 := fun h1 h2 => Nat.lt_of_lt_of_le h1 (Nat.pow_le_pow_right (by decide) (by omega))
  have lk : ∀ {a b M : Nat}, M ||| 2 ^ a < 2 ^ b → a < b := fun {a b M} h => by
    rcases Nat.lt_or_ge a b with z | z
    · exact z
    · exfalso
      have h1 : 2 ^ b ≤ 2 ^ a := Nat.pow_le_pow_right (by decide) z
      have h2 : 2 ^ a ≤ M ||| 2 ^ a := Nat.right_le_or
      omega
  by_cases z : N = 0
  · left; subst z; exact ⟨rfl, pcn_0⟩
  right
  obtain ⟨k, M, hk, hM, e, p⟩ := pcn_top hN z
  by_cases z1 : M = 0
  · left; subst z1; exact ⟨k, hk, by rw [e, Nat.zero_or], by rw [p, pcn_0]⟩
  right
  obtain ⟨k1, M1, hk1, hM1, e1, p1⟩ := pcn_top (lt hM hk) z1
  have o1 : k1 < k := lk (by rw [← e1]; exact hM)
  by_cases z2 : M1 = 0
  · left; subst z2; exact ⟨k1, k, o1, hk, by rw [e, e1, Nat.zero_or], by rw [p, p1, pcn_0]⟩
  right
  obtain ⟨k2, M2, hk2, hM2, e2, p2⟩ := pcn_top (lt hM1 hk1) z2
  have o2 : k2 < k1 := lk (by rw [← e2]; exact hM1)
  by_cases z3 : M2 = 0
  · subst z3; exact ⟨k2, k1, k, o2, o1, hk, by rw [e, e1, e2, Nat.zero_or], by rw [p, p1, p2, pcn_0]⟩
  · exfalso
    obtain ⟨k3, M3, hk3, hM3, e3, p3⟩ := pcn_top (lt hM2 hk2) z3
    omega
theorem bcn {N : Nat} (hN : N < 2 ^ 21) (h : pcn N ≤ 3) : J6_bitCount_0f7a4 (nI N) = nI (pcn N) := by
  rcases forms hN h with ⟨rfl, p⟩ | ⟨a, ha, rfl, p⟩ | ⟨a, b, h1, h2, rfl, p⟩ | ⟨a, b, c, h1, h2, h3, rfl, p⟩
  · rw [p]; exact bc0
  · rw [p]; exact bc1 a ha
  · rw [p]; exact bc2 b h2 a h1
  · rw [p]; exact bc3 c h3 b h2 a h1
theorem nI_and (a b : Nat) : nI a &&& nI b = nI (a &&& b) := by
  apply Int32.toBitVec_inj.mp
  rw [Int32.toBitVec_and]
  show BitVec.ofNat 32 a &&& BitVec.ofNat 32 b = BitVec.ofNat 32 (a &&& b)
  apply BitVec.eq_of_toNat_eq
  rw [BitVec.toNat_and, BitVec.toNat_ofNat, BitVec.toNat_ofNat, BitVec.toNat_ofNat, Nat.and_mod_two_pow]
theorem nI_or (a b : Nat) : nI a ||| nI b = nI (a ||| b) := by
  apply Int32.toBitVec_inj.mp
  rw [Int32.toBitVec_or]
  show BitVec.ofNat 32 a ||| BitVec.ofNat 32 b = BitVec.ofNat 32 (a ||| b)
  apply BitVec.eq_of_toNat_eq
  rw [BitVec.toNat_or, BitVec.toNat_ofNat, BitVec.toNat_ofNat, BitVec.toNat_ofNat, Nat.or_mod_two_pow]
theorem shlk : ∀ k, k < 21 → (1 : Int32) <<< (nI k &&& 31) = nI (2 ^ k) := by decide +kernel
theorem mask_n0 : (items 7).all (fun i => decide (mkI i < 2 ^ 21) && !(decide (mkI i = 0))) = true := by decide +kernel
theorem mask_n {n : Nat} (hn : n < 8) {i : It} (hi : i ∈ items n) : mkI i < 2 ^ 21 ∧ ¬ mkI i = 0 := by
  have h1 := List.all_eq_true.mp (items_7 n hn) i hi
  have h2 := List.all_eq_true.mp mask_n0 i (List.contains_iff_mem.mp h1)
  simpa using h2
/-- every flaw holds one of the lengths -/
def hits (e : Nat → Nat) (n N : Nat) : Prop := ∀ i ∈ items n, isFl e i = true → ¬ mkI i &&& N = 0
theorem first_L {e : Nat → Nat} {n : Nat} (hn : n < 8) {fl : Nat → Int32} (hf : ∀ i, i < (items n).countP (isFl e) → fl i = nI (mkI (((items n).filter (isFl e)).getD i (0, 0, 0, 0)))) {N : Nat} (hN : N < 2 ^ 21) : ∀ (m i f : Nat), i + m = (items n).countP (isFl e) → m + 1 ≤ f → (X1_firstFlawWithout_L2 (nI ((items n).countP (isFl e))) fl f (nI N) (nI i) = some 0 ∧ ∀ j, i ≤ j → j < (items n).countP (isFl e) → ¬ mkI (((items n).filter (isFl e)).getD j (0, 0, 0, 0)) &&& N = 0) ∨ ∃ t ∈ items n, isFl e t = true ∧ mkI t &&& N = 0 ∧ X1_firstFlawWithout_L2 (nI ((items n).countP (isFl e))) fl f (nI N) (nI i) = some (nI (mkI t))
  | 0, i, f + 1, hi, _ => by
    left
    have t70 := tot_le e hn
    refine ⟨?_, fun j h1 h2 => by omega⟩
    show X1_firstFlawWithout_B2 _ _ _ _ _ = _
    unfold X1_firstFlawWithout_B2
    rw [if_pos (nI_le (by omega) (by omega))]
  | m + 1, i, f + 1, hi, hf' => by
    have t70 := tot_le e hn
    have ih := first_L hn hf hN m (i + 1) f (by omega) (by omega)
    have hl : i < ((items n).filter (isFl e)).length := by rw [← cnt_fil]; omega
    have hmem : ((items n).filter (isFl e)).getD i (0, 0, 0, 0) ∈ (items n).filter (isFl e) := by
      rw [List.getD_eq_getElem?_getD, List.getElem?_eq_getElem hl]
      exact List.getElem_mem hl
    have hm2 := List.mem_filter.mp hmem
    have hk := mask_n hn hm2.1
    have st : X1_firstFlawWithout_L2 (nI ((items n).countP (isFl e))) fl (f + 1) (nI N) (nI i) = if mkI (((items n).filter (isFl e)).getD i (0, 0, 0, 0)) &&& N = 0 then some (nI (mkI (((items n).filter (isFl e)).getD i (0, 0, 0, 0)))) else X1_firstFlawWithout_L2 (nI ((items n).countP (isFl e))) fl f (nI N) (nI (i + 1)) := by
      show X1_firstFlawWithout_B2 _ _ _ _ _ = _
      unfold X1_firstFlawWithout_B2 lat
      rw [if_neg (nI_ge (by omega) (by omega)), if_neg (show ¬ (70 : Int32) ≤ nI i from nI_ge (b := 70) (by omega) (by decide)), gd_in (by omega) (by decide), nI_clamp (by omega), hf i (by omega), nI_and, nI_1]
      have hb : mkI (((items n).filter (isFl e)).getD i (0, 0, 0, 0)) &&& N < 2 ^ 21 := Nat.lt_of_le_of_lt Nat.and_le_right hN
      by_cases z : mkI (((items n).filter (isFl e)).getD i (0, 0, 0, 0)) &&& N = 0
      · rw [if_pos z, if_pos (by rw [z]; decide)]
      · rw [if_neg z, if_neg (nI_ne0 (by omega) (by omega))]
    rw [st]
    by_cases z : mkI (((items n).filter (isFl e)).getD i (0, 0, 0, 0)) &&& N = 0
    · right
      exact ⟨_, hm2.1, hm2.2, z, by rw [if_pos z]⟩
    · rw [if_neg z]
      rcases ih with ⟨h1, h2⟩ | h1
      · left
        refine ⟨h1, fun j h3 h4 => ?_⟩
        rcases (show j = i ∨ i + 1 ≤ j by omega) with rfl | h5
        · exact z
        · exact h2 j h5 h4
      · exact Or.inr h1
theorem first_c {e : Nat → Nat} {n : Nat} (hn : n < 8) {fl : Nat → Int32} (hf : ∀ i, i < (items n).countP (isFl e) → fl i = nI (mkI (((items n).filter (isFl e)).getD i (0, 0, 0, 0)))) {N : Nat} (hN : N < 2 ^ 21) : (X1_firstFlawWithout (nI N) (nI ((items n).countP (isFl e))) fl = some 0 ∧ hits e n N) ∨ ∃ t ∈ items n, isFl e t = true ∧ mkI t &&& N = 0 ∧ X1_firstFlawWithout (nI N) (nI ((items n).countP (isFl e))) fl = some (nI (mkI t)) := by
  have t70 := tot_le e hn
  rcases first_L hn hf hN ((items n).countP (isFl e)) 0 1000 (by omega) (by omega) with ⟨h1, h2⟩ | h
  · left
    refine ⟨h1, fun i hi hfl z => ?_⟩
    have hm := List.mem_filter.mpr ⟨hi, hfl⟩
    obtain ⟨j, hj, e1⟩ := List.getElem_of_mem hm
    have := h2 j (by omega) (by rw [cnt_fil]; exact hj)
    rw [List.getD_eq_getElem?_getD, List.getElem?_eq_getElem hj] at this
    exact this (by show mkI ((items n).filter (isFl e))[j] &&& N = 0; rw [e1]; exact z)
  · exact Or.inr h
