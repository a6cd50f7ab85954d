/-! the fewest false -/
def pcn (N : Nat) : Nat := sm (fun k => if N.testBit k = true then 1 else 0) 21
theorem sm_mono {f g : Nat → Nat} (h : ∀ k, f k ≤ g k) : ∀ n, sm f n ≤ sm g n
  | 0 => Nat.le_refl 0
  | n + 1 => Nat.add_le_add (sm_mono h n) (h n)
theorem sm_eq {f g : Nat → Nat} (h : ∀ k, f k ≤ g k) : ∀ n, sm f n = sm g n → ∀ k, k < n → f k = g k
  | 0, _, k, hk => absurd hk (Nat.not_lt_zero k)
  | n + 1, e, k, hk => by
    have h1 := sm_mono h n
    have h2 := h n
    have e' : sm f n + f n = sm g n + g n := e
    rcases (show k < n ∨ k = n by omega) with z | rfl
    · exact sm_eq h n (by omega) k z
    · omega
theorem bit_big {N k : Nat} (h : N < 2 ^ 21) (hk : 21 ≤ k) : N.testBit k = false := Nat.testBit_lt_two_pow (Nat.lt_of_lt_of_le h (Nat.pow_le_pow_right (by decide) hk))
theorem pcn_sub {M N : Nat} (hM : M < 2 ^ 21) (hN : N < 2 ^ 21) (h : ∀ k, M.testBit k = true → N.testBit k = true) : pcn M ≤ pcn N ∧ (pcn M = pcn N → M = N) := by
  have hl : ∀ k, (if M.testBit k = true then 1 else 0) ≤ (if N.testBit k = true then 1 else 0) := fun k => by
    by_cases z : M.testBit k = true
    · rw [if_pos z, if_pos (h k z)]; exact Nat.le_refl 1
    · rw [if_neg z]; exact Nat.zero_le _
  refine ⟨sm_mono hl 21, fun e => Nat.eq_of_testBit_eq fun k => ?_⟩
  by_cases hk : k < 21
  · have := sm_eq hl 21 e k hk
    by_cases z : M.testBit k = true
    · rw [z, h k z]
    · by_cases y : N.testBit k = true
      · rw [if_neg z, if_pos y] at this; omega
      · rw [Bool.not_eq_true] at z y; rw [z, y]
  · rw [bit_big hM (by omega), bit_big hN (by omega)]
theorem sm_add1 {f g : Nat → Nat} {k : Nat} (h : ∀ j, g j = if j = k then f j + 1 else f j) : ∀ n, sm g n = if k < n then sm f n + 1 else sm f n
  | 0 => rfl
  | n + 1 => by
    have e := sm_add1 h n
    show sm g n + g n = if k < n + 1 then sm f n + f n + 1 else sm f n + f n
    rw [e, h n]
    by_cases z : n = k
    · subst z
      rw [if_neg (by omega), if_pos rfl, if_pos (by omega)]; omega
    · rw [if_neg z]
      by_cases y : k < n
      · rw [if_pos y, if_pos (by omega)]; omega
      · rw [if_neg y, if_neg (by omega)]
theorem pcn_or {M k : Nat} (hk : k < 21) (h : M.testBit k = false) : pcn (M ||| 2 ^ k) = pcn M + 1 := by
  unfold pcn
  rw [sm_add1 (f := fun j => if M.testBit j = true then 1 else 0) (k := k) (fun j => ?_) 21, if_pos hk]
  rw [Nat.testBit_or, Nat.testBit_two_pow]
  by_cases z : j = k
  · subst z; simp [h]
  · rw [if_neg z, decide_eq_false (fun q => z q.symm), Bool.or_false]
theorem pcn_0 : pcn 0 = 0 := by decide +kernel
/-- the highest bit -/
theorem pcn_top {N : Nat} (hN : N < 2 ^ 21) (h : N ≠ 0) : ∃ k M, k < 21 ∧ M < 2 ^ k ∧ N = M ||| 2 ^ k ∧ pcn N = pcn M + 1 := by
  have h1 : 2 ^ N.log2 ≤ N := Nat.log2_self_le h
  have h2 : N < 2 ^ (N.log2 + 1) := Nat.lt_log2_self
  have hk : N.log2 < 21 := (Nat.log2_lt h).mpr hN
  have hM : N - 2 ^ N.log2 < 2 ^ N.log2 := by rw [Nat.pow_succ] at h2; omega
  have e : N = (N - 2 ^ N.log2) ||| 2 ^ N.log2 := by
    have := Nat.two_pow_add_eq_or_of_lt hM 1
    rw [Nat.mul_one] at this
    rw [Nat.or_comm, ← this]; omega
  have hb : (N - 2 ^ N.log2).testBit N.log2 = false := Nat.testBit_lt_two_pow hM
  refine ⟨N.log2, N - 2 ^ N.log2, hk, hM, e, ?_⟩
  have := pcn_or hk hb
  rw [← e] at this
  exact this
theorem bc0 : J6_bitCount_0f7a4 (nI 0) = nI 0 := by decide +kernel
theorem bc1 : ∀ a, a < 21 → J6_bitCount_0f7a4 (nI (2 ^ a)) = nI 1 := by decide +kernel
theorem bc2 : ∀ b, b < 21 → ∀ a, a < b → J6_bitCount_0f7a4 (nI (2 ^ a ||| 2 ^ b)) = nI 2 := by decide +kernel
theorem bc3 : ∀ c, c < 21 → ∀ b, b < c → ∀ a, a < b → J6_bitCount_0f7a4 (nI (2 ^ a ||| 2 ^ b ||| 2 ^ c)) = nI 3 := by decide +kernel
