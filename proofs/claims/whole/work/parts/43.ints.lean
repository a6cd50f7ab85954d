/-! ===== whole numbers behind the longs ===== -/
def zz (e : Nat → Nat) (a b : Nat) : Int := (tv e a b : Nat)
def fI (x : Int) : Int64 := Int64.ofInt x
theorem fI_add (x y : Int) : fI x + fI y = fI (x + y) := (Int64.ofInt_add x y).symm
theorem fI_sub (x y : Int) : fI x - fI y = fI (x - y) := (Int64.ofInt_sub x y).symm
theorem fI_mul (x y : Int) : fI x * fI y = fI (x * y) := (Int64.ofInt_mul x y).symm
theorem fI_neg (x : Int) : -fI x = fI (-x) := (Int64.ofInt_neg x).symm
theorem fI_toInt {x : Int} (h1 : -2 ^ 63 ≤ x) (h2 : x < 2 ^ 63) : (fI x).toInt = x := Int64.toInt_ofInt_of_le h1 h2
theorem q6_fI (e : Nat → Nat) (a b : Nat) : q6 e a b = fI (zz e a b) := by
  unfold q6 lN fI zz; rfl
theorem fI_lt {x y : Int} (h1 : -2 ^ 63 ≤ x) (h2 : x < 2 ^ 63) (h3 : -2 ^ 63 ≤ y) (h4 : y < 2 ^ 63) : fI x < fI y ↔ x < y := by
  rw [Int64.lt_iff_toInt_lt, fI_toInt h1 h2, fI_toInt h3 h4]
theorem fI_le {x y : Int} (h1 : -2 ^ 63 ≤ x) (h2 : x < 2 ^ 63) (h3 : -2 ^ 63 ≤ y) (h4 : y < 2 ^ 63) : fI x ≤ fI y ↔ x ≤ y := by
  rw [Int64.le_iff_toInt_le, fI_toInt h1 h2, fI_toInt h3 h4]
theorem fI_eq {x y : Int} (h1 : -2 ^ 63 ≤ x) (h2 : x < 2 ^ 63) (h3 : -2 ^ 63 ≤ y) (h4 : y < 2 ^ 63) : fI x = fI y ↔ x = y := by
  rw [← Int64.toInt_inj, fI_toInt h1 h2, fI_toInt h3 h4]
theorem fI_0 : fI 0 = 0 := rfl
theorem fI_of (x : Int64) : x = fI x.toInt := by unfold fI; rw [Int64.ofInt_toInt]
theorem zz_b {T : Tab} (ok : okT T) (a b : Nat) : 0 ≤ zz T.2 a b ∧ zz T.2 a b ≤ 9999 := by
  have := tv_le ok a b
  unfold zz; omega
theorem mul_b {x y A B : Int} (hx : -A ≤ x ∧ x ≤ A) (hy : -B ≤ y ∧ y ≤ B) : -(A * B) ≤ x * y ∧ x * y ≤ A * B := by
  have hA : 0 ≤ A := by omega
  have hB : 0 ≤ B := by omega
  have h1 : 0 ≤ (A - x) * (B + y) := Int.mul_nonneg (by omega) (by omega)
  have h2 : 0 ≤ (A + x) * (B - y) := Int.mul_nonneg (by omega) (by omega)
  have h3 : 0 ≤ (A - x) * (B - y) := Int.mul_nonneg (by omega) (by omega)
  have h4 : 0 ≤ (A + x) * (B + y) := Int.mul_nonneg (by omega) (by omega)
  have e1 : (A - x) * (B + y) = A * B + A * y - x * B - x * y := by grind
  have e2 : (A + x) * (B - y) = A * B - A * y + x * B - x * y := by grind
  have e3 : (A - x) * (B - y) = A * B - A * y - x * B + x * y := by grind
  have e4 : (A + x) * (B + y) = A * B + A * y + x * B + x * y := by grind
  constructor <;> omega
def dZ (e : Nat → Nat) (a b c : Nat) : Int := zz e a b + zz e a c - zz e b c
def wZ (e : Nat → Nat) (a b c : Nat) : Int := 4 * zz e a b * zz e a c - dZ e a b c * dZ e a b c
theorem dt_fI (e : Nat → Nat) (a b c : Nat) : dt e a b c = fI (dZ e a b c) := by
  unfold dt dZ; rw [q6_fI, q6_fI, q6_fI, fI_add, fI_sub]
theorem w3_fI (e : Nat → Nat) (a b c : Nat) : w3 e a b c = fI (wZ e a b c) := by
  unfold w3 X11_wideBy lat wZ dZ
  rw [q6_fI, q6_fI, q6_fI, show (4 : Int64) = fI 4 from rfl]
  simp only [fI_add, fI_sub, fI_mul]
theorem dZ_b {T : Tab} (ok : okT T) (a b c : Nat) : -19998 ≤ dZ T.2 a b c ∧ dZ T.2 a b c ≤ 19998 := by
  have h1 := zz_b ok a b; have h2 := zz_b ok a c; have h3 := zz_b ok b c
  unfold dZ; omega
theorem wZ_b {T : Tab} (ok : okT T) (a b c : Nat) : -400000000 ≤ wZ T.2 a b c ∧ wZ T.2 a b c ≤ 400000000 := by
  have h1 := zz_b ok a b; have h2 := zz_b ok a c
  have hd := dZ_b ok a b c
  have p1 := mul_b (x := zz T.2 a b) (y := zz T.2 a c) (A := 9999) (B := 9999) (by omega) (by omega)
  have p2 := mul_b hd hd
  have p3 : 0 ≤ zz T.2 a b * zz T.2 a c := Int.mul_nonneg h1.1 h2.1
  have p4 : 0 ≤ dZ T.2 a b c * dZ T.2 a b c := by
    rcases Int.le_total 0 (dZ T.2 a b c) with h | h
    · exact Int.mul_nonneg h h
    · exact Int.mul_nonneg_of_nonpos_of_nonpos h h
  have e : 4 * zz T.2 a b * zz T.2 a c = 4 * (zz T.2 a b * zz T.2 a c) := Int.mul_assoc _ _ _
  unfold wZ
  rw [e]
  omega
theorem w3_lt0 {T : Tab} (ok : okT T) (a b c : Nat) : (w3 T.2 a b c < 0) ↔ wZ T.2 a b c < 0 := by
  have := wZ_b ok a b c
  rw [w3_fI, ← fI_0, fI_lt (by omega) (by omega) (by omega) (by omega)]
theorem w3_eq0 {T : Tab} (ok : okT T) (a b c : Nat) : (w3 T.2 a b c = 0) ↔ wZ T.2 a b c = 0 := by
  have := wZ_b ok a b c
  rw [w3_fI, ← fI_0, fI_eq (by omega) (by omega) (by omega) (by omega)]
theorem c3_iff {T : Tab} (ok : okT T) (a b c : Nat) : c3 T.2 a b c = true ↔ 0 ≤ wZ T.2 a b c := by
  unfold c3
  simp only [Bool.not_eq_true', decide_eq_false_iff_not, w3_lt0 ok]
  omega
-- division, Euclid
theorem fI_div {a b : Nat} (ha : a < 2 ^ 62) (hb0 : 0 < b) (hb : b < 2 ^ 62) : fI a / fI b = fI (a / b : Nat) := by
  apply Int64.toInt_inj.mp
  have hd : a / b ≤ a := Nat.div_le_self a b
  rw [Int64.toInt_div, fI_toInt (by omega) (by omega), fI_toInt (by omega) (by omega)]
  rw [show ((a : Int).tdiv (b : Int)) = ((a / b : Nat) : Int) from (Int.ofNat_tdiv a b).symm]
  generalize a / b = q at hd
  rw [fI_toInt (by omega) (by omega), Int.bmod_def]
  split <;> omega
theorem fI_mod {a b : Nat} (ha : a < 2 ^ 62) (hb0 : 0 < b) (hb : b < 2 ^ 62) : fI a - fI a / fI b * fI b = fI (a % b : Nat) := by
  rw [fI_div ha hb0 hb, fI_mul, fI_sub]
  congr 1
  have h : a / b * b + a % b = a := by rw [Nat.mul_comm]; exact Nat.div_add_mod a b
  rw [← Int.natCast_mul]
  generalize a / b * b = p at h
  generalize a % b = r at h
  omega
theorem fI_n0 {b : Nat} (hb : b < 2 ^ 62) : (fI b = 0) ↔ b = 0 := by
  rw [← fI_0, fI_eq (by omega) (by omega) (by omega) (by omega)]; omega
theorem gdl_ne {α : Type} {y : Int64} (h : ¬ y = 0) (o : Option α) : gdl y o = o := by unfold gdl; rw [if_neg h]
theorem mod_half {b r : Nat} (hr0 : 0 < r) (hr : r < b) {k : Nat} (hb : b < 2 ^ (k + 1)) : b % r < 2 ^ k := by
  have hp : 2 ^ (k + 1) = 2 * 2 ^ k := by rw [Nat.pow_succ]; omega
  by_cases h : 2 * r ≤ b
  · have := Nat.mod_lt b hr0; omega
  · have : b % r = b - r := by
      rw [Nat.mod_eq_sub_mod (by omega), Nat.mod_eq_of_lt (by omega)]
    omega
theorem euc_c : ∀ (k a b i n : Nat), a < 2 ^ 62 → b < 2 ^ 62 → b < 2 ^ k → i + 2 * k ≤ 199 → 2 * k + 2 ≤ n → X10_commonDivisor_L9 n (fI a) (fI b) (nI i) = some (fI (Nat.gcd a b))
  | k, a, 0, i, n + 1, ha, _, _, hi, hn => by
    show X10_commonDivisor_B9 _ _ _ _ = _
    unfold X10_commonDivisor_B9
    rw [if_neg (show ¬ (200 : Int32) ≤ nI i from nI_ge (a := i) (b := 200) (by omega) (by decide)), if_pos ((fI_n0 (by omega)).mpr rfl), Nat.gcd_zero_right]
  | 0, a, b + 1, i, n, _, _, h, _, _ => absurd h (by omega)
  | k + 1, a, b + 1, i, n + 2, ha, hb, h, hi, hn => by
    have hb0 : ¬ fI ((b + 1 : Nat) : Int) = 0 := fun z => absurd ((fI_n0 hb).mp z) (by omega)
    show X10_commonDivisor_B9 _ _ _ _ = _
    unfold X10_commonDivisor_B9 lat
    rw [if_neg (show ¬ (200 : Int32) ≤ nI i from nI_ge (a := i) (b := 200) (by omega) (by decide)), if_neg hb0, gdl_ne hb0, fI_mod ha (by omega) hb, nI_1]
    have hr : a % (b + 1) < b + 1 := Nat.mod_lt _ (by omega)
    by_cases h0 : a % (b + 1) = 0
    · rw [h0]
      show X10_commonDivisor_B9 _ _ _ _ = _
      unfold X10_commonDivisor_B9
      rw [if_neg (show ¬ (200 : Int32) ≤ nI (i + 1) from nI_ge (a := i + 1) (b := 200) (by omega) (by decide)), if_pos (show fI ((0 : Nat) : Int) = 0 from rfl)]
      rw [Nat.gcd_comm, Nat.gcd_rec, h0, Nat.gcd_zero_left]
    · have hr0 : ¬ fI ((a % (b + 1) : Nat) : Int) = 0 := fun z => h0 ((fI_n0 (by omega)).mp z)
      show X10_commonDivisor_B9 _ _ _ _ = _
      unfold X10_commonDivisor_B9 lat
      rw [if_neg (show ¬ (200 : Int32) ≤ nI (i + 1) from nI_ge (a := i + 1) (b := 200) (by omega) (by decide)), if_neg hr0, gdl_ne hr0, fI_mod hb (by omega) (by omega), nI_1]
      have hm := mod_half (by omega) hr h
      dsimp only
      rw [euc_c k (a % (b + 1)) ((b + 1) % (a % (b + 1))) (i + 1 + 1) n (by omega) (by have := Nat.mod_lt (b + 1) (show 0 < a % (b + 1) by omega); omega) hm (by omega) (by omega)]
      rw [Nat.gcd_comm a, Nat.gcd_rec (b + 1) a, Nat.gcd_rec (a % (b + 1)) (b + 1), Nat.gcd_comm]
theorem euc_m (kk : Int64 → Int64 → Int32 → Int64 → Option Int64) (x0 x2 : Int64) (x4 : Int32) : ∀ (k a b n : Nat), a < 2 ^ 62 → b < 2 ^ 62 → b < 2 ^ k → 2 * k + 2 ≤ n → X11_lowest_L17 kk n x0 x2 x4 (fI a) (fI b) = kk x0 x2 x4 (fI (Nat.gcd a b))
  | k, a, 0, n + 1, ha, _, _, hn => by
    show X11_lowest_B17 _ _ _ _ _ _ _ = _
    unfold X11_lowest_B17
    rw [if_pos ((fI_n0 (by omega)).mpr rfl), Nat.gcd_zero_right]
  | 0, a, b + 1, n, _, _, h, _ => absurd h (by omega)
  | k + 1, a, b + 1, n + 2, ha, hb, h, hn => by
    have hb0 : ¬ fI ((b + 1 : Nat) : Int) = 0 := fun z => absurd ((fI_n0 hb).mp z) (by omega)
    show X11_lowest_B17 _ _ _ _ _ _ _ = _
    unfold X11_lowest_B17 lat
    rw [if_neg hb0, gdl_ne hb0, fI_mod ha (by omega) hb]
    have hr : a % (b + 1) < b + 1 := Nat.mod_lt _ (by omega)
    by_cases h0 : a % (b + 1) = 0
    · rw [h0]
      show X11_lowest_B17 _ _ _ _ _ _ _ = _
      unfold X11_lowest_B17
      rw [if_pos (show fI ((0 : Nat) : Int) = 0 from rfl)]
      rw [Nat.gcd_comm a, Nat.gcd_rec, h0, Nat.gcd_zero_left]
    · have hr0 : ¬ fI ((a % (b + 1) : Nat) : Int) = 0 := fun z => h0 ((fI_n0 (by omega)).mp z)
      show X11_lowest_B17 _ _ _ _ _ _ _ = _
      unfold X11_lowest_B17 lat
      rw [if_neg hr0, gdl_ne hr0, fI_mod hb (by omega) (by omega)]
      have hm := mod_half (by omega) hr h
      dsimp only
      rw [euc_m kk x0 x2 x4 k (a % (b + 1)) ((b + 1) % (a % (b + 1))) n (by omega) (by have := Nat.mod_lt (b + 1) (show 0 < a % (b + 1) by omega); omega) hm (by omega)]
      rw [Nat.gcd_comm a, Nat.gcd_rec (b + 1) a, Nat.gcd_rec (a % (b + 1)) (b + 1), Nat.gcd_comm ((b + 1) % (a % (b + 1)))]
theorem lowest_eq {x : Int} {b : Nat} (h1 : -2 ^ 62 < x) (h2 : x < 2 ^ 62) (hb0 : 0 < b) (hb : b < 2 ^ 62) (w : Int32) : ∃ r, X10_lowest (fI x) (fI b) w = some r ∧ X11_lowest (fI x) (fI b) w = some r := by
  have ha : x.natAbs < 2 ^ 62 := by omega
  have hg0 : 0 < Nat.gcd x.natAbs b := Nat.gcd_pos_of_pos_right _ hb0
  have hgl : Nat.gcd x.natAbs b ≤ b := Nat.gcd_le_right _ hb0
  have hg : ¬ fI (Nat.gcd x.natAbs b : Nat) = 0 := fun z => absurd ((fI_n0 (by omega)).mp z) (by omega)
  have hg1 : (0 : Int64) < fI (Nat.gcd x.natAbs b : Nat) := by
    rw [← fI_0, fI_lt (by omega) (by omega) (by omega) (by omega)]; omega
  have e1 : (if 0 < fI x then fI x else -fI x) = fI (x.natAbs : Nat) := by
    rw [← fI_0]
    by_cases h : 0 < x
    · rw [if_pos ((fI_lt (by omega) (by omega) (by omega) (by omega)).mpr h)]; congr 1; omega
    · rw [if_neg (fun z => h ((fI_lt (by omega) (by omega) (by omega) (by omega)).mp z)), fI_neg]; congr 1; omega
  have hlow : b < 2 ^ 62 := hb
  refine ⟨if w = 0 then fI x / fI (Nat.gcd x.natAbs b : Nat) else fI b / fI (Nat.gcd x.natAbs b : Nat), ?_, ?_⟩
  · unfold X10_lowest X10_commonDivisor
    rw [e1, show (0 : Int32) = nI 0 from rfl, euc_c 62 x.natAbs b 0 1000 ha hb hlow (by omega) (by omega)]
    simp only [bs]
    rw [if_pos hg1, gdl_ne hg, gdl_ne hg]
    split <;> rfl
  · unfold X11_lowest X11_lowest_J12
    have e2 : (if (0 : Int64) ≤ fI x then X11_lowest_L17 X11_lowest_J42 1000 (fI x) (fI b) w (fI x) (fI b) else X11_lowest_L17 X11_lowest_J42 1000 (fI x) (fI b) w (-fI x) (fI b)) = X11_lowest_L17 X11_lowest_J42 1000 (fI x) (fI b) w (fI (x.natAbs : Nat)) (fI b) := by
      rw [← fI_0]
      by_cases h : 0 ≤ x
      · rw [if_pos ((fI_le (by omega) (by omega) (by omega) (by omega)).mpr h)]; congr 2; omega
      · rw [if_neg (fun z => h ((fI_le (by omega) (by omega) (by omega) (by omega)).mp z)), fI_neg]; congr 2; omega
    rw [e2, euc_m _ _ _ _ 62 x.natAbs b 1000 ha hb hlow (by omega)]
    unfold X11_lowest_J42
    rw [gdl_ne hg, gdl_ne hg]
    split <;> rfl
