/-! images and sheets: cells copied and filled -/
/-- the first i cells written again from d on -/
def cpo (st : Nat → Int32) (d i : Nat) : Nat → Int32 := fun j => if d ≤ j ∧ j < d + i then st (j - d) else st j
def cpi (st : Nat → Int32) (d i : Nat) : Nat → Int32 := fun j => if j < i then st (d + j) else st j
theorem cpo_0 (st : Nat → Int32) (d : Nat) : cpo st d 0 = st := by
  funext j; unfold cpo; rw [if_neg (by omega)]
theorem cpo_s {st : Nat → Int32} {d i : Nat} (h : i < d) : upd (cpo st d i) (d + i) (cpo st d i i) = cpo st d (i + 1) := by
  funext j
  unfold upd cpo
  by_cases h1 : j = d + i
  · subst h1; rw [if_pos rfl, if_neg (by omega), if_pos (by omega), show d + i - d = i by omega]
  · rw [if_neg h1]
    by_cases h2 : d ≤ j ∧ j < d + i
    · rw [if_pos h2, if_pos (by omega)]
    · rw [if_neg h2, if_neg (by omega)]
theorem cpi_0 (st : Nat → Int32) (d : Nat) : cpi st d 0 = st := by
  funext j; unfold cpi; rw [if_neg (by omega)]
theorem cpi_s {st : Nat → Int32} {d i : Nat} (h : i < d) : upd (cpi st d i) i (cpi st d i (d + i)) = cpi st d (i + 1) := by
  funext j
  unfold upd cpi
  by_cases h1 : j = i
  · subst h1; rw [if_pos rfl, if_neg (by omega), if_pos (by omega)]
  · rw [if_neg h1]
    by_cases h2 : j < i
    · rw [if_pos h2, if_pos (by omega)]
    · rw [if_neg h2, if_neg (by omega)]
theorem keep_L (kk : Int32 → Int32 → (Nat → Int32) → (Nat → Int32) → Option (Int32 × Int32 × (Nat → Int32) × (Nat → Int32))) {k : Nat} (hk : k < 2) (aw : Int32) (kp st : Nat → Int32) : ∀ (m i n : Nat), i + m = 32 → m + 1 ≤ n → X11_keep_L18 kk n (nI k) (nI i) aw kp (cpo st (32 * (k + 1)) i) = kk (nI k) aw kp (cpo st (32 * (k + 1)) 32)
  | 0, i, n + 1, hi, _ => by
    show X11_keep_B18 _ _ _ _ _ _ _ = _
    unfold X11_keep_B18
    rw [show (32 : Int32) = nI 32 from rfl, if_pos (nI_le (by omega) (by omega)), show i = 32 by omega]
  | m + 1, i, n + 1, hi, hn => by
    have h1 := keep_L kk hk aw kp st m (i + 1) n (by omega) (by omega)
    show X11_keep_B18 _ _ _ _ _ _ _ = _
    unfold X11_keep_B18 lat
    rw [show (32 : Int32) = nI 32 from rfl, if_neg (nI_ge (by omega) (by omega)), nI_1, nI_mul, nI_add, gd_in (by omega) (by decide), gd_in (by omega) (by decide), nI_clamp (by omega), nI_clamp (by omega), cpo_s (by omega), nI_1]
    exact h1
theorem keep_m {T : Tab} {aw : Int32} {st kp : Nat → Int32} (hm : mQ T aw st) {k : Nat} (hk : k < 2) : X11_keep (nI k) aw kp st = some (if kp k = 0 then 0 else 1, 1, upd kp k 1, cpo (awk aw st) (32 * (k + 1)) 32) := by
  unfold X11_keep lat
  have h1 := keep_L X11_keep_J49 hk 1 kp (awk aw st) 32 0 1000 (by omega) (by omega)
  rw [cpo_0, nI_0] at h1
  have h2 : rng 0 1 (nI k) = true := by rcases (show k = 0 ∨ k = 1 by omega) with rfl | rfl <;> decide
  rw [awake_m hm, in_01, h2]
  dsimp only
  rw [ifb_t]
  show X11_keep_L18 X11_keep_J49 1000 (nI k) 0 1 kp (awk aw st) = _
  rw [h1]
  unfold X11_keep_J49 X11_keep_J63 lat
  rw [gd_in hk (by decide), gd_in hk (by decide), nI_clamp (by omega)]
  split
  · rfl
  · rw [gd_in hk (by decide)]
theorem back_L (kk : (Nat → Int32) → Option (Int32 × (Nat → Int32))) {k : Nat} (hk : k < 2) (st : Nat → Int32) : ∀ (m i n : Nat), i + m = 32 → m + 1 ≤ n → X11_back_L26 kk n (nI k) (nI i) (cpi st (32 * (k + 1)) i) = kk (cpi st (32 * (k + 1)) 32)
  | 0, i, n + 1, hi, _ => by
    show X11_back_B26 _ _ _ _ _ = _
    unfold X11_back_B26
    rw [show (32 : Int32) = nI 32 from rfl, if_pos (nI_le (by omega) (by omega)), show i = 32 by omega]
  | m + 1, i, n + 1, hi, hn => by
    have h1 := back_L kk hk st m (i + 1) n (by omega) (by omega)
    show X11_back_B26 _ _ _ _ _ = _
    unfold X11_back_B26 lat
    rw [show (32 : Int32) = nI 32 from rfl, if_neg (nI_ge (by omega) (by omega)), nI_1, nI_mul, nI_add, gd_in (by omega) (by decide), gd_in (by omega) (by decide), nI_clamp (by omega), nI_clamp (by omega), cpi_s (by omega), nI_1]
    exact h1
theorem back_m {st kp : Nat → Int32} {k : Nat} (hk : k < 2) : X11_back (nI k) kp st = if kp k = 0 then some (-2, st) else X11_back_J57 (cpi st (32 * (k + 1)) 32) := by
  unfold X11_back
  have h1 := back_L X11_back_J57 hk st 32 0 1000 (by omega) (by omega)
  rw [cpi_0, nI_0] at h1
  have h2 : rng 0 1 (nI k) = true := by rcases (show k = 0 ∨ k = 1 by omega) with rfl | rfl <;> decide
  rw [in_01, h2, ifb_t, gd_in hk (by decide), nI_clamp (by omega), h1]
theorem copyT {T : Tab} {pl pl' : Int32} {sq sq' : Nat → Int32} (h : cT T pl sq) : (X8_copyFrom pl' sq' pl sq).1 = pl ∧ cT T pl (X8_copyFrom pl' sq' pl sq).2 := by
  refine ⟨rfl, h.1, fun a b ha hb => ?_⟩
  show va_cpy sq sq' 0 0 49 (a * 7 + b) = _
  unfold va_cpy
  rw [if_pos (by omega), show 0 + (a * 7 + b - 0) = a * 7 + b by omega]
  exact h.2 a b ha hb
theorem copyR {R : Tab} {p p' : Int32} {ls ls' : Nat → Int32} (ok : R.1 ≤ 8) (h : cR R p ls) : (X5_copyFrom p' ls' p ls).1 = p ∧ cR R p (X5_copyFrom p' ls' p ls).2 := by
  refine ⟨rfl, h.1, fun k hk => ?_⟩
  show va_cpy ls ls' 0 0 8 k = _
  unfold va_cpy
  rw [if_pos (by omega), show 0 + (k - 0) = k by omega]
  exact h.2 k hk
theorem isImage_c (x : Int32) : X10_isImage x = b2 (rng 0 1 x) := by
  rw [rng01]
  unfold X10_isImage
  by_cases h0 : x = 0
  · subst h0; decide
  by_cases h1 : x = 1
  · subst h1; decide
  rw [decide_eq_false h0, decide_eq_false h1]
  split
  · rfl
  · rename_i q
    rw [if_pos]
    · rfl
    · obtain ⟨j, hj, rfl⟩ := nI_of q
      rcases Nat.lt_or_ge j 2 with h | h
      · rcases (show j = 0 ∨ j = 1 by omega) with rfl | rfl
        · exact absurd rfl h0
        · exact absurd rfl h1
      · exact nI_le (a := 2) h hj
/-! sheets -/
def fil (g : Nat → Int32) (d i : Nat) : Nat → Int32 := fun j => if d ≤ j ∧ j < d + i then 0 else g j
theorem fil_0 (g : Nat → Int32) (d : Nat) : fil g d 0 = g := by
  funext j; unfold fil; rw [if_neg (by omega)]
theorem fil_s (g : Nat → Int32) (d i : Nat) : upd (fil g d i) (d + i) 0 = fil g d (i + 1) := by
  funext j
  unfold upd fil
  by_cases h1 : j = d + i
  · subst h1; rw [if_pos rfl, if_pos (by omega)]
  · rw [if_neg h1]
    by_cases h2 : d ≤ j ∧ j < d + i
    · rw [if_pos h2, if_pos (by omega)]
    · rw [if_neg h2, if_neg (by omega)]
theorem sheet_L {k : Nat} (hk : k < 4) (g ln lg : Nat → Int32) : ∀ (m i n : Nat), i + m = 40 → m + 1 ≤ n → X11_sheet_L56 n (nI k) (nI i) (fil g (40 * k) i) ln lg = some (1, fil g (40 * k) 40, ln, lg)
  | 0, i, n + 1, hi, _ => by
    show X11_sheet_B56 _ _ _ _ _ _ = _
    unfold X11_sheet_B56
    rw [show (40 : Int32) = nI 40 from rfl, if_pos (nI_le (by omega) (by omega)), show i = 40 by omega]
  | m + 1, i, n + 1, hi, hn => by
    have h1 := sheet_L hk g ln lg m (i + 1) n (by omega) (by omega)
    show X11_sheet_B56 _ _ _ _ _ _ = _
    unfold X11_sheet_B56 lat
    rw [show (40 : Int32) = nI 40 from rfl, if_neg (nI_ge (by omega) (by omega)), nI_mul, nI_add, gd_in (by omega) (by decide), nI_clamp (by omega), fil_s, nI_1]
    exact h1
theorem fill_L (g : Nat → Int32) : ∀ (m i n : Nat), i + m = 40 → m + 1 ≤ n → J7_fill_53178_40_L5 n 0 (nI i) 40 (fil g 0 i) = some (fil g 0 40)
  | 0, i, n + 1, hi, _ => by
    show J7_fill_53178_40_B5 _ _ _ _ _ = _
    unfold J7_fill_53178_40_B5
    rw [show (40 : Int32) = nI 40 from rfl, if_pos (nI_le (by omega) (by omega)), show i = 40 by omega]
  | m + 1, i, n + 1, hi, hn => by
    have h1 := fill_L g m (i + 1) n (by omega) (by omega)
    show J7_fill_53178_40_B5 _ _ _ _ _ = _
    unfold J7_fill_53178_40_B5 lat
    have h2 := fil_s g 0 i
    rw [Nat.zero_add] at h2
    rw [if_neg (show ¬ (40 : Int32) ≤ nI i from nI_ge (b := 40) (by omega) (by omega)), gd_in (by omega) (by decide), nI_clamp (by omega), h2, nI_1]
    exact h1
theorem renew_c (x y l s : Int32) (g : Nat → Int32) : X6_renew x y l s g = some (x, y, fil g 0 40) := by
  unfold X6_renew J7_fill_53178_40
  have h1 := fill_L g 40 0 1000 (by omega) (by omega)
  rw [fil_0, nI_0] at h1
  rw [h1, bs]
theorem bv8 (v : BitVec 32) : (v <<< 24).sshiftRight 24 = (v.setWidth 8).signExtend 32 := by
  apply BitVec.eq_of_getLsbD_eq
  intro i hi
  rw [BitVec.getLsbD_sshiftRight, BitVec.getLsbD_signExtend, BitVec.msb_eq_getLsbD_last, BitVec.msb_eq_getLsbD_last, BitVec.getLsbD_shiftLeft, BitVec.getLsbD_shiftLeft, BitVec.getLsbD_setWidth, BitVec.getLsbD_setWidth]
  by_cases h : i < 8
  · rw [if_pos (by omega), if_pos h, show 24 + i - 24 = i by omega, decide_eq_true h, decide_eq_true (show i < 32 by omega), decide_eq_true (show 24 + i < 32 by omega), decide_eq_false (show ¬ 24 + i < 24 by omega), decide_eq_false (show ¬ 32 ≤ i by omega)]
    rfl
  · rw [if_neg (by omega), if_neg h, decide_eq_true (show i < 32 by omega), decide_eq_false (show ¬ 32 ≤ i by omega)]
    rfl
theorem bv16 (v : BitVec 32) : (v <<< 16).sshiftRight 16 = (v.setWidth 16).signExtend 32 := by
  apply BitVec.eq_of_getLsbD_eq
  intro i hi
  rw [BitVec.getLsbD_sshiftRight, BitVec.getLsbD_signExtend, BitVec.msb_eq_getLsbD_last, BitVec.msb_eq_getLsbD_last, BitVec.getLsbD_shiftLeft, BitVec.getLsbD_shiftLeft, BitVec.getLsbD_setWidth, BitVec.getLsbD_setWidth]
  by_cases h : i < 16
  · rw [if_pos (by omega), if_pos h, show 16 + i - 16 = i by omega, decide_eq_true h, decide_eq_true (show i < 32 by omega), decide_eq_true (show 16 + i < 32 by omega), decide_eq_false (show ¬ 16 + i < 16 by omega), decide_eq_false (show ¬ 32 ≤ i by omega)]
    rfl
  · rw [if_neg (by omega), if_neg h, decide_eq_true (show i < 32 by omega), decide_eq_false (show ¬ 32 ≤ i by omega)]
    rfl
theorem i8 (x : Int32) : ((x <<< ((24 : Int32) &&& 31)) >>> ((24 : Int32) &&& 31)) = x.toInt8.toInt32 := by
  rw [show ((24 : Int32) &&& 31) = 24 from by decide]
  apply Int32.toBitVec_inj.mp
  rw [Int32.toBitVec_shiftRight, Int32.toBitVec_shiftLeft, Int8.toBitVec_toInt32, Int32.toBitVec_toInt8]
  rw [show ((24 : Int32).toBitVec.smod 32) = 24#32 from by decide]
  rw [BitVec.signExtend_eq_setWidth_of_le x.toBitVec (show 8 ≤ 32 by decide)]
  exact bv8 _
theorem i16 (x : Int32) : ((x <<< ((16 : Int32) &&& 31)) >>> ((16 : Int32) &&& 31)) = x.toInt16.toInt32 := by
  rw [show ((16 : Int32) &&& 31) = 16 from by decide]
  apply Int32.toBitVec_inj.mp
  rw [Int32.toBitVec_shiftRight, Int32.toBitVec_shiftLeft, Int16.toBitVec_toInt32, Int32.toBitVec_toInt16]
  rw [show ((16 : Int32).toBitVec.smod 32) = 16#32 from by decide]
  rw [BitVec.signExtend_eq_setWidth_of_le x.toBitVec (show 16 ≤ 32 by decide)]
  exact bv16 _
theorem bvb (v : BitVec 64) (s : Nat) (hs : s ≤ 56) : ((v >>> s).setWidth 32).setWidth 8 = (((v.sshiftRight s).setWidth 32) &&& 255#32).setWidth 8 := by
  apply BitVec.eq_of_getLsbD_eq
  intro i hi
  have h255 : ∀ i, i < 8 → (255#32).getLsbD i = true := by decide
  rw [BitVec.getLsbD_setWidth, BitVec.getLsbD_setWidth, BitVec.getLsbD_setWidth, BitVec.getLsbD_and, BitVec.getLsbD_setWidth, BitVec.getLsbD_ushiftRight, BitVec.getLsbD_sshiftRight, if_pos (by omega), h255 i hi, decide_eq_false (show ¬ 64 ≤ i by omega)]
  simp
theorem sh_u : ∀ k, k < 8 → ((56 - 8 * nI k).toInt64.toUInt64 &&& Int64.toUInt64 63) = UInt64.ofNat (56 - 8 * k) := by decide +kernel
theorem sh_s : ∀ k, k < 8 → ((nI (56 - 8 * k)).toInt64 &&& 63) = lN (56 - 8 * k) := by decide +kernel
theorem byte_eq (x : Int64) (k : Nat) (hk : k < 8) : ((((x.toUInt64 >>> ((56 - 8 * nI k).toInt64.toUInt64 &&& Int64.toUInt64 63)).toInt64).toInt32).toInt8.toInt32).toInt8.toInt32 = ((x >>> ((nI (56 - 8 * k)).toInt64 &&& 63)).toInt32 &&& 255).toInt8.toInt32 := by
  rw [sh_u k hk, sh_s k hk]
  have h : ∀ y : Int32, y.toInt8.toInt32.toInt8 = y.toInt8 := fun y => by simp
  rw [h]
  congr 1
  apply Int8.toBitVec_inj.mp
  have e := bvb x.toBitVec (56 - 8 * k) (by omega)
  rw [Int32.toBitVec_toInt8, Int32.toBitVec_toInt8, Int32.toBitVec_and, Int64.toBitVec_toInt32, Int64.toBitVec_toInt32, Int64.toBitVec_shiftRight]
  have e1 : ((lN (56 - 8 * k)).toBitVec.smod 64) = BitVec.ofNat 64 (56 - 8 * k) := by
    have : ∀ k, k < 8 → ((lN (56 - 8 * k)).toBitVec.smod 64) = BitVec.ofNat 64 (56 - 8 * k) := by decide +kernel
    exact this k hk
  have e2 : (BitVec.ofNat 64 (56 - 8 * k)).toNat = 56 - 8 * k := by rw [BitVec.toNat_ofNat]; exact Nat.mod_eq_of_lt (by omega)
  have e3 : (x.toUInt64 >>> UInt64.ofNat (56 - 8 * k)).toInt64.toBitVec = x.toBitVec >>> (56 - 8 * k) := by
    show (x.toUInt64 >>> UInt64.ofNat (56 - 8 * k)).toBitVec = _
    rw [UInt64.toBitVec_shiftRight]
    have : ∀ k, k < 8 → ((UInt64.ofNat (56 - 8 * k)).toBitVec % 64) = BitVec.ofNat 64 (56 - 8 * k) := by decide +kernel
    rw [this k hk, BitVec.ushiftRight_eq', e2]
    rfl
  rw [e3, e1, BitVec.sshiftRight_eq', e2]
  rw [BitVec.signExtend_eq_setWidth_of_le _ (show 8 ≤ 32 by decide), BitVec.signExtend_eq_setWidth_of_le _ (show 8 ≤ 32 by decide), BitVec.signExtend_eq_setWidth_of_le _ (show 32 ≤ 64 by decide), BitVec.signExtend_eq_setWidth_of_le _ (show 32 ≤ 64 by decide)]
  exact e
theorem b255 (y : Int32) : ∃ j, j < 256 ∧ (y &&& 255) = nI j := by
  refine ⟨(y &&& 255).toBitVec.toNat, ?_, ?_⟩
  · rw [Int32.toBitVec_and, BitVec.toNat_and]
    exact Nat.lt_of_le_of_lt Nat.and_le_right (show (255 : Int32).toBitVec.toNat < 256 by decide)
  · apply Int32.toBitVec_inj.mp
    show _ = BitVec.ofNat 32 _
    rw [BitVec.ofNat_toNat, BitVec.setWidth_eq]
