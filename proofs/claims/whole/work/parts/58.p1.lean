/-! land: tokens -/
/-- 0 end, 1 blank, 2 name, 3 number, 4 sign, 5 nothing -/
def kc (c : Nat) : Nat := if 97 ≤ c ∧ c ≤ 122 then 2 else if 48 ≤ c ∧ c ≤ 57 then 3 else if c = 32 then 1 else if c = 59 then 4 else 5
def kd (B : Tab) (k : Nat) : Nat := if B.1 ≤ k then 0 else kc (B.2 k)
theorem kc_I : ∀ c, c < 256 → (if ((nI c).toInt8.toInt32) < (97 : Int32) then X4_kindAt_J48 ((nI c).toInt8.toInt32) else if (122 : Int32) < ((nI c).toInt8.toInt32) then X4_kindAt_J48 ((nI c).toInt8.toInt32) else some (2 : Int32)) = some (nI (kc c)) := by decide +kernel
theorem by8 : ∀ c, c < 128 → (nI c).toInt8.toInt32 = nI c := by decide +kernel
def rbB (c : Nat) : Bool := (decide (nI c = 32) == decide (kc c = 1)) && ((decide (X11_in (nI c).toInt64 97 122 = b2 (decide (kc c = 2)))) && ((decide (X11_in (nI c).toInt64 48 57 = b2 (decide (kc c = 3)))) && ((decide (nI c = -4) == decide (kc c = 0)) && ((decide (nI c = 59) == decide (kc c = 4)) && decide (1 ≤ kc c ∧ kc c ≤ 5)))))
theorem rb_0 : ∀ c, c < 256 → rbB c = true := by decide +kernel
def rb (B : Tab) (k : Nat) : Int32 := if B.1 ≤ k then -4 else nI (B.2 k)
theorem rb_k {B : Tab} (hB : okB B) (k : Nat) : ((rb B k = 32) ↔ kd B k = 1) ∧ X11_in (rb B k).toInt64 97 122 = b2 (decide (kd B k = 2)) ∧ X11_in (rb B k).toInt64 48 57 = b2 (decide (kd B k = 3)) ∧ ((rb B k = -4) ↔ kd B k = 0) ∧ ((rb B k = 59) ↔ kd B k = 4) ∧ kd B k ≤ 5 := by
  unfold rb kd
  by_cases h : B.1 ≤ k
  · rw [if_pos h, if_pos h]; decide
  · rw [if_neg h, if_neg h]
    have h1 := rb_0 (B.2 k) (hB.2 k)
    unfold rbB at h1
    simp only [Bool.and_eq_true, beq_iff_eq, decide_eq_decide, decide_eq_true_eq] at h1
    exact ⟨h1.1, h1.2.1, h1.2.2.1, h1.2.2.2.1, h1.2.2.2.2.1, h1.2.2.2.2.2.2⟩
theorem kd_0 {B : Tab} (hB : okB B) {k : Nat} : kd B k = 0 ↔ B.1 ≤ k := by
  unfold kd
  by_cases h : B.1 ≤ k
  · rw [if_pos h]; exact ⟨fun _ => h, fun _ => rfl⟩
  · rw [if_neg h]
    have h1 := rb_0 (B.2 k) (hB.2 k)
    unfold rbB at h1
    simp only [Bool.and_eq_true, beq_iff_eq, decide_eq_decide, decide_eq_true_eq] at h1
    have := h1.2.2.2.2.2.1
    exact ⟨fun z => by omega, fun z => absurd z h⟩
theorem kc_128 {c : Nat} (h : kc c = 2 ∨ kc c = 3) : 48 ≤ c ∧ c < 128 := by
  unfold kc at h
  by_cases h1 : 97 ≤ c ∧ c ≤ 122
  · omega
  · rw [if_neg h1] at h
    by_cases h2 : 48 ≤ c ∧ c ≤ 57
    · omega
    · rw [if_neg h2] at h
      exfalso
      by_cases h3 : c = 32
      · rw [if_pos h3] at h; omega
      · rw [if_neg h3] at h
        by_cases h4 : c = 59
        · rw [if_pos h4] at h; omega
        · rw [if_neg h4] at h; omega
theorem kindAt_c {B : Tab} {bt : Nat → Int32} (hB : okB B) (hb : ∀ k, k < B.1 → bt k = (nI (B.2 k)).toInt8.toInt32) {k : Nat} (hk : k < 2 ^ 31) : X4_kindAt (nI k) (nI B.1) bt = some (nI (kd B k)) := by
  have h3 := hB.1
  unfold X4_kindAt lat kd
  rw [if_neg (nI_pos hk)]
  by_cases h : B.1 ≤ k
  · rw [if_pos (nI_le h hk), if_pos h]; rfl
  · rw [if_neg (nI_ge (by omega) (by omega)), if_neg h, if_pos (show nI k < 320 from nI_lt (b := 320) (by omega) (by decide)), gd_in (by omega) (by decide), nI_clamp hk, hb k (by omega)]
    exact kc_I (B.2 k) (hB.2 k)
theorem byteAt_c {B : Tab} {bt : Nat → Int32} (hB : okB B) (hb : ∀ k, k < B.1 → bt k = (nI (B.2 k)).toInt8.toInt32) {k : Nat} (hk : kd B k = 2 ∨ kd B k = 3) : X9_byteAt (nI k) (nI B.1) bt = some (nI (B.2 k)) ∧ 48 ≤ B.2 k := by
  have h3 := hB.1
  have hl : k < B.1 := by
    rcases Nat.lt_or_ge k B.1 with z | z
    · exact z
    · have := (kd_0 hB).mpr z; omega
  have h1 : kc (B.2 k) = 2 ∨ kc (B.2 k) = 3 := by
    unfold kd at hk
    rw [if_neg (by omega)] at hk; exact hk
  have h2 := kc_128 h1
  refine ⟨?_, h2.1⟩
  unfold X9_byteAt
  rw [if_neg (nI_pos (by omega)), if_neg (nI_ge (by omega) (by omega)), if_neg (show ¬ (320 : Int32) ≤ nI k from nI_ge (b := 320) (by omega) (by decide)), gd_in (by omega) (by decide), nI_clamp (by omega), hb k hl, by8 _ h2.2]
theorem byteAt_m {B : Tab} {tp : Nat → Int32} (hB : okB B) (hb : ∀ k, k < B.1 → tp k = nI (B.2 k)) {k : Nat} (hk : k < 2 ^ 31) : X11_byteAt (nI k) (nI B.1) tp = some (rb B k) := by
  have h3 := hB.1
  unfold X11_byteAt rb
  by_cases h : B.1 ≤ k
  · rw [if_pos (nI_le h hk), if_pos h]
  · rw [if_neg (nI_ge (by omega) (by omega)), if_neg h, gd_in (by omega) (by decide), nI_clamp hk, hb k (by omega)]
-- runs of one kind
def rn (B : Tab) (c : Nat) : Nat → Nat → Nat
  | 0, s => s
  | m + 1, s => if kd B s = c then rn B c m (s + 1) else s
theorem rn_b (B : Tab) (c : Nat) : ∀ m s, s ≤ rn B c m s ∧ rn B c m s ≤ s + m
  | 0, s => ⟨Nat.le_refl _, Nat.le_refl _⟩
  | m + 1, s => by
    have h := rn_b B c m (s + 1)
    show s ≤ (if kd B s = c then rn B c m (s + 1) else s) ∧ (if kd B s = c then rn B c m (s + 1) else s) ≤ s + (m + 1)
    split <;> omega
theorem rn_in (B : Tab) (c : Nat) : ∀ m s j, s ≤ j → j < rn B c m s → kd B j = c
  | 0, s, j, h1, h2 => by
    have h2' : j < s := h2
    omega
  | m + 1, s, j, h1, h2 => by
    by_cases z : kd B s = c
    · have h2' : j < (if kd B s = c then rn B c m (s + 1) else s) := h2
      rw [if_pos z] at h2'
      rcases (show j = s ∨ s + 1 ≤ j by omega) with rfl | y
      · exact z
      · exact rn_in B c m (s + 1) j y h2'
    · have h2' : j < (if kd B s = c then rn B c m (s + 1) else s) := h2
      rw [if_neg z] at h2'
      omega
def tS (B : Tab) (s : Nat) : Nat := rn B 1 (B.1 - s) s
def tK (B : Tab) (s : Nat) : Nat := kd B (tS B s)
def tE (B : Tab) (s : Nat) : Nat := rn B (tK B s) (B.1 - tS B s) (tS B s)
def tN (B : Tab) (s : Nat) : Nat := if tK B s = 4 then tS B s + 1 else if tK B s = 0 then tS B s else tE B s
def vlu (B : Tab) : Nat → Nat → Nat → Nat
  | 0, _, v => v
  | m + 1, s, v => vlu B m (s + 1) (10 * v + B.2 s - 48)
def tV (B : Tab) (s : Nat) : Nat := vlu B (tE B s - tS B s) (tS B s) 0
def bad (B : Tab) (s : Nat) : Bool := decide (tK B s = 5) || (decide (tK B s = 3) && decide (tS B s + 4 < tE B s))
theorem tS_b {B : Tab} {s : Nat} (h : s ≤ B.1) : s ≤ tS B s ∧ tS B s ≤ B.1 := by
  have := rn_b B 1 (B.1 - s) s
  unfold tS; omega
theorem tE_b {B : Tab} {s : Nat} (h : s ≤ B.1) : tS B s ≤ tE B s ∧ tE B s ≤ B.1 := by
  have h1 := tS_b h
  have := rn_b B (tK B s) (B.1 - tS B s) (tS B s)
  unfold tE; omega
theorem tK_1 {B : Tab} (hB : okB B) {s : Nat} (h : s ≤ B.1) : tK B s ≠ 1 := by
  have key : ∀ m s, s + m = B.1 → kd B (rn B 1 m s) ≠ 1 := fun m => by
    induction m with
    | zero =>
      intro s hs z
      have : kd B s = 0 := (kd_0 hB).mpr (by omega)
      rw [show rn B 1 0 s = s from rfl, this] at z
      exact absurd z (by decide)
    | succ m ih =>
      intro s hs
      show kd B (if kd B s = 1 then rn B 1 m (s + 1) else s) ≠ 1
      by_cases z : kd B s = 1
      · rw [if_pos z]; exact ih (s + 1) (by omega)
      · rw [if_neg z]; exact z
  exact key (B.1 - s) s (by omega)
theorem tN_b {B : Tab} (hB : okB B) {s : Nat} (h : s ≤ B.1) : s ≤ tN B s ∧ tN B s ≤ B.1 ∧ (tK B s ≠ 0 → tK B s ≠ 5 → s < tN B s) := by
  have h1 := tS_b h
  have h2 := tE_b h
  unfold tN
  by_cases z4 : tK B s = 4
  · rw [if_pos z4]
    have : tS B s < B.1 := by
      rcases Nat.lt_or_ge (tS B s) B.1 with y | y
      · exact y
      · have : tK B s = 0 := (kd_0 hB).mpr y
        omega
    exact ⟨by omega, by omega, fun _ _ => by omega⟩
  · rw [if_neg z4]
    by_cases z0 : tK B s = 0
    · rw [if_pos z0]; exact ⟨h1.1, h1.2, fun y => absurd z0 y⟩
    · rw [if_neg z0]
      refine ⟨by omega, h2.2, fun _ _ => ?_⟩
      have lt : tS B s < B.1 := by
        rcases Nat.lt_or_ge (tS B s) B.1 with y | y
        · exact y
        · exact absurd ((kd_0 hB).mpr y) z0
      have : tS B s < tE B s := by
        unfold tE
        obtain ⟨m, hm⟩ : ∃ m, B.1 - tS B s = m + 1 := ⟨B.1 - tS B s - 1, by omega⟩
        rw [hm]
        show tS B s < (if kd B (tS B s) = tK B s then rn B (tK B s) m (tS B s + 1) else tS B s)
        rw [if_pos (show kd B (tS B s) = tK B s from rfl)]
        have := rn_b B (tK B s) m (tS B s + 1)
        omega
      omega
-- the class reads a token
abbrev TkR : Type := Option (Int32 × Int32 × Int32 × Int32 × Int32 × Int32 × Int32)
theorem blk_c {B : Tab} {bt : Nat → Int32} (hB : okB B) (hb : ∀ k, k < B.1 → bt k = (nI (B.2 k)).toInt8.toInt32) (k39 : Int32 → Int32 → Int32 → Int32 → Int32 → Int32 → TkR) (fl fa k st v : Int32) : ∀ (m s f : Nat), s + m = B.1 → m + 1 ≤ f → X4_readToken_L0 (nI B.1) bt k39 f fl fa k (nI s) st v = k39 fl fa k (nI (rn B 1 m s)) st v
  | 0, s, f + 1, hs, _ => by
    have h3 := hB.1
    show X4_readToken_B0 _ _ _ _ _ _ _ _ _ _ = _
    unfold X4_readToken_B0
    rw [if_pos (nI_le (by omega) (by omega))]; rfl
  | m + 1, s, f + 1, hs, hf => by
    have h3 := hB.1
    have ih := blk_c hB hb k39 fl fa k st v m (s + 1) f (by omega) (by omega)
    have hk := (rb_k hB s).2.2.2.2.2
    show X4_readToken_B0 _ _ _ _ _ _ _ _ _ _ = k39 fl fa k (nI (if kd B s = 1 then rn B 1 m (s + 1) else s)) st v
    unfold X4_readToken_B0 lat
    rw [if_neg (nI_ge (by omega) (by omega)), kindAt_c hB hb (by omega), bs, nI_1]
    have e : (nI (kd B s) = 1) ↔ kd B s = 1 := nI_eq (b := 1) (by omega) (by decide)
    by_cases z : kd B s = 1
    · rw [if_pos (e.mpr z), if_pos z]; exact ih
    · rw [if_neg (fun y => z (e.mp y)), if_neg z]
theorem nam_c {B : Tab} {bt : Nat → Int32} (hB : okB B) (hb : ∀ k, k < B.1 → bt k = (nI (B.2 k)).toInt8.toInt32) (k152 : Int32 → Int32 → Int32 → Int32 → Int32 → Int32 → TkR) (fl fa st v : Int32) : ∀ (m s f : Nat), s + m = B.1 → m + 1 ≤ f → X4_readToken_L102 (nI B.1) bt k152 f fl fa 2 (nI s) st v = some (1, fl, fa, 2, nI (rn B 2 m s), st, v)
  | 0, s, f + 1, hs, _ => by
    have h3 := hB.1
    show X4_readToken_B102 _ _ _ _ _ _ _ _ _ _ = _
    unfold X4_readToken_B102
    rw [if_pos (nI_le (by omega) (by omega))]; rfl
  | m + 1, s, f + 1, hs, hf => by
    have h3 := hB.1
    have ih := nam_c hB hb k152 fl fa st v m (s + 1) f (by omega) (by omega)
    have hk := (rb_k hB s).2.2.2.2.2
    show X4_readToken_B102 _ _ _ _ _ _ _ _ _ _ = some (1, fl, fa, 2, nI (if kd B s = 2 then rn B 2 m (s + 1) else s), st, v)
    unfold X4_readToken_B102 X4_readToken_J188 lat
    rw [if_neg (nI_ge (by omega) (by omega)), kindAt_c hB hb (by omega), bs, nI_1]
    have e : (nI (kd B s) = 2) ↔ kd B s = 2 := nI_eq (b := 2) (by omega) (by decide)
    by_cases z : kd B s = 2
    · rw [if_pos (e.mpr z), if_neg (show ¬ (2 : Int32) = 3 by decide), if_pos z]; exact ih
    · rw [if_neg (fun y => z (e.mp y)), if_neg z]
theorem dig_c {B : Tab} {bt : Nat → Int32} (hB : okB B) (hb : ∀ k, k < B.1 → bt k = (nI (B.2 k)).toInt8.toInt32) (fl fa : Int32) {p0 : Nat} : ∀ (m s f v : Nat), s + m = B.1 → m + 1 ≤ f → p0 ≤ s → s ≤ p0 + 4 → (rn B 3 m s ≤ p0 + 4 → X4_readToken_L102 (nI B.1) bt X4_readToken_J152 f fl fa 3 (nI s) (nI p0) (nI v) = some (1, fl, fa, 3, nI (rn B 3 m s), nI p0, nI (vlu B (rn B 3 m s - s) s v))) ∧ (p0 + 4 < rn B 3 m s → ∃ x y, X4_readToken_L102 (nI B.1) bt X4_readToken_J152 f fl fa 3 (nI s) (nI p0) (nI v) = some (0, 1, nI p0, 3, x, nI p0, y))
  | 0, s, f + 1, v, hs, _, h0, h4 => by
    have h3 := hB.1
    have e : rn B 3 0 s = s := rfl
    rw [e]
    refine ⟨fun _ => ?_, fun h => by omega⟩
    rw [Nat.sub_self]
    show X4_readToken_B102 _ _ _ _ _ _ _ _ _ _ = _
    unfold X4_readToken_B102
    rw [if_pos (nI_le (by omega) (by omega))]; rfl
  | m + 1, s, f + 1, v, hs, hf, h0, h4 => by
    have h3 := hB.1
    have hk := (rb_k hB s).2.2.2.2.2
    have e : (nI (kd B s) = 3) ↔ kd B s = 3 := nI_eq (b := 3) (by omega) (by decide)
    have er : rn B 3 (m + 1) s = if kd B s = 3 then rn B 3 m (s + 1) else s := rfl
    have st1 : X4_readToken_L102 (nI B.1) bt X4_readToken_J152 (f + 1) fl fa 3 (nI s) (nI p0) (nI v) = if kd B s = 3 then (if s < p0 + 4 then X4_readToken_L102 (nI B.1) bt X4_readToken_J152 f fl fa 3 (nI (s + 1)) (nI p0) (nI (10 * v + B.2 s - 48)) else X4_readToken_J152 fl fa 3 (nI s) (nI p0) (nI v)) else some (1, fl, fa, 3, nI s, nI p0, nI v) := by
      show X4_readToken_B102 _ _ _ _ _ _ _ _ _ _ = _
      unfold X4_readToken_B102 X4_readToken_J188 lat
      rw [if_neg (nI_ge (by omega) (by omega)), kindAt_c hB hb (by omega), bs, nI_1]
      by_cases z : kd B s = 3
      · obtain ⟨b1, b2'⟩ := byteAt_c hB hb (Or.inr z)
        rw [if_pos (e.mpr z), if_pos rfl, if_pos z, nI_sub' h0, b1, bs]
        by_cases y : s < p0 + 4
        · rw [if_pos (show nI (s - p0) < 4 from nI_lt (b := 4) (by omega) (by decide)), if_pos y]
          have ev : nI v * 10 + nI (B.2 s) - 48 = nI (10 * v + B.2 s - 48) := by
            rw [show nI v * 10 = nI (v * 10) from nI_mul v 10, nI_add, show (48 : Int32) = nI 48 from rfl, nI_sub' (by omega), Nat.mul_comm v 10]
          rw [ev]
        · rw [if_neg (show ¬ nI (s - p0) < 4 from nI_nlt (b := 4) (by omega) (by omega)), if_neg y]
      · rw [if_neg (fun y => z (e.mp y)), if_neg z]
    rw [st1, er]
    by_cases z : kd B s = 3
    · rw [if_pos z, if_pos z]
      have rb1 := rn_b B 3 m (s + 1)
      by_cases y : s < p0 + 4
      · rw [if_pos y]
        obtain ⟨i1, i2⟩ := dig_c hB hb fl fa (p0 := p0) m (s + 1) f (10 * v + B.2 s - 48) (by omega) (by omega) (by omega) (by omega)
        refine ⟨fun h => ?_, i2⟩
        rw [i1 h, show rn B 3 m (s + 1) - s = (rn B 3 m (s + 1) - (s + 1)) + 1 by omega]
        rfl
      · rw [if_neg y]
        exact ⟨fun h => by omega, fun _ => ⟨nI s, nI v, rfl⟩⟩
    · rw [if_neg z, if_neg z]
      refine ⟨fun _ => ?_, fun h => by omega⟩
      rw [Nat.sub_self]; rfl
theorem readToken_c {B : Tab} {bt : Nat → Int32} (hB : okB B) (hb : ∀ k, k < B.1 → bt k = (nI (B.2 k)).toInt8.toInt32) (fl fa k st v0 : Int32) {s : Nat} (hs : s ≤ B.1) : (bad B s = false → ∃ v, X4_readToken fl fa k (nI s) st v0 (nI B.1) bt = some (1, fl, fa, nI (tK B s), nI (tN B s), nI (tS B s), v) ∧ (tK B s = 3 → v = nI (tV B s))) ∧ (bad B s = true → ∃ x1 x2 x3 x4, X4_readToken fl fa k (nI s) st v0 (nI B.1) bt = some (0, 1, nI (tS B s), x1, x2, x3, x4)) := by
  have h3 := hB.1
  have h1 := tS_b hs
  have n1 := tK_1 hB hs
  have k5 : tK B s ≤ 5 := (rb_k hB (tS B s)).2.2.2.2.2
  have e0 : X4_readToken fl fa k (nI s) st v0 (nI B.1) bt = X4_readToken_J39 (nI B.1) bt fl fa k (nI (tS B s)) st v0 := by
    unfold X4_readToken
    rw [blk_c hB hb _ fl fa k st v0 (B.1 - s) s 1000 (by omega) (by omega)]; rfl
  rw [e0]
  unfold X4_readToken_J39 lat
  rw [kindAt_c hB hb (by omega), bs, show kd B (tS B s) = tK B s from rfl, nI_1]
  have e5 : (nI (tK B s) = 5) ↔ tK B s = 5 := nI_eq (b := 5) (by omega) (by decide)
  have e4 : (nI (tK B s) = 4) ↔ tK B s = 4 := nI_eq (b := 4) (by omega) (by decide)
  by_cases z5 : tK B s = 5
  · have hb1 : bad B s = true := by unfold bad; rw [decide_eq_true z5]; rfl
    rw [hb1, if_pos (e5.mpr z5)]
    exact ⟨fun h => absurd h (by decide), fun _ => ⟨_, _, _, _, rfl⟩⟩
  rw [if_neg (fun y => z5 (e5.mp y))]
  by_cases z4 : tK B s = 4
  · have hb1 : bad B s = false := by unfold bad; rw [z4]; rfl
    have en : tN B s = tS B s + 1 := by unfold tN; rw [if_pos z4]
    rw [hb1, if_pos (e4.mpr z4), en]
    exact ⟨fun _ => ⟨v0, rfl, fun h => by omega⟩, fun h => absurd h (by decide)⟩
  rw [if_neg (fun y => z4 (e4.mp y))]
  by_cases z0 : tK B s = 0
  · have hb1 : bad B s = false := by unfold bad; rw [z0]; rfl
    have en : tN B s = tS B s := by unfold tN; rw [if_neg z4, if_pos z0]
    have hL : B.1 ≤ tS B s := (kd_0 hB).mp z0
    rw [hb1, en]
    refine ⟨fun _ => ⟨0, ?_, fun h => by omega⟩, fun h => absurd h (by decide)⟩
    have key : ∀ f, 1 ≤ f → X4_readToken_L102 (nI B.1) bt X4_readToken_J152 f fl fa (nI (tK B s)) (nI (tS B s)) (nI (tS B s)) 0 = some (1, fl, fa, nI (tK B s), nI (tS B s), nI (tS B s), 0) := fun f hf => by
      obtain ⟨f', rfl⟩ : ∃ f', f = f' + 1 := ⟨f - 1, by omega⟩
      show X4_readToken_B102 _ _ _ _ _ _ _ _ _ _ = _
      unfold X4_readToken_B102
      rw [if_pos (nI_le hL (by omega))]
    exact key 1000 (by omega)
  have en : tN B s = tE B s := by unfold tN; rw [if_neg z4, if_neg z0]
  rw [en]
  rcases (show tK B s = 2 ∨ tK B s = 3 by omega) with z2 | z3
  · have hb1 : bad B s = false := by unfold bad; rw [z2]; rfl
    rw [hb1]
    refine ⟨fun _ => ⟨0, ?_, fun h => by omega⟩, fun h => absurd h (by decide)⟩
    have := nam_c hB hb X4_readToken_J152 fl fa (nI (tS B s)) 0 (B.1 - tS B s) (tS B s) 1000 (by omega) (by omega)
    unfold tE
    rw [z2]
    exact this
  · obtain ⟨d1, d2⟩ := dig_c hB hb fl fa (p0 := tS B s) (B.1 - tS B s) (tS B s) 1000 0 (by omega) (by omega) (Nat.le_refl _) (by omega)
    have eE : rn B 3 (B.1 - tS B s) (tS B s) = tE B s := by unfold tE; rw [z3]
    rw [eE] at d1 d2
    have eb : bad B s = decide (tS B s + 4 < tE B s) := by unfold bad; rw [z3]; rfl
    rw [eb, z3]
    refine ⟨fun h => ⟨_, d1 (by have := of_decide_eq_false h; omega), fun _ => rfl⟩, fun h => ?_⟩
    obtain ⟨x, y, w⟩ := d2 (of_decide_eq_true h)
    exact ⟨_, _, _, _, w⟩
