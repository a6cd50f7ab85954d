/-! land: the reference's step; numbers and signs -/
def tkc (k : Nat) : Nat := if k = 2 then 1 else if k = 3 then 2 else if k = 4 then 3 else 0
/-- the reference has gone on to the token at s -/
def Pd (B : Tab) (s : Nat) (br bA he sp tk va : Int32) : Prop := (bad B s = true → br = 1 ∧ bA = nI (tS B s)) ∧ (bad B s = false → br = 0 ∧ he = nI (tS B s) ∧ sp = nI (tN B s) ∧ tk = nI (tkc (tK B s)) ∧ (tK B s = 3 → va = nI (tV B s)))
abbrev StR : Type := Option (Int32 × Int32 × Int32 × Int32 × Int32 × Int32)
theorem blk_m {B : Tab} {tp : Nat → Int32} (hB : okB B) (hb : ∀ k, k < B.1 → tp k = nI (B.2 k)) (k34 : Int32 → Int32 → Int32 → Int32 → Int32 → Int32 → StR) (br bA he tk va : Int32) : ∀ (m s f : Nat), s + m = B.1 → m + 1 ≤ f → X11_step_L8 (nI B.1) tp k34 f br bA he (nI s) tk va = k34 br bA he (nI (rn B 1 m s)) tk va
  | 0, s, f + 1, hs, _ => by
    have h3 := hB.1
    show X11_step_B8 _ _ _ _ _ _ _ _ _ _ = _
    unfold X11_step_B8
    have z : ¬ rb B s = 32 := fun y => by
      have h1 := (rb_k hB s).1.mp y
      rw [(kd_0 hB).mpr (by omega)] at h1
      exact absurd h1 (by decide)
    rw [byteAt_m hB hb (by omega), bs, if_neg z]; rfl
  | m + 1, s, f + 1, hs, hf => by
    have h3 := hB.1
    have ih := blk_m hB hb k34 br bA he tk va m (s + 1) f (by omega) (by omega)
    have e := (rb_k hB s).1
    show X11_step_B8 _ _ _ _ _ _ _ _ _ _ = k34 br bA he (nI (if kd B s = 1 then rn B 1 m (s + 1) else s)) tk va
    unfold X11_step_B8 lat
    rw [byteAt_m hB hb (by omega), bs, nI_1]
    by_cases z : kd B s = 1
    · rw [if_pos (e.mpr z), if_pos z]; exact ih
    · rw [if_neg (fun y => z (e.mp y)), if_neg z]
theorem nam_m {B : Tab} {tp : Nat → Int32} (hB : okB B) (hb : ∀ k, k < B.1 → tp k = nI (B.2 k)) (br bA he tk va : Int32) : ∀ (m s f : Nat), s + m = B.1 → m + 1 ≤ f → X11_step_L84 (nI B.1) tp f br bA he (nI s) tk va = some (br, bA, he, nI (rn B 2 m s), 1, va)
  | 0, s, f + 1, hs, _ => by
    have h3 := hB.1
    have e := (rb_k hB s).2.1
    show X11_step_B84 _ _ _ _ _ _ _ _ _ = _
    unfold X11_step_B84
    rw [byteAt_m hB hb (by omega), bs, e, (kd_0 hB).mpr (show B.1 ≤ s by omega)]
    rfl
  | m + 1, s, f + 1, hs, hf => by
    have h3 := hB.1
    have ih := nam_m hB hb br bA he tk va m (s + 1) f (by omega) (by omega)
    have e := (rb_k hB s).2.1
    show X11_step_B84 _ _ _ _ _ _ _ _ _ = some (br, bA, he, nI (if kd B s = 2 then rn B 2 m (s + 1) else s), 1, va)
    unfold X11_step_B84 lat
    rw [byteAt_m hB hb (by omega), bs, nI_1, e]
    by_cases z : kd B s = 2
    · rw [decide_eq_true z, ifb_t, if_pos z]; exact ih
    · rw [decide_eq_false z, ifb_f, if_neg z]
theorem dig_m {B : Tab} {tp : Nat → Int32} (hB : okB B) (hb : ∀ k, k < B.1 → tp k = nI (B.2 k)) (k217 : Int32 → Int32 → Int32 → Int32 → Int32 → Int32 → StR) (br bA tk : Int32) {p0 : Nat} : ∀ (m s f v : Nat), s + m = B.1 → m + 1 ≤ f → p0 ≤ s → ∃ v', X11_step_L140 (nI B.1) tp k217 f br bA (nI p0) (nI s) tk (nI v) = k217 br bA (nI p0) (nI (rn B 3 m s)) tk (nI v') ∧ (rn B 3 m s ≤ p0 + 4 → v' = vlu B (rn B 3 m s - s) s v)
  | 0, s, f + 1, v, hs, _, h0 => by
    have h3 := hB.1
    have e := (rb_k hB s).2.2.1
    refine ⟨v, ?_, fun _ => by rw [show rn B 3 0 s = s from rfl, Nat.sub_self]; rfl⟩
    show X11_step_B140 _ _ _ _ _ _ _ _ _ _ = _
    unfold X11_step_B140
    rw [byteAt_m hB hb (by omega), bs, e, (kd_0 hB).mpr (show B.1 ≤ s by omega)]
    rfl
  | m + 1, s, f + 1, v, hs, hf, h0 => by
    have h3 := hB.1
    have e := (rb_k hB s).2.2.1
    have er : rn B 3 (m + 1) s = if kd B s = 3 then rn B 3 m (s + 1) else s := rfl
    have rb1 := rn_b B 3 m (s + 1)
    show ∃ v', X11_step_B140 _ _ _ _ _ _ _ _ _ _ = _ ∧ _
    unfold X11_step_B140 X11_step_J201 lat
    rw [byteAt_m hB hb (by omega), bs, bs, nI_1, e, er]
    by_cases z : kd B s = 3
    · rw [decide_eq_true z, ifb_t, if_pos z, nI_sub' h0]
      have c48 : s < B.1 ∧ 48 ≤ B.2 s := by
        have hl : s < B.1 := by omega
        have h1 : kc (B.2 s) = 3 := by unfold kd at z; rw [if_neg (by omega)] at z; exact z
        exact ⟨hl, (kc_128 (Or.inr h1)).1⟩
      have er2 : rb B s = nI (B.2 s) := by unfold rb; rw [if_neg (by omega)]
      by_cases y : p0 + 4 ≤ s
      · rw [if_pos (show (4 : Int32) ≤ nI (s - p0) from nI_le (a := 4) (by omega) (by omega))]
        obtain ⟨v', i1, i2⟩ := dig_m hB hb k217 br bA tk (p0 := p0) m (s + 1) f v (by omega) (by omega) (by omega)
        exact ⟨v', i1, fun h => by omega⟩
      · rw [if_neg (show ¬ (4 : Int32) ≤ nI (s - p0) from nI_ge (b := 4) (by omega) (by decide))]
        obtain ⟨v', i1, i2⟩ := dig_m hB hb k217 br bA tk (p0 := p0) m (s + 1) f (10 * v + B.2 s - 48) (by omega) (by omega) (by omega)
        refine ⟨v', ?_, fun h => ?_⟩
        · rw [er2, show (10 : Int32) * nI v = nI (10 * v) from nI_mul 10 v, nI_add, show (48 : Int32) = nI 48 from rfl, nI_sub' (by omega)]
          exact i1
        · rw [i2 h, show rn B 3 m (s + 1) - s = (rn B 3 m (s + 1) - (s + 1)) + 1 by omega]; rfl
    · rw [decide_eq_false z, ifb_f, if_neg z]
      exact ⟨v, rfl, fun _ => by rw [Nat.sub_self]; rfl⟩
theorem step_m {B : Tab} {tp : Nat → Int32} (hB : okB B) (hb : ∀ k, k < B.1 → tp k = nI (B.2 k)) (bA he tk va : Int32) {s : Nat} (hs : s ≤ B.1) : ∃ br' bA' he' sp' tk' va', X11_step 0 bA he (nI s) (nI B.1) tk va tp = some (br', bA', he', sp', tk', va') ∧ Pd B s br' bA' he' sp' tk' va' := by
  have h3 := hB.1
  have h1 := tS_b hs
  have n1 := tK_1 hB hs
  obtain ⟨r1, r2, r3, r4, r5, r6⟩ := rb_k hB (tS B s)
  have ek : kd B (tS B s) = tK B s := rfl
  rw [ek] at r1 r2 r3 r4 r5 r6
  have e0 : X11_step 0 bA he (nI s) (nI B.1) tk va tp = X11_step_J34 (nI B.1) tp 0 bA he (nI (tS B s)) tk va := by
    unfold X11_step
    rw [if_pos (show (0 : Int32) ≤ 0 by decide), blk_m hB hb _ 0 bA he tk va (B.1 - s) s 1000 (by omega) (by omega)]; rfl
  rw [e0]
  unfold X11_step_J34 lat
  rw [byteAt_m hB hb (by omega), bs, r2, r3, nI_1]
  by_cases z0 : tK B s = 0
  · have hb1 : bad B s = false := by unfold bad; rw [z0]; rfl
    have en : tN B s = tS B s := by unfold tN; rw [if_neg (by omega), if_pos z0]
    rw [if_pos (r4.mpr z0)]
    refine ⟨_, _, _, _, _, _, rfl, fun h => (by rw [hb1] at h; exact absurd h (by decide)), fun _ => ⟨rfl, rfl, by rw [en], by rw [z0]; rfl, fun h => by omega⟩⟩
  rw [if_neg (fun y => z0 (r4.mp y))]
  by_cases z2 : tK B s = 2
  · have hb1 : bad B s = false := by unfold bad; rw [z2]; rfl
    have en : tN B s = tE B s := by unfold tN; rw [if_neg (by omega), if_neg z0]
    have nm := nam_m hB hb 0 bA (nI (tS B s)) tk 0 (B.1 - tS B s) (tS B s) 1000 (by omega) (by omega)
    rw [decide_eq_true z2, ifb_t, nm]
    refine ⟨_, _, _, _, _, _, rfl, fun h => (by rw [hb1] at h; exact absurd h (by decide)), fun _ => ⟨rfl, rfl, by rw [en]; unfold tE; rw [z2], by rw [z2]; rfl, fun h => by omega⟩⟩
  rw [decide_eq_false z2, ifb_f]
  by_cases z3 : tK B s = 3
  · have en : tN B s = tE B s := by unfold tN; rw [if_neg (by omega), if_neg z0]
    obtain ⟨v', d1, d2⟩ := dig_m hB hb X11_step_J217 0 bA tk (p0 := tS B s) (B.1 - tS B s) (tS B s) 1000 0 (by omega) (by omega) (Nat.le_refl _)
    have eE : rn B 3 (B.1 - tS B s) (tS B s) = tE B s := by unfold tE; rw [z3]
    rw [eE] at d1 d2
    have d1' : X11_step_L140 (nI B.1) tp X11_step_J217 1000 0 bA (nI (tS B s)) (nI (tS B s)) tk 0 = _ := d1
    have tb := tE_b hs
    rw [decide_eq_true z3, ifb_t, d1']
    unfold X11_step_J217 lat
    rw [nI_sub' tb.1]
    have eb : bad B s = decide (tS B s + 4 < tE B s) := by unfold bad; rw [z3]; rfl
    by_cases y : tS B s + 4 < tE B s
    · rw [if_neg (show ¬ nI (tE B s - tS B s) ≤ 4 from nI_ge (a := 4) (by omega) (by omega))]
      exact ⟨_, _, _, _, _, _, rfl, fun _ => ⟨rfl, rfl⟩, fun h => by rw [eb, decide_eq_true y] at h; exact absurd h (by decide)⟩
    · rw [if_pos (show nI (tE B s - tS B s) ≤ 4 from nI_le (b := 4) (by omega) (by decide))]
      refine ⟨_, _, _, _, _, _, rfl, fun h => (by rw [eb, decide_eq_false y] at h; exact absurd h (by decide)), fun _ => ⟨rfl, rfl, by rw [en], by rw [z3]; rfl, fun _ => ?_⟩⟩
      rw [d2 (by omega)]; rfl
  rw [decide_eq_false z3, ifb_f]
  dsimp only
  by_cases z4 : tK B s = 4
  · have hb1 : bad B s = false := by unfold bad; rw [z4]; rfl
    have en : tN B s = tS B s + 1 := by unfold tN; rw [if_pos z4]
    rw [if_pos (r5.mpr z4)]
    refine ⟨_, _, _, _, _, _, rfl, fun h => (by rw [hb1] at h; exact absurd h (by decide)), fun _ => ⟨rfl, rfl, by rw [en], by rw [z4]; rfl, fun h => by omega⟩⟩
  have z5 : tK B s = 5 := by omega
  have hb1 : bad B s = true := by unfold bad; rw [decide_eq_true z5]; rfl
  rw [if_neg (fun y => z4 (r5.mp y))]
  exact ⟨_, _, _, _, _, _, rfl, fun _ => ⟨rfl, rfl⟩, fun h => by rw [hb1] at h; exact absurd h (by decide)⟩
theorem step_b {c : Nat} (h1 : 1 ≤ c) (h5 : c ≤ 5) (bA he sp tl tk va : Int32) (tp : Nat → Int32) : X11_step (nI c) bA he sp tl tk va tp = some (nI c, bA, he, sp, tk, va) := by
  unfold X11_step
  rw [if_neg (nI_nle (by omega) (by omega))]
theorem nIc {c : Nat} (h1 : 1 ≤ c) (h5 : c ≤ 5) : ¬ nI c = 0 := nI_ne0 (by omega) (by omega)
theorem looks_b {c : Nat} (h1 : 1 ≤ c) (h5 : c ≤ 5) (x y bA he tk va : Int32) : X11_looks x y (nI c) bA he tk va = (nI c, bA) := by
  unfold X11_looks X11_looks_J20
  rw [if_neg (nIc h1 h5), if_neg (nIc h1 h5)]
theorem number_b {c : Nat} (h1 : 1 ≤ c) (h5 : c ≤ 5) (x y bA he sp tl tk va : Int32) (tp : Nat → Int32) : X11_number x y (nI c) bA he sp tl tk va tp = some (x, nI c, bA, he, sp, tk, va) := by
  unfold X11_number X11_number_J21 lat
  rw [looks_b h1 h5]
  dsimp only
  rw [if_neg (nIc h1 h5), step_b h1 h5, bs]
/-- what is wrong with a number: 0 nothing -/
def ne (B : Tab) (lo hi s : Nat) : Nat := if bad B s = true then 1 else if tK B s = 3 then (if tV B s < lo ∨ hi < tV B s then 3 else 0) else 2
theorem ne_3 (B : Tab) (lo hi s : Nat) : ne B lo hi s ≤ 3 := by
  unfold ne; split
  · omega
  · split
    · split <;> omega
    · omega
theorem vlu_b {B : Tab} (hB : okB B) : ∀ (m s v : Nat), vlu B m s v ≤ v * 10 ^ m + 255 * 10 ^ m
  | 0, s, v => by show v ≤ _; omega
  | m + 1, s, v => by
    have h := vlu_b hB m (s + 1) (10 * v + B.2 s - 48)
    have hc := hB.2 s
    show vlu B m (s + 1) (10 * v + B.2 s - 48) ≤ _
    rw [Nat.pow_succ]
    generalize 10 ^ m = P at *
    have e1 : (10 * v + B.2 s - 48) * P ≤ (10 * v + 207) * P := Nat.mul_le_mul_right _ (by omega)
    have e2 : (10 * v + 207) * P = 10 * v * P + 207 * P := Nat.add_mul ..
    have e3 : v * (P * 10) = 10 * v * P := by rw [Nat.mul_comm P 10, ← Nat.mul_assoc, Nat.mul_comm v 10]
    rw [e3]
    generalize 10 * v * P = Q at *
    omega
theorem tV_b {B : Tab} (hB : okB B) {s : Nat} (hs : s ≤ B.1) (h3 : tK B s = 3) (h : bad B s = false) : tV B s < 2 ^ 31 := by
  have hb := vlu_b hB (tE B s - tS B s) (tS B s) 0
  have hl : tE B s - tS B s ≤ 4 := by
    unfold bad at h
    rw [h3] at h
    have : decide (tS B s + 4 < tE B s) = false := h
    have := of_decide_eq_false this
    omega
  have hp : 10 ^ (tE B s - tS B s) ≤ 10 ^ 4 := Nat.pow_le_pow_right (by decide) hl
  unfold tV
  generalize 10 ^ (tE B s - tS B s) = P at *
  rw [Nat.zero_mul, Nat.zero_add] at hb
  have : (10 : Nat) ^ 4 = 10000 := by decide
  omega
theorem readNumber_c {B : Tab} {bt : Nat → Int32} (hB : okB B) (hb : ∀ k, k < B.1 → bt k = (nI (B.2 k)).toInt8.toInt32) {lo hi : Nat} (hlo : lo < 2 ^ 31) (hhi : hi < 2 ^ 31) (fl fa k st v0 : Int32) {s : Nat} (hs : s ≤ B.1) : (ne B lo hi s = 0 → X4_readNumber (nI lo) (nI hi) fl fa k (nI s) st v0 (nI B.1) bt = some (1, fl, fa, 3, nI (tN B s), nI (tS B s), nI (tV B s))) ∧ (ne B lo hi s ≠ 0 → ∃ x1 x2 x3 x4, X4_readNumber (nI lo) (nI hi) fl fa k (nI s) st v0 (nI B.1) bt = some (0, nI (ne B lo hi s), nI (tS B s), x1, x2, x3, x4)) := by
  obtain ⟨t1, t2⟩ := readToken_c hB hb fl fa k st v0 hs
  have k5 : tK B s ≤ 5 := (rb_k hB (tS B s)).2.2.2.2.2
  unfold X4_readNumber X4_readNumber_J43 lat ne
  cases hbd : bad B s with
  | true =>
    obtain ⟨x1, x2, x3, x4, e⟩ := t2 hbd
    rw [e, bs]
    dsimp only
    rw [if_pos rfl, if_pos rfl]
    exact ⟨fun h => absurd h (by decide), fun _ => ⟨_, _, _, _, rfl⟩⟩
  | false =>
    obtain ⟨v, e, ev⟩ := t1 hbd
    rw [e, bs]
    dsimp only
    rw [if_neg (show ¬ (1 : Int32) = 0 by decide), if_neg (show ¬ false = true by decide)]
    have e3 : (nI (tK B s) = 3) ↔ tK B s = 3 := nI_eq (b := 3) (by omega) (by decide)
    by_cases z : tK B s = 3
    · have vb := tV_b hB hs z hbd
      rw [if_pos (e3.mpr z), if_pos z, ev z]
      have l1 : (nI (tV B s) < nI lo) ↔ tV B s < lo := nI_ltI vb hlo
      have l2 : (nI (tV B s) ≤ nI hi) ↔ tV B s ≤ hi := nI_leI vb hhi
      by_cases y1 : tV B s < lo
      · rw [if_pos (l1.mpr y1), if_pos (Or.inl y1)]
        exact ⟨fun h => absurd h (by decide), fun _ => ⟨_, _, _, _, rfl⟩⟩
      · rw [if_neg (fun w => y1 (l1.mp w))]
        by_cases y2 : tV B s ≤ hi
        · rw [if_pos (l2.mpr y2), if_neg (by omega), z]
          exact ⟨fun _ => rfl, fun h => absurd rfl h⟩
        · rw [if_neg (fun w => y2 (l2.mp w)), if_pos (by omega)]
          exact ⟨fun h => absurd h (by decide), fun _ => ⟨_, _, _, _, rfl⟩⟩
    · rw [if_neg (fun w => z (e3.mp w)), if_neg z]
      exact ⟨fun h => absurd h (by decide), fun _ => ⟨_, _, _, _, rfl⟩⟩
def se (B : Tab) (s : Nat) : Nat := if bad B s = true then 1 else if tK B s = 4 then 0 else 2
theorem readSign_c {B : Tab} {bt : Nat → Int32} (hB : okB B) (hb : ∀ k, k < B.1 → bt k = (nI (B.2 k)).toInt8.toInt32) (fl fa k st v0 : Int32) {s : Nat} (hs : s ≤ B.1) : (se B s = 0 → ∃ x1 x3 x4, X4_readSign fl fa k (nI s) st v0 (nI B.1) bt = some (1, fl, fa, x1, nI (tN B s), x3, x4)) ∧ (se B s ≠ 0 → ∃ x1 x2 x3 x4, X4_readSign fl fa k (nI s) st v0 (nI B.1) bt = some (0, nI (se B s), nI (tS B s), x1, x2, x3, x4)) := by
  obtain ⟨t1, t2⟩ := readToken_c hB hb fl fa k st v0 hs
  have k5 : tK B s ≤ 5 := (rb_k hB (tS B s)).2.2.2.2.2
  unfold X4_readSign lat se
  cases hbd : bad B s with
  | true =>
    obtain ⟨x1, x2, x3, x4, e⟩ := t2 hbd
    rw [e, bs]
    dsimp only
    rw [if_pos rfl, if_pos rfl]
    exact ⟨fun h => absurd h (by decide), fun _ => ⟨_, _, _, _, rfl⟩⟩
  | false =>
    obtain ⟨v, e, ev⟩ := t1 hbd
    rw [e, bs]
    dsimp only
    rw [if_neg (show ¬ (1 : Int32) = 0 by decide), if_neg (show ¬ false = true by decide)]
    have e4 : (nI (tK B s) = 4) ↔ tK B s = 4 := nI_eq (b := 4) (by omega) (by decide)
    by_cases z : tK B s = 4
    · rw [if_pos (e4.mpr z), if_pos z]
      exact ⟨fun _ => ⟨_, _, _, rfl⟩, fun h => absurd rfl h⟩
    · rw [if_neg (fun w => z (e4.mp w)), if_neg z]
      exact ⟨fun h => absurd h (by decide), fun _ => ⟨_, _, _, _, rfl⟩⟩
-- the reference looks at a number
theorem tkc_3 {k : Nat} (h : k ≤ 5) (h1 : k ≠ 1) : (nI (tkc k) = 2 ↔ k = 3) ∧ (nI (tkc k) = 3 ↔ k = 4) ∧ (nI (tkc k) = 1 ↔ k = 2) ∧ (k ≠ 5 → (nI (tkc k) = 0 ↔ k = 0)) := by
  have key : ∀ k, k < 6 → k ≠ 1 → (nI (tkc k) = 2 ↔ k = 3) ∧ (nI (tkc k) = 3 ↔ k = 4) ∧ (nI (tkc k) = 1 ↔ k = 2) ∧ (k ≠ 5 → (nI (tkc k) = 0 ↔ k = 0)) := by decide +kernel
  exact key k (by omega) h1
theorem in_v {lo hi v : Nat} (hlo : lo < 2 ^ 31) (hhi : hi < 2 ^ 31) (hv : v < 2 ^ 31) : X11_in (nI v).toInt64 (nI lo).toInt64 (nI hi).toInt64 = b2 (!(decide (v < lo ∨ hi < v))) := by
  rw [nI_l (n := lo) hlo, nI_l (n := hi) hhi, in_g hlo hhi]
  have l1 : (nI v < nI lo) ↔ v < lo := nI_ltI hv hlo
  have l2 : (nI v ≤ nI hi) ↔ v ≤ hi := nI_leI hv hhi
  congr 1
  by_cases y1 : v < lo
  · rw [decide_eq_true (l1.mpr y1), decide_eq_true (Or.inl y1)]; rfl
  · rw [decide_eq_false (fun w => y1 (l1.mp w))]
    by_cases y2 : v ≤ hi
    · rw [decide_eq_true (l2.mpr y2), decide_eq_false (by omega)]; rfl
    · rw [decide_eq_false (fun w => y2 (l2.mp w)), decide_eq_true (by omega)]; rfl
theorem looks_m {B : Tab} (hB : okB B) {lo hi : Nat} (hlo : lo < 2 ^ 31) (hhi : hi < 2 ^ 31) {s : Nat} (hs : s ≤ B.1) {br bA he sp tk va : Int32} (h : Pd B s br bA he sp tk va) : (ne B lo hi s = 0 → X11_looks (nI lo) (nI hi) br bA he tk va = (0, bA) ∧ bad B s = false ∧ tK B s = 3) ∧ (ne B lo hi s ≠ 0 → X11_looks (nI lo) (nI hi) br bA he tk va = (nI (ne B lo hi s), nI (tS B s))) := by
  have k5 : tK B s ≤ 5 := (rb_k hB (tS B s)).2.2.2.2.2
  have n1 := tK_1 hB hs
  unfold ne
  cases hbd : bad B s with
  | true =>
    obtain ⟨e1, e2⟩ := h.1 hbd
    rw [if_pos rfl, e1, e2]
    exact ⟨fun z => absurd z (by decide), fun _ => looks_b (c := 1) (by omega) (by omega) _ _ _ _ _ _⟩
  | false =>
    obtain ⟨e1, e2, e3, e4, e5⟩ := h.2 hbd
    rw [if_neg (show ¬ false = true by decide), e1, e2, e4]
    have t3 := (tkc_3 k5 n1).1
    unfold X11_looks X11_looks_J20 X11_fails lat
    rw [if_pos rfl]
    by_cases z : tK B s = 3
    · have vb := tV_b hB hs z hbd
      rw [if_pos (t3.mpr z), if_pos rfl, if_pos z, e5 z, in_v hlo hhi vb]
      by_cases y : tV B s < lo ∨ hi < tV B s
      · rw [decide_eq_true y, show (!true) = false from rfl, ifb_f, if_pos y]
        exact ⟨fun w => absurd w (by decide), fun _ => rfl⟩
      · rw [decide_eq_false y, show (!false) = true from rfl, ifb_t, if_neg y]
        exact ⟨fun _ => ⟨rfl, rfl, z⟩, fun w => absurd rfl w⟩
    · rw [if_neg (fun w => z (t3.mp w)), if_neg z]
      exact ⟨fun w => absurd w (by decide), fun _ => rfl⟩
theorem number_m {B : Tab} {tp : Nat → Int32} (hB : okB B) (hb : ∀ k, k < B.1 → tp k = nI (B.2 k)) {lo hi : Nat} (hlo : lo < 2 ^ 31) (hhi : hi < 2 ^ 31) {s : Nat} (hs : s ≤ B.1) {br bA he sp tk va : Int32} (h : Pd B s br bA he sp tk va) : (ne B lo hi s = 0 → ∃ br' bA' he' sp' tk' va', X11_number (nI lo) (nI hi) br bA he sp (nI B.1) tk va tp = some (nI (tV B s), br', bA', he', sp', tk', va') ∧ Pd B (tN B s) br' bA' he' sp' tk' va') ∧ (ne B lo hi s ≠ 0 → ∃ x0 x1 x2 x3 x4, X11_number (nI lo) (nI hi) br bA he sp (nI B.1) tk va tp = some (x0, nI (ne B lo hi s), nI (tS B s), x1, x2, x3, x4)) := by
  obtain ⟨l1, l2⟩ := looks_m hB hlo hhi hs h
  have n3 := ne_3 B lo hi s
  unfold X11_number X11_number_J21 lat
  refine ⟨fun z => ?_, fun z => ?_⟩
  · obtain ⟨e1, e2, e3⟩ := l1 z
    obtain ⟨f1, f2, f3, f4, f5⟩ := h.2 e2
    have tb := tN_b hB hs
    rw [e1]
    dsimp only
    rw [if_pos rfl, f3, f5 e3]
    obtain ⟨br', bA', he', sp', tk', va', g1, g2⟩ := step_m hB hb bA he tk (nI (tV B s)) tb.2.1
    rw [g1, bs]
    exact ⟨_, _, _, _, _, _, rfl, g2⟩
  · rw [l2 z]
    dsimp only
    rw [if_neg (nIc (by omega) (by omega)), step_b (by omega) (by omega), bs]
    exact ⟨_, _, _, _, _, rfl⟩
