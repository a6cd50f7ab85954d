/-! land: names, a length's line -/
def nb (B : Tab) (s k : Nat) : Bool := decide (tK B s = 2) && (decide (tN B s = tS B s + sLenN k) && al (fun i => decide (nI (B.2 (tS B s + i)) = sChr k i)) (sLenN k) 0)
theorem tE_in {B : Tab} {s i : Nat} (h : tK B s = 2) (hi : tS B s + i < tE B s) : kd B (tS B s + i) = 2 := by
  unfold tE at hi
  rw [h] at hi
  exact rn_in B 2 _ _ _ (by omega) hi
theorem name_L {B : Tab} {bt : Nat → Int32} (hB : okB B) (hb : ∀ k, k < B.1 → bt k = (nI (B.2 k)).toInt8.toInt32) {s k n : Nat} (hn : sLenN k = n) (n6 : n ≤ 6) (hs : s ≤ B.1) (h2 : tK B s = 2) (hl : tE B s = tS B s + n) : ∀ (m i f : Nat), i + m = n → m + 1 ≤ f → X4_isName_L28 k (nI (tS B s)) (nI B.1) bt f (nI i) = some (b2 (al (fun i => decide (nI (B.2 (tS B s + i)) = sChr k i)) m i))
  | 0, i, f + 1, hi, _ => by
    show X4_isName_B28 _ _ _ _ _ _ = _
    unfold X4_isName_B28 sLen
    rw [hn, if_pos (show Int32.ofNat n ≤ nI i from nI_le (a := n) (by omega) (by omega))]; rfl
  | m + 1, i, f + 1, hi, hf => by
    have h3 := hB.1
    have h1 := tS_b hs
    have ih := name_L hB hb hn n6 hs h2 hl m (i + 1) f (by omega) (by omega)
    have kk := tE_in h2 (i := i) (by omega)
    show X4_isName_B28 _ _ _ _ _ _ = _
    unfold X4_isName_B28 sLen J0_charAt_5068e lat
    rw [hn, if_neg (show ¬ Int32.ofNat n ≤ nI i from nI_ge (b := n) (by omega) (by omega)), nI_add, (byteAt_c hB hb (Or.inl kk)).1, bs, gd_in (by omega) (by omega), bs, nI_clamp (by omega), nI_1]
    show _ = some (b2 (decide (nI (B.2 (tS B s + i)) = sChr k i) && al (fun i => decide (nI (B.2 (tS B s + i)) = sChr k i)) m (i + 1)))
    by_cases z : nI (B.2 (tS B s + i)) = sChr k i
    · rw [if_pos z, decide_eq_true z, Bool.true_and]; exact ih
    · rw [if_neg z, decide_eq_false z]; rfl
theorem isName_c {B : Tab} {bt : Nat → Int32} (hB : okB B) (hb : ∀ k, k < B.1 → bt k = (nI (B.2 k)).toInt8.toInt32) {s k : Nat} (hk : k < 2) (hs : s ≤ B.1) : X4_isName k (nI (tK B s)) (nI (tN B s)) (nI (tS B s)) (nI B.1) bt = some (b2 (nb B s k)) := by
  have h3 := hB.1
  have h1 := tS_b hs
  have h2 := tE_b hs
  have tb := tN_b hB hs
  have k5 : tK B s ≤ 5 := (rb_k hB (tS B s)).2.2.2.2.2
  have n6 : ∀ k, k < 2 → sLenN k ≤ 6 := by decide
  have l6 := n6 k hk
  have e2 : (nI (tK B s) = 2) ↔ tK B s = 2 := nI_eq (b := 2) (by omega) (by decide)
  unfold X4_isName nb
  by_cases z : tK B s = 2
  · have en : tN B s = tE B s := by unfold tN; rw [if_neg (by omega), if_neg (by omega)]
    rw [if_pos (e2.mpr z), decide_eq_true z, Bool.true_and, nI_sub' (by omega)]
    unfold sLen
    have e3 : (nI (tN B s - tS B s) = Int32.ofNat (sLenN k)) ↔ tN B s - tS B s = sLenN k := nI_eq (b := sLenN k) (by omega) (by omega)
    by_cases y : tN B s = tS B s + sLenN k
    · rw [if_pos (e3.mpr (by omega)), decide_eq_true y, Bool.true_and]
      exact name_L hB hb rfl l6 hs z (by omega) (sLenN k) 0 1000 (by omega) (by omega)
    · rw [if_neg (fun w => y (by have := e3.mp w; omega)), decide_eq_false y]; rfl
  · rw [if_neg (fun y => z (e2.mp y)), decide_eq_false z]; rfl
def lof (k : Nat) : Nat := if k = 0 then 0 else 6
theorem ltr_c : ∀ k, k < 2 → ∀ i, i < sLenN k → ltrs.getD (lof k + i) 0 = sChr k i := by decide
theorem zero_L (he tl : Int32) (ltr tp : Nat → Int32) (x1 x2 x4 : Int32) : ∀ f, 1 ≤ f → X11_isName_L32 he tl ltr tp f x1 x2 0 x4 = some 0
  | f + 1, _ => by
    show X11_isName_B32 _ _ _ _ _ _ _ _ _ = _
    unfold X11_isName_B32
    rw [if_pos rfl]; rfl
theorem name_M {B : Tab} {tp ltr : Nat → Int32} (hB : okB B) (hb : ∀ k, k < B.1 → tp k = nI (B.2 k)) (hl : ∀ k, k < 9 → ltr k = ltrs.getD k 0) {s k n : Nat} (hk : k < 2) (hn : sLenN k = n) (n6 : lof k + n ≤ 9) (hs : s ≤ B.1) (h2 : tS B s + n ≤ B.1) : ∀ (m i f : Nat), i + m = n → m + 2 ≤ f → X11_isName_L32 (nI (tS B s)) (nI B.1) ltr tp f (nI (lof k)) (nI (lof k + n)) 1 (nI i) = some (b2 (al (fun i => decide (nI (B.2 (tS B s + i)) = sChr k i)) m i))
  | 0, i, f + 1, hi, _ => by
    show X11_isName_B32 _ _ _ _ _ _ _ _ _ = _
    unfold X11_isName_B32
    rw [if_neg (show ¬ (1 : Int32) = 0 by decide), nI_sub' (by omega), if_pos (nI_le (by omega) (by omega))]; rfl
  | m + 1, i, f + 1, hi, hf => by
    have h3 := hB.1
    have ih := name_M hB hb hl hk hn n6 hs h2 m (i + 1) f (by omega) (by omega)
    have er : rb B (tS B s + i) = nI (B.2 (tS B s + i)) := by unfold rb; rw [if_neg (by omega)]
    show X11_isName_B32 _ _ _ _ _ _ _ _ _ = _
    unfold X11_isName_B32 X11_isName_J72 lat
    rw [if_neg (show ¬ (1 : Int32) = 0 by decide), nI_sub' (show lof k ≤ lof k + n by omega), if_neg (nI_ge (by omega) (by omega)), nI_add, byteAt_m hB hb (by omega), bs, nI_add, gd_in (by omega) (by decide), nI_clamp (by omega), hl _ (by omega), ltr_c k hk i (by omega), er, nI_1]
    show _ = some (b2 (decide (nI (B.2 (tS B s + i)) = sChr k i) && al (fun i => decide (nI (B.2 (tS B s + i)) = sChr k i)) m (i + 1)))
    by_cases z : nI (B.2 (tS B s + i)) = sChr k i
    · rw [if_pos z, decide_eq_true z, Bool.true_and]; exact ih
    · rw [if_neg z, decide_eq_false z]
      exact zero_L _ _ _ _ _ _ _ f (by omega)
theorem isName_m {B : Tab} {tp ltr : Nat → Int32} (hB : okB B) (hb : ∀ k, k < B.1 → tp k = nI (B.2 k)) (hl : ∀ k, k < 9 → ltr k = ltrs.getD k 0) {s k : Nat} (hk : k < 2) (hs : s ≤ B.1) (n5 : tK B s ≠ 5) : X11_isName (nI (lof k)) (nI (lof k + sLenN k)) (nI (tS B s)) (nI (tN B s)) (nI B.1) (nI (tkc (tK B s))) ltr tp = some (b2 (nb B s k)) := by
  have h3 := hB.1
  have h1 := tS_b hs
  have tb := tN_b hB hs
  have n1 := tK_1 hB hs
  have k5 : tK B s ≤ 5 := (rb_k hB (tS B s)).2.2.2.2.2
  have n6 : ∀ k, k < 2 → lof k + sLenN k ≤ 9 := by decide
  have l6 := n6 k hk
  have e2 := (tkc_3 k5 n1).2.2.1
  have ts : tS B s ≤ tN B s := by
    have h2 := tE_b hs
    unfold tN
    split
    · omega
    · split <;> omega
  unfold X11_isName X11_isName_J27 X11_isName_J28 nb
  by_cases z : tK B s = 2
  · rw [if_pos (e2.mpr z), decide_eq_true z, Bool.true_and, nI_sub' ts, nI_sub' (show lof k ≤ lof k + sLenN k by omega)]
    have e3 : (nI (tN B s - tS B s) = nI (lof k + sLenN k - lof k)) ↔ tN B s - tS B s = lof k + sLenN k - lof k := nI_eq (by omega) (by omega)
    by_cases y : tN B s = tS B s + sLenN k
    · rw [if_pos (e3.mpr (by omega)), decide_eq_true y, Bool.true_and]
      exact name_M hB hb hl hk rfl l6 hs (by omega) (sLenN k) 0 1000 (by omega) (by omega)
    · rw [if_neg (fun w => y (by have := e3.mp w; omega)), decide_eq_false y, zero_L _ _ _ _ _ _ _ 1000 (by omega)]; rfl
  · rw [if_neg (fun y => z (e2.mp y)), decide_eq_false z, zero_L _ _ _ _ _ _ _ 1000 (by omega)]; rfl
-- a length's line behind its name
def fe (B : Tab) (e : Nat → Nat) (s : Nat) : Nat × Nat := if ne B 0 6 s ≠ 0 then (ne B 0 6 s, tS B s) else if ne B 0 6 (tN B s) ≠ 0 then (ne B 0 6 (tN B s), tS B (tN B s)) else if tV B s = tV B (tN B s) then (3, tS B (tN B s)) else if e (pr (tV B s) (tV B (tN B s))) ≠ 0 then (4, tS B (tN B s)) else (ne B 1 9999 (tN B (tN B s)), tS B (tN B (tN B s)))
theorem ne_ok {B : Tab} {lo hi s : Nat} (h : ne B lo hi s = 0) : bad B s = false ∧ tK B s = 3 ∧ lo ≤ tV B s ∧ tV B s ≤ hi := by
  unfold ne at h
  cases hb : bad B s with
  | true => rw [hb, if_pos rfl] at h; omega
  | false =>
    rw [hb, if_neg (by decide)] at h
    by_cases z : tK B s = 3
    · rw [if_pos z] at h
      by_cases y : tV B s < lo ∨ hi < tV B s
      · rw [if_pos y] at h; omega
      · exact ⟨rfl, z, by omega, by omega⟩
    · rw [if_neg z] at h; omega
theorem fr_c {B : Tab} {bt : Nat → Int32} (hB : okB B) (hb : ∀ k, k < B.1 → bt k = (nI (B.2 k)).toInt8.toInt32) {D : Tab} {dp : Int32} {dq : Nat → Int32} (hD : cT D dp dq) (d9 : ∀ k, D.2 k ≤ 9999) {h : Nat} (h6 : h ≤ 6) (fl fa k st v0 : Int32) {s : Nat} (hs : s ≤ B.1) : ((fe B D.2 s).1 ≠ 0 → ∃ x1 x2 x3 x4 x5 x6, X4_readFar fl fa (nI h) k (nI s) st v0 dq (nI B.1) bt = some (0, nI (fe B D.2 s).1, nI (fe B D.2 s).2, x1, x2, x3, x4, x5, x6)) ∧ ((fe B D.2 s).1 = 0 → ∃ x2 x4 x5 dq', X4_readFar fl fa (nI h) k (nI s) st v0 dq (nI B.1) bt = some (1, fl, fa, nI (max h (max (tV B s) (tV B (tN B s)))), x2, nI (tN B (tN B (tN B s))), x4, x5, dq') ∧ cT (D.1, up D.2 (pr (tV B s) (tV B (tN B s))) (tV B (tN B (tN B s)))) dp dq') := by
  have t1 := tN_b hB hs
  have t2 := tN_b hB t1.2.1
  have t3 := tN_b hB t2.2.1
  obtain ⟨a1, a2⟩ := readNumber_c hB hb (lo := 0) (hi := 6) (by decide) (by decide) fl fa k st v0 hs
  unfold X4_readFar X4_refuse lat fe
  by_cases z1 : ne B 0 6 s = 0
  · rw [if_neg (fun y => y z1)]
    have a1' : X4_readNumber 0 6 fl fa k (nI s) st v0 (nI B.1) bt = _ := a1 z1
    obtain ⟨-, -, -, va6⟩ := ne_ok z1
    rw [a1', bs]
    dsimp only
    rw [if_neg (show ¬ (1 : Int32) = 0 by decide)]
    obtain ⟨b1, b2'⟩ := readNumber_c hB hb (lo := 0) (hi := 6) (by decide) (by decide) fl fa 3 (nI (tS B s)) (nI (tV B s)) t1.2.1
    by_cases z2 : ne B 0 6 (tN B s) = 0
    · rw [if_neg (fun y => y z2)]
      have b1' : X4_readNumber 0 6 fl fa 3 (nI (tN B s)) (nI (tS B s)) (nI (tV B s)) (nI B.1) bt = _ := b1 z2
      obtain ⟨-, -, -, vb6⟩ := ne_ok z2
      rw [b1', bs]
      dsimp only
      rw [if_neg (show ¬ (1 : Int32) = 0 by decide)]
      have e1 : (nI (tV B s) = nI (tV B (tN B s))) ↔ tV B s = tV B (tN B s) := nI_eq (by omega) (by omega)
      by_cases z3 : tV B s = tV B (tN B s)
      · rw [if_pos (e1.mpr z3), if_pos z3]
        exact ⟨fun _ => ⟨_, _, _, _, _, _, rfl⟩, fun y => absurd y (show ¬ (3 : Nat) = 0 by decide)⟩
      · rw [if_neg (fun y => z3 (e1.mp y)), if_neg z3, square_c hD (show tV B s < 7 by omega) (show tV B (tN B s) < 7 by omega), bs]
        have ev : tv D.2 (tV B s) (tV B (tN B s)) = D.2 (pr (tV B s) (tV B (tN B s))) := by unfold tv; rw [if_neg z3]
        have d1 := d9 (pr (tV B s) (tV B (tN B s)))
        rw [ev]
        have e2 : (nI (D.2 (pr (tV B s) (tV B (tN B s)))) = 0) ↔ D.2 (pr (tV B s) (tV B (tN B s))) = 0 := nI_eq (b := 0) (by omega) (by decide)
        by_cases z4 : D.2 (pr (tV B s) (tV B (tN B s))) = 0
        · rw [if_pos (e2.mpr z4), if_neg (fun y => y z4)]
          obtain ⟨c1, c2⟩ := readNumber_c hB hb (lo := 1) (hi := 9999) (by decide) (by decide) fl fa 3 (nI (tS B (tN B s))) (nI (tV B (tN B s))) t2.2.1
          by_cases z5 : ne B 1 9999 (tN B (tN B s)) = 0
          · have c1' : X4_readNumber 1 9999 fl fa 3 (nI (tN B (tN B s))) (nI (tS B (tN B s))) (nI (tV B (tN B s))) (nI B.1) bt = _ := c1 z5
            rw [c1', bs]
            dsimp only
            rw [if_neg (show ¬ (1 : Int32) = 0 by decide)]
            obtain ⟨dq', p1, p2⟩ := put_c hD (show tV B s < 7 by omega) (show tV B (tN B s) < 7 by omega) z3 (tV B (tN B (tN B s)))
            rw [p1, bs]
            have emx : (if nI h < (if nI (tV B s) < nI (tV B (tN B s)) then nI (tV B (tN B s)) else nI (tV B s)) then (if nI (tV B s) < nI (tV B (tN B s)) then nI (tV B (tN B s)) else nI (tV B s)) else nI h) = nI (max h (max (tV B s) (tV B (tN B s)))) := by
              have m0 : ∀ a, a < 7 → ∀ b, b < 7 → ∀ h, h < 7 → (if nI h < (if nI a < nI b then nI b else nI a) then (if nI a < nI b then nI b else nI a) else nI h) = nI (max h (max a b)) := by decide +kernel
              exact m0 _ (by omega) _ (by omega) _ (by omega)
            rw [emx]
            exact ⟨fun y => absurd z5 y, fun _ => ⟨_, _, _, dq', rfl, p2⟩⟩
          · obtain ⟨x1, x2, x3, x4, c2'⟩ := c2 z5
            have c2'' : X4_readNumber 1 9999 fl fa 3 (nI (tN B (tN B s))) (nI (tS B (tN B s))) (nI (tV B (tN B s))) (nI B.1) bt = _ := c2'
            rw [c2'', bs]
            dsimp only
            rw [if_pos rfl]
            exact ⟨fun _ => ⟨_, _, _, _, _, _, rfl⟩, fun y => absurd y z5⟩
        · rw [if_neg (fun y => z4 (e2.mp y)), if_pos z4]
          exact ⟨fun _ => ⟨_, _, _, _, _, _, rfl⟩, fun y => absurd y (show ¬ (4 : Nat) = 0 by decide)⟩
    · rw [if_pos z2]
      obtain ⟨x1, x2, x3, x4, b3⟩ := b2' z2
      have b3' : X4_readNumber 0 6 fl fa 3 (nI (tN B s)) (nI (tS B s)) (nI (tV B s)) (nI B.1) bt = _ := b3
      rw [b3', bs]
      dsimp only
      rw [if_pos rfl]
      exact ⟨fun _ => ⟨_, _, _, _, _, _, rfl⟩, fun y => absurd y z2⟩
  · rw [if_pos z1]
    obtain ⟨x1, x2, x3, x4, b3⟩ := a2 z1
    have b3' : X4_readNumber 0 6 fl fa k (nI s) st v0 (nI B.1) bt = _ := b3
    rw [b3', bs]
    dsimp only
    rw [if_pos rfl]
    exact ⟨fun _ => ⟨_, _, _, _, _, _, rfl⟩, fun y => absurd y z1⟩
-- the reference
abbrev FrR : Type := Option (Int32 × Int32 × Int32 × Int32 × Int32 × Int32 × Int32 × (Nat → Int32))
theorem far82_b {c : Nat} (h1 : 1 ≤ c) (h5 : c ≤ 5) (tl : Int32) (tp : Nat → Int32) (x1 x2 bA he hi sp tk va : Int32) (pg : Nat → Int32) : X11_readFar_J82 tl tp x1 x2 (nI c) bA he hi sp tk va pg = some (nI c, bA, he, hi, sp, tk, va, pg) := by
  unfold X11_readFar_J82
  rw [step_b h1 h5, bs]
  dsimp only
  rw [number_b h1 h5, bs]
  dsimp only
  rw [if_neg (nIc h1 h5)]
theorem far39_b {c : Nat} (h1 : 1 ≤ c) (h5 : c ≤ 5) (tl : Int32) (tp : Nat → Int32) (x1 bA he hi sp tk va : Int32) (pg : Nat → Int32) : X11_readFar_J39 tl tp x1 (nI c) bA he hi sp tk va pg = some (nI c, bA, he, hi, sp, tk, va, pg) := by
  unfold X11_readFar_J39 X11_readFar_J56
  rw [if_neg (nIc h1 h5), if_neg (nIc h1 h5), far82_b h1 h5]
theorem fr_m {B : Tab} {tp : Nat → Int32} (hB : okB B) (hb : ∀ k, k < B.1 → tp k = nI (B.2 k)) {D : Tab} {pg : Nat → Int32} (hD : mst D pg) (d9 : ∀ k, D.2 k ≤ 9999) {h : Nat} (h6 : h ≤ 6) (bA he tk va : Int32) {s : Nat} (hs : s ≤ B.1) : ((fe B D.2 s).1 ≠ 0 → ∃ x1 x2 x3 x4 x5 x6, X11_readFar 0 bA he (nI h) (nI s) (nI B.1) tk va pg tp = some (nI (fe B D.2 s).1, nI (fe B D.2 s).2, x1, x2, x3, x4, x5, x6)) ∧ ((fe B D.2 s).1 = 0 → ∃ br' bA' he' hi' sp' tk' va' pg', X11_readFar 0 bA he (nI h) (nI s) (nI B.1) tk va pg tp = some (br', bA', he', hi', sp', tk', va', pg') ∧ Pd B (tN B (tN B (tN B s))) br' bA' he' sp' tk' va' ∧ (bad B (tN B (tN B (tN B s))) = false → hi' = nI (max h (max (tV B s) (tV B (tN B s)))) ∧ mst (D.1, up D.2 (pr (tV B s) (tV B (tN B s))) (tV B (tN B (tN B s)))) pg')) := by
  have t1 := tN_b hB hs
  have t2 := tN_b hB t1.2.1
  have t3 := tN_b hB t2.2.1
  obtain ⟨br0, bA0, he0, sp0, tk0, va0, s1, s2⟩ := step_m hB hb bA he tk va hs
  obtain ⟨n1, n2⟩ := number_m hB hb (lo := 0) (hi := 6) (by decide) (by decide) hs s2
  unfold X11_readFar lat
  rw [s1, bs]
  dsimp only
  have en1 := ne_3 B 0 6 s
  have en2 := ne_3 B 0 6 (tN B s)
  have en3 := ne_3 B 1 9999 (tN B (tN B s))
  unfold fe
  by_cases z1 : ne B 0 6 s = 0
  · rw [if_neg (fun y => y z1)]
    obtain ⟨br1, bA1, he1, sp1, tk1, va1, g1, g2⟩ := n1 z1
    obtain ⟨-, -, -, va6⟩ := ne_ok z1
    have g1' : X11_number 0 6 br0 bA0 he0 sp0 (nI B.1) tk0 va0 tp = _ := g1
    rw [g1', bs]
    dsimp only
    obtain ⟨l1, l2⟩ := looks_m hB (lo := 0) (hi := 6) (by decide) (by decide) t1.2.1 g2
    by_cases z2 : ne B 0 6 (tN B s) = 0
    · rw [if_neg (fun y => y z2)]
      obtain ⟨e1, e2, e3⟩ := l1 z2
      obtain ⟨f1, f2, f3, f4, f5⟩ := g2.2 e2
      obtain ⟨-, -, -, vb6⟩ := ne_ok z2
      have e1' : X11_looks 0 6 br1 bA1 he1 tk1 va1 = (0, bA1) := e1
      rw [e1']
      dsimp only
      rw [if_pos rfl, f5 e3, f2, f3]
      have eq1 : (nI (tV B (tN B s)) = nI (tV B s)) ↔ tV B (tN B s) = tV B s := nI_eq (by omega) (by omega)
      by_cases z3 : tV B s = tV B (tN B s)
      · rw [if_pos (eq1.mpr z3.symm), if_pos z3]
        refine ⟨fun _ => ?_, fun y => absurd y (show ¬ (3 : Nat) = 0 by decide)⟩
        have : X11_fails 3 0 bA1 (nI (tS B (tN B s))) = (nI 3, nI (tS B (tN B s))) := rfl
        rw [this]
        dsimp only
        rw [far39_b (c := 3) (by omega) (by omega)]
        exact ⟨_, _, _, _, _, _, rfl⟩
      · rw [if_neg (fun y => z3 (eq1.mp y).symm), if_neg z3]
        unfold X11_readFar_J39 X11_readFar_J56 lat
        have pl' := pr_lt (tV B s) (by omega) (tV B (tN B s)) (by omega) z3
        rw [if_pos rfl, if_pos rfl, pairOf_m (tV B s) (by omega) (tV B (tN B s)) (by omega), if_neg z3, gd_in (by omega) (by decide), nI_clamp (by omega), hD.2 _ pl']
        have d1 := d9 (pr (tV B s) (tV B (tN B s)))
        have e0 : (nI (D.2 (pr (tV B s) (tV B (tN B s)))) ≤ 0) ↔ D.2 (pr (tV B s) (tV B (tN B s))) = 0 := by
          rw [show (0 : Int32) = nI 0 from rfl, nI_leI (by omega) (by decide)]; omega
        by_cases z4 : D.2 (pr (tV B s) (tV B (tN B s))) = 0
        · rw [if_pos (e0.mpr z4), if_neg (fun y => y z4)]
          unfold X11_readFar_J82 lat
          obtain ⟨br2, bA2, he2, sp2, tk2, va2, s3, s4⟩ := step_m hB hb bA1 (nI (tS B (tN B s))) tk1 (nI (tV B (tN B s))) t2.2.1
          rw [s3, bs]
          dsimp only
          obtain ⟨m1, m2⟩ := number_m hB hb (lo := 1) (hi := 9999) (by decide) (by decide) t2.2.1 s4
          by_cases z5 : ne B 1 9999 (tN B (tN B s)) = 0
          · obtain ⟨br3, bA3, he3, sp3, tk3, va3, i1, i2⟩ := m1 z5
            have i1' : X11_number 1 9999 br2 bA2 he2 sp2 (nI B.1) tk2 va2 tp = _ := i1
            rw [i1', bs]
            dsimp only
            refine ⟨fun y => absurd z5 y, fun _ => ?_⟩
            cases hbd : bad B (tN B (tN B (tN B s))) with
            | true =>
              obtain ⟨q1, q2⟩ := i2.1 hbd
              rw [q1, if_neg (show ¬ (1 : Int32) = 0 by decide)]
              rw [q1] at i2
              exact ⟨_, _, _, _, _, _, _, _, rfl, i2, fun w => absurd w (by decide)⟩
            | false =>
              obtain ⟨q1, -⟩ := i2.2 hbd
              rw [q1, if_pos rfl, pairOf_m (tV B s) (by omega) (tV B (tN B s)) (by omega), if_neg z3, gd_in (by omega) (by decide), nI_clamp (by omega)]
              rw [q1] at i2
              have hm2 : mst (D.1, up D.2 (pr (tV B s) (tV B (tN B s))) (tV B (tN B (tN B s)))) (upd pg (pr (tV B s) (tV B (tN B s))) (nI (tV B (tN B (tN B s))))) := by
                refine ⟨?_, fun j hj => ?_⟩
                · rw [upd_n _ _ (by omega)]; exact hD.1
                · show (if j = _ then _ else pg j) = nI (if j = _ then _ else D.2 j)
                  split
                  · rfl
                  · exact hD.2 j hj
              unfold X11_readFar_J130
              have m0 : ∀ a, a < 7 → ∀ b, b < 7 → ∀ h, h < 7 → (if nI a ≤ nI h then (if nI b ≤ nI h then nI h else nI b) else (if nI b ≤ nI a then nI a else nI b)) = nI (max h (max a b)) := by decide +kernel
              have m1' := m0 (tV B s) (by omega) (tV B (tN B s)) (by omega) h (by omega)
              by_cases w1 : nI (tV B s) ≤ nI h
              · rw [if_pos w1] at m1' ⊢
                by_cases w2 : nI (tV B (tN B s)) ≤ nI h
                · rw [if_pos w2] at m1' ⊢
                  exact ⟨_, _, _, _, _, _, _, _, rfl, i2, fun _ => ⟨m1', hm2⟩⟩
                · rw [if_neg w2] at m1' ⊢
                  exact ⟨_, _, _, _, _, _, _, _, rfl, i2, fun _ => ⟨m1', hm2⟩⟩
              · rw [if_neg w1] at m1' ⊢
                by_cases w2 : nI (tV B (tN B s)) ≤ nI (tV B s)
                · rw [if_pos w2] at m1' ⊢
                  exact ⟨_, _, _, _, _, _, _, _, rfl, i2, fun _ => ⟨m1', hm2⟩⟩
                · rw [if_neg w2] at m1' ⊢
                  exact ⟨_, _, _, _, _, _, _, _, rfl, i2, fun _ => ⟨m1', hm2⟩⟩
          · obtain ⟨x0, x1, x2, x3, x4, i1⟩ := m2 z5
            have i1' : X11_number 1 9999 br2 bA2 he2 sp2 (nI B.1) tk2 va2 tp = _ := i1
            rw [i1', bs]
            dsimp only
            rw [if_neg (nIc (by omega) (by omega))]
            exact ⟨fun _ => ⟨_, _, _, _, _, _, rfl⟩, fun y => absurd y z5⟩
        · rw [if_neg (fun y => z4 (e0.mp y)), if_pos z4]
          refine ⟨fun _ => ?_, fun y => absurd y (show ¬ (4 : Nat) = 0 by decide)⟩
          have : X11_fails 4 0 bA1 (nI (tS B (tN B s))) = (nI 4, nI (tS B (tN B s))) := rfl
          rw [this]
          dsimp only
          rw [far82_b (c := 4) (by omega) (by omega)]
          exact ⟨_, _, _, _, _, _, rfl⟩
    · rw [if_pos z2]
      have e1' : X11_looks 0 6 br1 bA1 he1 tk1 va1 = _ := l2 z2
      rw [e1']
      dsimp only
      rw [if_neg (nIc (by omega) (by omega)), far39_b (by omega) (by omega)]
      exact ⟨fun _ => ⟨_, _, _, _, _, _, rfl⟩, fun y => absurd y z2⟩
  · rw [if_pos z1]
    obtain ⟨x0, x1, x2, x3, x4, g1⟩ := n2 z1
    have g1' : X11_number 0 6 br0 bA0 he0 sp0 (nI B.1) tk0 va0 tp = _ := g1
    rw [g1', bs]
    dsimp only
    rw [looks_b (by omega) (by omega)]
    dsimp only
    rw [if_neg (nIc (by omega) (by omega)), far39_b (by omega) (by omega)]
    exact ⟨fun _ => ⟨_, _, _, _, _, _, rfl⟩, fun y => absurd y z1⟩
