/-! land: a line, all lines -/
abbrev LiR : Type := Option (Int32 × Int32 × Int32 × Int32 × Int32 × Int32 × Int32 × Int32 × (Nat → Int32))
theorem j91_b {c : Nat} (h1 : 1 ≤ c) (h5 : c ≤ 5) (tl : Int32) (tp : Nat → Int32) (bA hp he hi sp tk va : Int32) (pg : Nat → Int32) : X11_readLine_J91 tl tp (nI c) bA hp he hi sp tk va pg = some (nI c, bA, hp, he, hi, sp, tk, va, pg) := by
  unfold X11_readLine_J91
  rw [step_b h1 h5, bs]
theorem j71_b {c : Nat} (h1 : 1 ≤ c) (h5 : c ≤ 5) (tl : Int32) (tp : Nat → Int32) (bA hp he hi sp tk va : Int32) (pg : Nat → Int32) : X11_readLine_J71 tl tp (nI c) bA hp he hi sp tk va pg = some (nI c, bA, hp, he, hi, sp, tk, va, pg) := by
  unfold X11_readLine_J71
  rw [if_neg (nIc h1 h5), j91_b h1 h5]
theorem se_2 (B : Tab) (s : Nat) : se B s ≤ 2 := by
  unfold se; split
  · omega
  · split <;> omega
theorem j71_m {B : Tab} {tp : Nat → Int32} (hB : okB B) (hb : ∀ k, k < B.1 → tp k = nI (B.2 k)) {s : Nat} (hs : s ≤ B.1) {br bA he sp tk va : Int32} (h : Pd B s br bA he sp tk va) (hp hi : Int32) (pg : Nat → Int32) : (se B s ≠ 0 → ∃ x1 x2 x3 x4, X11_readLine_J71 (nI B.1) tp br bA hp he hi sp tk va pg = some (nI (se B s), nI (tS B s), hp, x1, hi, x2, x3, x4, pg)) ∧ (se B s = 0 → ∃ br' bA' he' sp' tk' va', X11_readLine_J71 (nI B.1) tp br bA hp he hi sp tk va pg = some (br', bA', hp, he', hi, sp', tk', va', pg) ∧ Pd B (tN B s) br' bA' he' sp' tk' va') := by
  have k5 : tK B s ≤ 5 := (rb_k hB (tS B s)).2.2.2.2.2
  have n1 := tK_1 hB hs
  have tb := tN_b hB hs
  unfold se
  cases hbd : bad B s with
  | true =>
    obtain ⟨e1, e2⟩ := h.1 hbd
    rw [if_pos rfl, e1, e2]
    refine ⟨fun _ => ⟨_, _, _, _, j71_b (c := 1) (by omega) (by omega) _ _ _ _ _ _ _ _ _ _⟩, fun z => absurd z (by decide)⟩
  | false =>
    obtain ⟨e1, e2, e3, e4, e5⟩ := h.2 hbd
    rw [if_neg (show ¬ false = true by decide), e1, e2, e3, e4]
    unfold X11_readLine_J71 lat
    have t4 := (tkc_3 k5 n1).2.1
    rw [if_pos rfl]
    by_cases z : tK B s = 4
    · rw [if_pos (t4.mpr z), if_pos z]
      obtain ⟨br', bA', he', sp', tk', va', g1, g2⟩ := step_m hB hb bA (nI (tS B s)) (nI (tkc (tK B s))) va tb.2.1
      unfold X11_readLine_J91
      rw [g1, bs]
      exact ⟨fun y => absurd rfl y, fun _ => ⟨_, _, _, _, _, _, rfl, g2⟩⟩
    · rw [if_neg (fun y => z (t4.mp y)), if_neg z]
      have : X11_fails 2 0 bA (nI (tS B s)) = (nI 2, nI (tS B s)) := rfl
      rw [this]
      dsimp only
      rw [j91_b (c := 2) (by omega) (by omega)]
      exact ⟨fun _ => ⟨_, _, _, _, rfl⟩, fun y => absurd y (by decide)⟩
def dI (D : Tab) (h : Nat) : Prop := 2 ≤ D.1 ∧ D.1 ≤ 7 ∧ (∀ k, D.2 k ≤ 9999) ∧ h ≤ 6 ∧ ∀ k, D.2 k ≠ 0 → k < (h + 1) * h / 2
theorem prh : ∀ a, a < 7 → ∀ b, b < 7 → a = b ∨ pr a b < (max a b + 1) * (max a b) / 2 := by decide +kernel
theorem trih : ∀ h, h < 7 → ∀ k, k < 8 → h < k ∨ (k + 1) * k / 2 ≤ (h + 1) * h / 2 := by decide +kernel
theorem dI_far {D : Tab} {h a b v : Nat} (hD : dI D h) (ha : a < 7) (hb : b < 7) (hab : a ≠ b) (hv : v ≤ 9999) : dI (D.1, up D.2 (pr a b) v) (max h (max a b)) := by
  obtain ⟨h1, h2, h3, h4, h5⟩ := hD
  refine ⟨h1, h2, fun k => ?_, by omega, fun k hk => ?_⟩
  · show (if k = pr a b then v else D.2 k) ≤ 9999
    split
    · exact hv
    · exact h3 k
  · by_cases z : k = pr a b
    · rcases prh a ha b hb with y | y
      · exact absurd y hab
      · rcases trih (max h (max a b)) (by omega) (max a b) (by omega) with w | w
        · omega
        · omega
    · have hk' : (if k = pr a b then v else D.2 k) ≠ 0 := hk
      rw [if_neg z] at hk'
      have := h5 k hk'
      rcases trih (max h (max a b)) (by omega) h (by omega) with w | w
      · omega
      · omega
/-- one line, by both -/
theorem line_j {B : Tab} {bt tp ltr : Nat → Int32} (hB : okB B) (hb : ∀ k, k < B.1 → bt k = (nI (B.2 k)).toInt8.toInt32) (hb2 : ∀ k, k < B.1 → tp k = nI (B.2 k)) (hl : ∀ k, k < 9 → ltr k = ltrs.getD k 0) {D : Tab} {dp : Int32} {dq pg : Nat → Int32} {h : Nat} (hp : Bool) (hD : dI D h) (hc : cT D dp dq) (hm : mst D pg) (fa v bA va : Int32) {s : Nat} (hs : s ≤ B.1) (hbd : bad B s = false) (k0 : tK B s ≠ 0) :
    (∃ c p x1 x2 x3 x4 x5 x6 x7 x8 y1 y2 y3 y4 y5 y6 y7, 1 ≤ c ∧ c ≤ 5 ∧ X4_readLine 0 fa (nI h) (nI (tK B s)) (nI (tN B s)) (b2 hp) (nI (tS B s)) v dp dq (nI B.1) bt = some (0, nI c, nI p, x1, x2, x3, x4, x5, x6, x7, x8) ∧ X11_readLine 0 bA (b2 hp) (nI (tS B s)) (nI h) (nI (tN B s)) (nI B.1) (nI (tkc (tK B s))) va ltr pg tp = some (nI c, nI p, y1, y2, y3, y4, y5, y6, y7))
    ∨ (∃ s' h' hp' D' x2 x5 x6 dp' dq' br' bA' hpI he' hiI sp' tk' va' pg', s < s' ∧ s' ≤ B.1 ∧ dI D' h' ∧ X4_readLine 0 fa (nI h) (nI (tK B s)) (nI (tN B s)) (b2 hp) (nI (tS B s)) v dp dq (nI B.1) bt = some (1, 0, fa, nI h', x2, nI s', b2 hp', x5, x6, dp', dq') ∧ cT D' dp' dq' ∧ X11_readLine 0 bA (b2 hp) (nI (tS B s)) (nI h) (nI (tN B s)) (nI B.1) (nI (tkc (tK B s))) va ltr pg tp = some (br', bA', hpI, he', hiI, sp', tk', va', pg') ∧ Pd B s' br' bA' he' sp' tk' va' ∧ (bad B s' = false → hpI = b2 hp' ∧ hiI = nI h' ∧ mst D' pg')) := by
  have n5 : tK B s ≠ 5 := fun z => by unfold bad at hbd; rw [decide_eq_true z] at hbd; exact absurd hbd (by simp)
  have t1 := tN_b hB hs
  have t2 := tN_b hB t1.2.1
  have t3 := tN_b hB t2.2.1
  have t4 := tN_b hB t3.2.1
  have t5 := tN_b hB t4.2.1
  have lt1 := t1.2.2 k0 n5
  have nm0 : X11_isName 0 6 (nI (tS B s)) (nI (tN B s)) (nI B.1) (nI (tkc (tK B s))) ltr tp = some (b2 (nb B s 0)) := isName_m hB hb2 hl (k := 0) (by decide) hs n5
  have nm1 : X11_isName 6 9 (nI (tS B s)) (nI (tN B s)) (nI B.1) (nI (tkc (tK B s))) ltr tp = some (b2 (nb B s 1)) := isName_m hB hb2 hl (k := 1) (by decide) hs n5
  unfold X4_readLine X11_readLine X4_refuse lat
  rw [isName_c hB hb (k := 0) (by decide) hs, isName_c hB hb (k := 1) (by decide) hs, nm0, nm1]
  simp only [bs]
  cases q0 : nb B s 0 with
  | true =>
    rw [ifb_t, ifb_t]
    unfold X4_readPlaces X4_refuse lat
    cases hp with
    | true =>
      rw [if_neg (show ¬ b2 true = 0 by decide), if_neg (show ¬ b2 true = 0 by decide)]
      left
      have e1 : X11_fails 4 0 bA (nI (tS B s)) = (nI 4, nI (tS B s)) := rfl
      rw [e1]
      dsimp only
      unfold X11_readLine_J22 lat
      rw [step_b (c := 4) (by omega) (by omega), bs]
      dsimp only
      rw [number_b (c := 4) (by omega) (by omega), bs]
      dsimp only
      rw [j71_b (c := 4) (by omega) (by omega)]
      exact ⟨4, tS B s, _, _, _, _, _, _, _, _, _, _, _, _, _, _, _, by omega, by omega, rfl, rfl⟩
    | false =>
      rw [if_pos (show b2 false = 0 from rfl), if_pos (show b2 false = 0 from rfl)]
      obtain ⟨a1, a2⟩ := readNumber_c hB hb (lo := 2) (hi := 7) (by decide) (by decide) 0 fa (nI (tK B s)) (nI (tS B s)) v t1.2.1
      obtain ⟨br0, bA0, he0, sp0, tk0, va0, s1, s2⟩ := step_m hB hb2 bA (nI (tS B s)) (nI (tkc (tK B s))) va t1.2.1
      obtain ⟨n1, n2⟩ := number_m hB hb2 (lo := 2) (hi := 7) (by decide) (by decide) t1.2.1 s2
      unfold X11_readLine_J22 lat
      rw [s1, bs]
      dsimp only
      have en := ne_3 B 2 7 (tN B s)
      by_cases z1 : ne B 2 7 (tN B s) = 0
      · have a1' : X4_readNumber 2 7 0 fa (nI (tK B s)) (nI (tN B s)) (nI (tS B s)) v (nI B.1) bt = _ := a1 z1
        obtain ⟨-, k3, v2, v7⟩ := ne_ok z1
        obtain ⟨br1, bA1, he1, sp1, tk1, va1, g1, g2⟩ := n1 z1
        have g1' : X11_number 2 7 br0 bA0 he0 sp0 (nI B.1) tk0 va0 tp = _ := g1
        have lt2 := t2.2.2 (by omega) (by omega)
        rw [a1', g1']
        simp only [bs]
        rw [if_neg (show ¬ (1 : Int32) = 0 by decide)]
        simp only [bs]
        rw [if_neg (show ¬ (1 : Int32) = 0 by decide)]
        obtain ⟨b1, b2'⟩ := readSign_c hB hb 0 fa 3 (nI (tS B (tN B s))) (nI (tV B (tN B s))) t2.2.1
        obtain ⟨j1, j2⟩ := j71_m hB hb2 t2.2.1 g2 1 (nI h) (upd pg 21 (nI (tV B (tN B s))))
        have es := se_2 B (tN B (tN B s))
        by_cases z2 : se B (tN B (tN B s)) = 0
        · right
          obtain ⟨x1, x3, x4, b3⟩ := b1 z2
          obtain ⟨br', bA', he', sp', tk', va', j3, j4⟩ := j2 z2
          rw [b3, j3]
          simp only [bs]
          rw [if_neg (show ¬ (1 : Int32) = 0 by decide)]
          have hD2 : dI (tV B (tN B s), D.2) h := ⟨v2, v7, hD.2.2.1, hD.2.2.2.1, hD.2.2.2.2⟩
          have hm2 : mst (tV B (tN B s), D.2) (upd pg 21 (nI (tV B (tN B s)))) := ⟨upd_e .., fun j hj => by rw [upd_n _ _ (by omega)]; exact hm.2 j hj⟩
          have hc2 : cT (tV B (tN B s), D.2) (nI (tV B (tN B s))) dq := ⟨rfl, hc.2⟩
          exact ⟨tN B (tN B (tN B s)), h, true, (tV B (tN B s), D.2), _, _, _, _, _, _, _, _, _, _, _, _, _, _, by omega, t3.2.1, hD2, rfl, hc2, rfl, j4, fun _ => ⟨rfl, rfl, hm2⟩⟩
        · left
          obtain ⟨x1, x2, x3, x4, b3⟩ := b2' z2
          obtain ⟨y1, y2, y3, y4, j3⟩ := j1 z2
          rw [b3, j3]
          simp only [bs, if_true]
          exact ⟨se B (tN B (tN B s)), tS B (tN B (tN B s)), _, _, _, _, _, _, _, _, _, _, _, _, _, _, _, by omega, by omega, rfl, rfl⟩
      · left
        obtain ⟨x1, x2, x3, x4, a3⟩ := a2 z1
        have a3' : X4_readNumber 2 7 0 fa (nI (tK B s)) (nI (tN B s)) (nI (tS B s)) v (nI B.1) bt = _ := a3
        obtain ⟨y0, y1, y2, y3, y4, g1⟩ := n2 z1
        have g1' : X11_number 2 7 br0 bA0 he0 sp0 (nI B.1) tk0 va0 tp = _ := g1
        rw [a3', g1']
        simp only [bs, if_true]
        rw [j71_b (by omega) (by omega)]
        exact ⟨ne B 2 7 (tN B s), tS B (tN B s), _, _, _, _, _, _, _, _, _, _, _, _, _, _, _, by omega, by omega, rfl, rfl⟩
  | false =>
    rw [ifb_f, ifb_f]
    cases q1 : nb B s 1 with
    | false =>
      rw [ifb_f, ifb_f]
      left
      have e1 : X11_fails 2 0 bA (nI (tS B s)) = (nI 2, nI (tS B s)) := rfl
      rw [e1]
      dsimp only
      rw [j71_b (c := 2) (by omega) (by omega)]
      exact ⟨2, tS B s, _, _, _, _, _, _, _, _, _, _, _, _, _, _, _, by omega, by omega, rfl, rfl⟩
    | true =>
      rw [ifb_t, ifb_t]
      obtain ⟨f1, f2⟩ := fr_c hB hb hc hD.2.2.1 hD.2.2.2.1 0 fa (nI (tK B s)) (nI (tS B s)) v t1.2.1
      obtain ⟨m1, m2⟩ := fr_m hB hb2 hm hD.2.2.1 hD.2.2.2.1 bA (nI (tS B s)) (nI (tkc (tK B s))) va t1.2.1
      have fb : (fe B D.2 (tN B s)).1 ≤ 5 := by
        have e1 := ne_3 B 0 6 (tN B s)
        have e2 := ne_3 B 0 6 (tN B (tN B s))
        have e3 := ne_3 B 1 9999 (tN B (tN B (tN B s)))
        unfold fe
        split
        · dsimp only; omega
        · split
          · dsimp only; omega
          · split
            · dsimp only; omega
            · split
              · dsimp only; omega
              · dsimp only; omega
      by_cases z1 : (fe B D.2 (tN B s)).1 = 0
      · obtain ⟨x2, x4, x5, dq', c1, c2⟩ := f2 z1
        obtain ⟨br1, bA1, he1, hi1, sp1, tk1, va1, pg1, d1, d2, d3⟩ := m2 z1
        have nes : ne B 0 6 (tN B s) = 0 ∧ ne B 0 6 (tN B (tN B s)) = 0 ∧ tV B (tN B s) ≠ tV B (tN B (tN B s)) ∧ ne B 1 9999 (tN B (tN B (tN B s))) = 0 := by
          unfold fe at z1
          by_cases w1 : ne B 0 6 (tN B s) = 0
          · rw [if_neg (fun y => y w1)] at z1
            by_cases w2 : ne B 0 6 (tN B (tN B s)) = 0
            · rw [if_neg (fun y => y w2)] at z1
              by_cases w3 : tV B (tN B s) = tV B (tN B (tN B s))
              · rw [if_pos w3] at z1; exact absurd z1 (show ¬ (3 : Nat) = 0 by decide)
              · rw [if_neg w3] at z1
                by_cases w4 : D.2 (pr (tV B (tN B s)) (tV B (tN B (tN B s)))) = 0
                · rw [if_neg (fun y => y w4)] at z1
                  exact ⟨w1, w2, w3, z1⟩
                · rw [if_pos w4] at z1; exact absurd z1 (show ¬ (4 : Nat) = 0 by decide)
            · rw [if_pos w2] at z1; exact absurd z1 w2
          · rw [if_pos w1] at z1; exact absurd z1 w1
        obtain ⟨-, -, -, va6⟩ := ne_ok nes.1
        obtain ⟨-, -, -, vb6⟩ := ne_ok nes.2.1
        obtain ⟨-, -, -, vc9⟩ := ne_ok nes.2.2.2
        rw [c1, d1]
        simp only [bs]
        rw [if_neg (show ¬ (1 : Int32) = 0 by decide)]
        obtain ⟨b1, b2'⟩ := readSign_c hB hb 0 fa x2 x4 x5 t4.2.1
        obtain ⟨j1, j2⟩ := j71_m hB hb2 t4.2.1 d2 (b2 hp) hi1 pg1
        have es := se_2 B (tN B (tN B (tN B (tN B s))))
        by_cases z2 : se B (tN B (tN B (tN B (tN B s)))) = 0
        · right
          obtain ⟨x1', x3', x4', b3⟩ := b1 z2
          obtain ⟨br', bA', he', sp', tk', va', j3, j4⟩ := j2 z2
          have gb : bad B (tN B (tN B (tN B (tN B s)))) = false := by
            unfold se at z2
            cases w : bad B (tN B (tN B (tN B (tN B s)))) with
            | false => rfl
            | true => rw [w, if_pos rfl] at z2; omega
          obtain ⟨d4, d5⟩ := d3 gb
          rw [b3, j3]
          simp only [bs]
          rw [if_neg (show ¬ (1 : Int32) = 0 by decide)]
          have hD2 := dI_far hD (show tV B (tN B s) < 7 by omega) (show tV B (tN B (tN B s)) < 7 by omega) nes.2.2.1 vc9
          exact ⟨_, _, hp, _, _, _, _, _, _, _, _, _, _, _, _, _, _, _, by omega, t5.2.1, hD2, rfl, c2, rfl, j4, fun _ => ⟨rfl, d4, d5⟩⟩
        · left
          obtain ⟨x1', x2', x3', x4', b3⟩ := b2' z2
          obtain ⟨y1, y2, y3, y4, j3⟩ := j1 z2
          rw [b3, j3]
          simp only [bs, if_true]
          exact ⟨se B (tN B (tN B (tN B (tN B s)))), tS B (tN B (tN B (tN B (tN B s)))), _, _, _, _, _, _, _, _, _, _, _, _, _, _, _, by omega, by omega, rfl, rfl⟩
      · left
        obtain ⟨x1, x2, x3, x4, x5, x6, c1⟩ := f1 z1
        obtain ⟨y1, y2, y3, y4, y5, y6, d1⟩ := m1 z1
        rw [c1, d1]
        simp only [bs, if_true]
        rw [j71_b (by omega) fb]
        exact ⟨(fe B D.2 (tN B s)).1, (fe B D.2 (tN B s)).2, _, _, _, _, _, _, _, _, _, _, _, _, _, _, _, by omega, fb, rfl, rfl⟩
