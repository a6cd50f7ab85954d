/-! land: all lines -/
abbrev RaR : Type := Option (Int32 × Int32 × Int32 × Int32 × Int32 × Int32 × Int32 × Int32 × Int32 × Int32 × (Nat → Int32))
theorem dI_ok {D : Tab} {h : Nat} (hD : dI D h) (hn : h < D.1) : okT D := by
  obtain ⟨h1, h2, h3, h4, h5⟩ := hD
  refine ⟨h1, h2, h3, fun k hk => ?_⟩
  rcases Nat.eq_zero_or_pos (D.2 k) with z | z
  · exact z
  · exfalso
    have := h5 k (by omega)
    rcases trih (D.1 - 1) (by omega) h (by omega) with w | w
    · omega
    · rw [show D.1 - 1 + 1 = D.1 by omega] at w; omega
/-- the end of the lines, by both -/
theorem end_j {B : Tab} {D : Tab} {dp : Int32} {dq pg : Nat → Int32} {h N : Nat} (hB : okB B) (hD : dI D h) (hc : cT D dp dq) (hm : mst D pg) (fa k nx pt st v bA ft hp aw sp tk va : Int32) (kp sta : Nat → Int32) : ∃ c pc pm x1 x2 x3 x4 x5 x6, c ≤ 5 ∧ X4_readAll_J86 (nI B.1) 0 fa (nI h) k (nI N) nx pt st v dp dq = some (nI c, pc, x1, x2, nI N, x3, x4, x5, x6, dp, dq) ∧ X11_land_J79 (nI N) 0 bA ft hp (nI B.1) (nI h) aw sp (nI B.1) tk va kp pg sta = X11_land_J105 (nI N) (nI c) pm ft hp (nI B.1) (nI h) aw sp (nI B.1) tk va kp pg sta ∧ (c ≠ 0 → pc = pm) ∧ (c = 0 → okT D) := by
  have h4 := hD.2.2.2.1
  have h7 := hD.2.1
  unfold X4_readAll_J86 X4_refuse X11_land_J79 lat
  rw [if_pos rfl, if_pos rfl, hc.1, hm.1]
  by_cases z : h < D.1
  · rw [if_pos (nI_lt z (by omega)), if_pos (nI_lt z (by omega))]
    exact ⟨0, fa, bA, _, _, _, _, _, _, by omega, rfl, rfl, fun y => absurd rfl y, fun _ => dI_ok hD z⟩
  · rw [if_neg (nI_nlt (by omega) (by omega)), if_neg (nI_nlt (by omega) (by omega))]
    exact ⟨5, nI B.1, nI B.1, _, _, _, _, _, _, by omega, rfl, rfl, fun _ => rfl, fun y => absurd y (by decide)⟩
theorem lines_j {B : Tab} {bt tp ltr : Nat → Int32} (hB : okB B) (hb : ∀ k, k < B.1 → bt k = (nI (B.2 k)).toInt8.toInt32) (hb2 : ∀ k, k < B.1 → tp k = nI (B.2 k)) (hl : ∀ k, k < 9 → ltr k = ltrs.getD k 0) (ft aw : Int32) (kp sta : Nat → Int32) : ∀ (m s i f1 f2 N h : Nat) (hp : Bool) (D : Tab) (dp : Int32) (dq : Nat → Int32) (fa k st v br bA hpI he hiI sp tk va : Int32) (pg : Nat → Int32), s + m = B.1 → i ≤ s → m + 2 ≤ f1 → m + 2 ≤ f2 → dI D h → cT D dp dq → Pd B s br bA he sp tk va → (bad B s = false → hpI = b2 hp ∧ hiI = nI h ∧ mst D pg) →
    ∃ c pc pm N' M' D' x1 x2 x3 x4 x5 x6 dp' dq' y1 y2 y3 y4 y5 y6 pg', c ≤ 5 ∧ X4_readAll_L39 (nI B.1) bt (X4_readAll_J67 (nI B.1)) (X4_readAll_J86 (nI B.1)) f1 (nI i) 0 fa (nI h) k (nI N) (nI s) (b2 hp) st v dp dq = some (nI c, pc, x1, x2, nI N', x3, x4, x5, x6, dp', dq') ∧ X11_land_L55 ltr tp X11_land_J79 f2 (nI N) br bA ft hpI he hiI aw sp (nI B.1) tk va kp pg sta = X11_land_J105 (nI M') (nI c) pm ft y1 y2 y3 aw y4 (nI B.1) y5 y6 kp pg' sta ∧ (c ≠ 0 → pc = pm) ∧ (c = 0 → M' = N' ∧ okT D' ∧ cT D' dp' dq' ∧ mst D' pg') := by
  intro m
  induction m using Nat.strongRecOn with
  | ind m ih =>
    intro s i f1 f2 N h hp D dp dq fa k st v br bA hpI he hiI sp tk va pg hs hi hf1 hf2 hD hc hP hG
    have h3 := hB.1
    have hsL : s ≤ B.1 := by omega
    have n1 := tK_1 hB hsL
    have k5 : tK B s ≤ 5 := (rb_k hB (tS B s)).2.2.2.2.2
    have tsb := tS_b hsL
    obtain ⟨f1', rfl⟩ : ∃ f1', f1 = f1' + 1 := ⟨f1 - 1, by omega⟩
    obtain ⟨f2', rfl⟩ : ∃ f2', f2 = f2' + 1 := ⟨f2 - 1, by omega⟩
    have eX : X4_readAll_L39 (nI B.1) bt (X4_readAll_J67 (nI B.1)) (X4_readAll_J86 (nI B.1)) (f1' + 1) (nI i) 0 fa (nI h) k (nI N) (nI s) (b2 hp) st v dp dq = X4_readAll_B39 (nI B.1) bt (X4_readAll_L39 (nI B.1) bt (X4_readAll_J67 (nI B.1)) (X4_readAll_J86 (nI B.1)) f1') (X4_readAll_J67 (nI B.1)) (X4_readAll_J86 (nI B.1)) (nI i) 0 fa (nI h) k (nI N) (nI s) (b2 hp) st v dp dq := rfl
    have eM : X11_land_L55 ltr tp X11_land_J79 (f2' + 1) (nI N) br bA ft hpI he hiI aw sp (nI B.1) tk va kp pg sta = X11_land_B55 ltr tp (X11_land_L55 ltr tp X11_land_J79 f2') X11_land_J79 (nI N) br bA ft hpI he hiI aw sp (nI B.1) tk va kp pg sta := rfl
    rw [eX, eM]
    unfold X4_readAll_B39 X11_land_B55 lat
    obtain ⟨r1, r2⟩ := readToken_c hB hb 0 fa k st v hsL
    -- the end
    have fin : ∀ k' nx st' v', bad B s = false → tK B s = 0 → ∃ c pc pm N' M' D' x1 x2 x3 x4 x5 x6 dp' dq' y1 y2 y3 y4 y5 y6 pg', c ≤ 5 ∧ X4_readAll_J86 (nI B.1) 0 fa (nI h) k' (nI N) nx (b2 hp) st' v' dp dq = some (nI c, pc, x1, x2, nI N', x3, x4, x5, x6, dp', dq') ∧ X11_land_J79 (nI N) br bA ft hpI he hiI aw sp (nI B.1) tk va kp pg sta = X11_land_J105 (nI M') (nI c) pm ft y1 y2 y3 aw y4 (nI B.1) y5 y6 kp pg' sta ∧ (c ≠ 0 → pc = pm) ∧ (c = 0 → M' = N' ∧ okT D' ∧ cT D' dp' dq' ∧ mst D' pg') := fun k' nx st' v' hbd z0 => by
      obtain ⟨e1, e2, e3, e4, e5⟩ := hP.2 hbd
      obtain ⟨g1, g2, g3⟩ := hG hbd
      have eL : tS B s = B.1 := by have := (kd_0 hB).mp (show kd B (tS B s) = 0 from z0); omega
      rw [eL] at e2
      rw [e1, e2, g2]
      obtain ⟨c, pc, pm, x1, x2, x3, x4, x5, x6, q1, q2, q3, q4, q5⟩ := end_j (N := N) hB hD hc g3 fa k' nx (b2 hp) st' v' bA ft hpI aw sp tk va kp sta
      exact ⟨c, pc, pm, N, N, D, x1, x2, x3, x4, x5, x6, dp, dq, _, _, _, _, _, _, pg, q1, q2, q3, q4, fun y => ⟨rfl, q5 y, hc, g3⟩⟩
    have mtok : bad B s = false → br = 0 ∧ ((tk = 0) ↔ tK B s = 0) := fun hbd => by
      obtain ⟨e1, e2, e3, e4, e5⟩ := hP.2 hbd
      have n5 : tK B s ≠ 5 := fun z => by unfold bad at hbd; rw [decide_eq_true z] at hbd; exact absurd hbd (by simp)
      rw [e4]
      exact ⟨e1, (tkc_3 k5 n1).2.2.2 n5⟩
    by_cases zi : 320 ≤ i
    · have z0 : tK B s = 0 := (kd_0 hB).mpr (by omega)
      have hbd : bad B s = false := by unfold bad; rw [z0]; rfl
      obtain ⟨t1, t2⟩ := mtok hbd
      rw [if_pos (show (320 : Int32) ≤ nI i from nI_le (a := 320) zi (by omega)), if_pos t1, if_pos (t2.mpr z0)]
      exact fin k (nI s) st v hbd z0
    rw [if_neg (show ¬ (320 : Int32) ≤ nI i from nI_ge (b := 320) (by omega) (by decide))]
    cases hbd : bad B s with
    | true =>
      obtain ⟨x1, x2, x3, x4, e⟩ := r2 hbd
      obtain ⟨p1, p2⟩ := hP.1 hbd
      rw [e]
      simp only [bs, if_true]
      rw [p1, p2, if_neg (show ¬ (1 : Int32) = 0 by decide)]
      unfold X4_readAll_J86 X11_land_J79
      rw [if_neg (show ¬ (1 : Int32) = 0 by decide), if_neg (show ¬ (1 : Int32) = 0 by decide)]
      exact ⟨1, nI (tS B s), nI (tS B s), N, N, D, _, _, _, _, _, _, dp, dq, _, _, _, _, _, _, pg, by omega, rfl, rfl, fun _ => rfl, fun y => absurd y (by decide)⟩
    | false =>
      obtain ⟨v1, e, ev⟩ := r1 hbd
      obtain ⟨t1, t2⟩ := mtok hbd
      obtain ⟨e1, e2, e3, e4, e5⟩ := hP.2 hbd
      obtain ⟨g1, g2, g3⟩ := hG hbd
      rw [e]
      simp only [bs]
      rw [if_neg (show ¬ (1 : Int32) = 0 by decide), if_pos t1]
      have ek : (nI (tK B s) = 0) ↔ tK B s = 0 := nI_eq (b := 0) (by omega) (by decide)
      by_cases z0 : tK B s = 0
      · rw [if_pos (ek.mpr z0), if_pos (t2.mpr z0)]
        exact fin _ _ _ _ hbd z0
      · rw [if_neg (fun y => z0 (ek.mp y)), if_neg (fun y => z0 (t2.mp y))]
        rw [t1, e2, e3, e4, g1, g2]
        rcases line_j hB hb hb2 hl hp hD hc g3 fa v1 bA va hsL hbd z0 with ⟨c, p, x1, x2, x3, x4, x5, x6, x7, x8, y1, y2, y3, y4, y5, y6, y7, c1, c5, l1, l2⟩ | ⟨s', h', hp', D', x2, x5, x6, dp', dq', br', bA', hpI', he', hiI', sp', tk', va', pg', s1, s2, d1, l1, d2, l2, d3, d4⟩
        · rw [l1, l2]
          simp only [bs, if_true]
          unfold X4_readAll_J67 X4_readAll_J86
          rw [if_neg (nIc c1 c5)]
          have key : ∀ f, 1 ≤ f → ∀ z0 z1 z2 z3 z4 z5 z6 z7 : Int32, ∀ z8 : Nat → Int32, X11_land_L55 ltr tp X11_land_J79 f z0 (nI c) (nI p) ft z1 z2 z3 aw z4 (nI B.1) z5 z6 kp z8 sta = X11_land_J105 z0 (nI c) (nI p) ft z1 z2 z3 aw z4 (nI B.1) z5 z6 kp z8 sta := fun f hf z0 z1 z2 z3 z4 z5 z6 z7 z8 => by
            obtain ⟨f', rfl⟩ : ∃ f', f = f' + 1 := ⟨f - 1, by omega⟩
            show X11_land_B55 _ _ _ _ _ _ _ _ _ _ _ _ _ _ _ _ _ _ _ = _
            unfold X11_land_B55 X11_land_J79
            rw [if_neg (nIc c1 c5), if_neg (nIc c1 c5)]
          rw [key f2' (by omega) _ _ _ _ _ _ _ 0 _, nI_1]
          exact ⟨c, nI p, nI p, N, N + 1, D, _, _, _, _, _, _, _, _, _, _, _, _, _, _, _, c5, rfl, rfl, fun _ => rfl, fun y => by omega⟩
        · rw [l1, l2]
          simp only [bs]
          rw [if_neg (show ¬ (1 : Int32) = 0 by decide), nI_1, nI_1]
          exact ih (B.1 - s') (by omega) s' (i + 1) f1' f2' (N + 1) h' hp' D' dp' dq' fa x2 x5 x6 br' bA' hpI' he' hiI' sp' tk' va' pg' (by omega) (by omega) (by omega) (by omega) d1 d2 d3 d4
