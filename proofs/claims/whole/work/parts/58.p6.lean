/-! land -/
theorem fill49_L (g : Nat → Int32) : ∀ (m i n : Nat), i + m = 49 → m + 1 ≤ n → J7_fill_53178_49_L5 n 0 (nI i) 49 (fil g 0 i) = some (fil g 0 49)
  | 0, i, n + 1, hi, _ => by
    show J7_fill_53178_49_B5 _ _ _ _ _ = _
    unfold J7_fill_53178_49_B5
    rw [if_pos (show (49 : Int32) ≤ nI i from nI_le (a := 49) (by omega) (by omega)), show i = 49 by omega]
  | m + 1, i, n + 1, hi, hn => by
    have h1 := fill49_L g m (i + 1) n (by omega) (by omega)
    show J7_fill_53178_49_B5 _ _ _ _ _ = _
    unfold J7_fill_53178_49_B5 lat
    have h2 := fil_s g 0 i
    rw [Nat.zero_add] at h2
    rw [if_neg (show ¬ (49 : Int32) ≤ nI i from nI_ge (b := 49) (by omega) (by omega)), gd_in (by omega) (by decide), nI_clamp (by omega), h2, nI_1]
    exact h1
theorem reset_c (dp : Int32) (dq : Nat → Int32) : ∃ dq', X8_reset dp dq = some (3, dq') ∧ cT (3, fun _ => 0) 3 dq' := by
  refine ⟨fil dq 0 49, ?_, rfl, fun a b ha hb => ?_⟩
  · unfold X8_reset J7_fill_53178_49
    have h1 := fill49_L dq 49 0 1000 (by omega) (by omega)
    rw [fil_0, nI_0] at h1
    rw [h1, bs]
  · unfold fil
    rw [if_pos (by omega)]
    show (0 : Int32) = nI (if a = b then 0 else 0)
    split <;> rfl
theorem pg0_L (k43 : Int32 → Int32 → Int32 → Int32 → Int32 → Int32 → Int32 → Int32 → Int32 → Int32 → Int32 → Int32 → (Nat → Int32) → (Nat → Int32) → (Nat → Int32) → Option (Int32 × Int32 × Int32 × Int32 × Int32 × Int32 × Int32 × Int32 × Int32 × Int32 × Int32 × Int32 × (Nat → Int32) × (Nat → Int32) × (Nat → Int32))) (x1 br bA ft hp he hi aw sp tl tk va : Int32) (kp g sta : Nat → Int32) : ∀ (m i n : Nat), i + m = 22 → m + 1 ≤ n → X11_land_L24 k43 n x1 (nI i) br bA ft hp he hi aw sp tl tk va kp (fil g 0 i) sta = k43 x1 br bA ft hp he hi aw sp tl tk va kp (fil g 0 22) sta
  | 0, i, n + 1, hj, _ => by
    show X11_land_B24 _ _ _ _ _ _ _ _ _ _ _ _ _ _ _ _ _ _ = _
    unfold X11_land_B24
    rw [if_pos (show (22 : Int32) ≤ nI i from nI_le (a := 22) (by omega) (by omega)), show i = 22 by omega]
  | m + 1, i, n + 1, hj, hn => by
    have h1 := pg0_L k43 x1 br bA ft hp he hi aw sp tl tk va kp g sta m (i + 1) n (by omega) (by omega)
    show X11_land_B24 _ _ _ _ _ _ _ _ _ _ _ _ _ _ _ _ _ _ = _
    unfold X11_land_B24 lat
    have h2 := fil_s g 0 i
    rw [Nat.zero_add] at h2
    rw [if_neg (show ¬ (22 : Int32) ≤ nI i from nI_ge (b := 22) (by omega) (by omega)), gd_in (by omega) (by decide), nI_clamp (by omega), h2, nI_1]
    exact h1
def cpp (pg sta : Nat → Int32) (i : Nat) : Nat → Int32 := fun j => if j < i then pg j else sta j
theorem cpp_s (pg sta : Nat → Int32) (i : Nat) : upd (cpp pg sta i) i (pg i) = cpp pg sta (i + 1) := by
  funext j
  unfold upd cpp
  by_cases z : j = i
  · rw [if_pos z, if_pos (by omega), z]
  · rw [if_neg z]
    by_cases y : j < i
    · rw [if_pos y, if_pos (by omega)]
    · rw [if_neg y, if_neg (by omega)]
theorem pg1_L (k159 : Int32 → Int32 → Int32 → Int32 → Int32 → Int32 → Int32 → Int32 → Int32 → Int32 → Int32 → Int32 → (Nat → Int32) → (Nat → Int32) → (Nat → Int32) → Option (Int32 × Int32 × Int32 × Int32 × Int32 × Int32 × Int32 × Int32 × Int32 × Int32 × Int32 × Int32 × (Nat → Int32) × (Nat → Int32) × (Nat → Int32))) (x1 br bA ft hp he hi aw sp tl tk va : Int32) (kp pg sta : Nat → Int32) : ∀ (m i n : Nat), i + m = 22 → m + 1 ≤ n → X11_land_L135 k159 n x1 (nI i) br bA ft hp he hi aw sp tl tk va kp pg (cpp pg sta i) = k159 x1 br bA ft hp he hi aw sp tl tk va kp pg (cpp pg sta 22)
  | 0, i, n + 1, hj, _ => by
    show X11_land_B135 _ _ _ _ _ _ _ _ _ _ _ _ _ _ _ _ _ _ = _
    unfold X11_land_B135
    rw [if_pos (show (22 : Int32) ≤ nI i from nI_le (a := 22) (by omega) (by omega)), show i = 22 by omega]
  | m + 1, i, n + 1, hj, hn => by
    have h1 := pg1_L k159 x1 br bA ft hp he hi aw sp tl tk va kp pg sta m (i + 1) n (by omega) (by omega)
    show X11_land_B135 _ _ _ _ _ _ _ _ _ _ _ _ _ _ _ _ _ _ = _
    unfold X11_land_B135 lat
    rw [if_neg (show ¬ (22 : Int32) ≤ nI i from nI_ge (b := 22) (by omega) (by omega)), gd_in (by omega) (by decide), gd_in (by omega) (by decide), nI_clamp (by omega), cpp_s, nI_1]
    exact h1
theorem cpp_0 (pg sta : Nat → Int32) : cpp pg sta 0 = sta := by funext j; unfold cpp; rw [if_neg (by omega)]
theorem l68 (lf k0 k1 a1 a2 a3 a4 a5 a6 a7 a8 a9 dp : Int32) (dq : Nat → Int32) (pl : Int32) (sq : Nat → Int32) (tl wp : Int32) : ∀ f, 3 ≤ f → X10_land_L68 f 0 lf k0 k1 a1 a2 a3 a4 a5 a6 a7 a8 a9 dp dq pl sq tl wp = some (a5, lf, 0, 0, a1, a2, a3, a4, a5, a6, a7, a8, a9, dp, dq, pl, sq, tl, wp) := fun f hf => by
  obtain ⟨f', rfl⟩ : ∃ f', f = f' + 3 := ⟨f - 3, by omega⟩
  have e1 : X10_land_L68 (f' + 3) 0 lf k0 k1 a1 a2 a3 a4 a5 a6 a7 a8 a9 dp dq pl sq tl wp = X10_land_L68 (f' + 2) 1 lf 0 k1 a1 a2 a3 a4 a5 a6 a7 a8 a9 dp dq pl sq tl wp := by
    show X10_land_B68 _ _ _ _ _ _ _ _ _ _ _ _ _ _ _ _ _ _ _ _ = _
    unfold X10_land_B68 lat
    rw [if_neg (by decide), if_pos rfl]; rfl
  have e2 : X10_land_L68 (f' + 2) 1 lf 0 k1 a1 a2 a3 a4 a5 a6 a7 a8 a9 dp dq pl sq tl wp = X10_land_L68 (f' + 1) 2 lf 0 0 a1 a2 a3 a4 a5 a6 a7 a8 a9 dp dq pl sq tl wp := by
    show X10_land_B68 _ _ _ _ _ _ _ _ _ _ _ _ _ _ _ _ _ _ _ _ = _
    unfold X10_land_B68 lat
    rw [if_neg (by decide), if_neg (by decide), if_pos rfl]; rfl
  rw [e1, e2]
  show X10_land_B68 _ _ _ _ _ _ _ _ _ _ _ _ _ _ _ _ _ _ _ _ = _
  unfold X10_land_B68
  rw [if_pos (by decide)]
theorem land_m0 (ltr tp : Nat → Int32) (br bA ft hp he hi aw sp tl tk va : Int32) (kp pg sta : Nat → Int32) : X11_land br bA ft hp he hi aw sp tl tk va kp ltr pg sta tp = X11_land_J43 ltr tp 0 0 bA ft 0 he 0 aw 0 tl tk va kp (fil pg 0 22) sta := by
  have key : ∀ F : Nat, F = 1000 → X11_land_L24 (X11_land_J43 ltr tp) F 0 0 0 bA ft 0 he 0 aw 0 tl tk va kp pg sta = X11_land_J43 ltr tp 0 0 bA ft 0 he 0 aw 0 tl tk va kp (fil pg 0 22) sta := fun F hF => by
    have h := pg0_L (X11_land_J43 ltr tp) 0 0 bA ft 0 he 0 aw 0 tl tk va kp pg sta 22 0 F (by omega) (by omega)
    rw [fil_0, nI_0] at h
    exact h
  exact key 1000 rfl
theorem lines_0 {B : Tab} {bt tp ltr : Nat → Int32} (hB : okB B) (hb : ∀ k, k < B.1 → bt k = (nI (B.2 k)).toInt8.toInt32) (hb2 : ∀ k, k < B.1 → tp k = nI (B.2 k)) (hl : ∀ k, k < 9 → ltr k = ltrs.getD k 0) (ft aw : Int32) (kp sta : Nat → Int32) {F1 F2 : Nat} (h1 : 322 ≤ F1) (h2 : 322 ≤ F2) {dq' : Nat → Int32} (r2 : cT (3, fun _ => 0) 3 dq') (a4 a8 a9 br0 bA0 he0 sp0 tk0 va0 : Int32) {pg0 : Nat → Int32} (m0 : mst (3, fun _ => 0) pg0) (s2 : Pd B 0 br0 bA0 he0 sp0 tk0 va0) : ∃ c pc pm N' M' D' x1 x2 x3 x4 x5 x6 dp' dq2 y1 y2 y3 y4 y5 y6 pg', c ≤ 5 ∧ X4_readAll_L39 (nI B.1) bt (X4_readAll_J67 (nI B.1)) (X4_readAll_J86 (nI B.1)) F1 0 0 0 0 a4 0 0 0 a8 a9 3 dq' = some (nI c, pc, x1, x2, nI N', x3, x4, x5, x6, dp', dq2) ∧ X11_land_L55 ltr tp X11_land_J79 F2 0 br0 bA0 ft 0 he0 0 aw sp0 (nI B.1) tk0 va0 kp pg0 sta = X11_land_J105 (nI M') (nI c) pm ft y1 y2 y3 aw y4 (nI B.1) y5 y6 kp pg' sta ∧ (c ≠ 0 → pc = pm) ∧ (c = 0 → M' = N' ∧ okT D' ∧ cT D' dp' dq2 ∧ mst D' pg') := by
  have h3 := hB.1
  have d0 : dI (3, fun _ => 0) 0 := ⟨by decide, by decide, fun k => Nat.zero_le _, Nat.zero_le _, fun k hk => absurd rfl hk⟩
  have h := lines_j hB hb hb2 hl ft aw kp sta B.1 0 0 F1 F2 0 0 false (3, fun _ => 0) 3 dq' 0 a4 a8 a9 br0 bA0 0 he0 0 sp0 tk0 va0 pg0 (by omega) (Nat.le_refl 0) (by omega) (by omega) d0 r2 s2 (fun _ => ⟨rfl, rfl, m0⟩)
  rw [nI_0, show b2 false = 0 from rfl] at h
  exact h
theorem readAll_c {a1 a2 a3 a4 a5 a6 a7 a8 a9 dp : Int32} {dq dq' : Nat → Int32} (tl : Int32) (bt : Nat → Int32) (r1 : X8_reset dp dq = some (3, dq')) : X4_readAll a1 a2 a3 a4 a5 a6 a7 a8 a9 dp dq tl bt = X4_readAll_L39 tl bt (X4_readAll_J67 tl) (X4_readAll_J86 tl) 1000 0 0 0 0 a4 0 0 0 a8 a9 3 dq' := by
  have key : ∀ F : Int32 → Int32 → Int32 → Int32 → Int32 → Int32 → Int32 → Int32 → Int32 → Int32 → Int32 → (Nat → Int32) → RaR, ((X8_reset dp dq).bind fun u6 => F (0 : Int32) (0 : Int32) (0 : Int32) (0 : Int32) a4 (0 : Int32) (0 : Int32) (0 : Int32) a8 a9 u6.1 u6.2) = F 0 0 0 0 a4 0 0 0 a8 a9 3 dq' := fun F => by rw [r1, bs]
  exact key (X4_readAll_L39 tl bt (X4_readAll_J67 tl) (X4_readAll_J86 tl) 1000)
theorem land_m1 (ltr tp : Nat → Int32) {bA ft he aw tl tk va br0 bA0 he0 sp0 tk0 va0 : Int32} (kp pg sta : Nat → Int32) (s1 : X11_step 0 bA he 0 tl tk va tp = some (br0, bA0, he0, sp0, tk0, va0)) : X11_land_J43 ltr tp 0 0 bA ft 0 he 0 aw 0 tl tk va kp pg sta = X11_land_L55 ltr tp X11_land_J79 1000 0 br0 bA0 ft 0 he0 0 aw sp0 tl tk0 va0 kp (upd pg 21 3) sta := by
  have key : ∀ F : Int32 → Int32 → Int32 → Int32 → Int32 → Int32 → Int32 → Int32 → Int32 → Int32 → Int32 → Int32 → (Nat → Int32) → (Nat → Int32) → (Nat → Int32) → Option (Int32 × Int32 × Int32 × Int32 × Int32 × Int32 × Int32 × Int32 × Int32 × Int32 × Int32 × Int32 × (Nat → Int32) × (Nat → Int32) × (Nat → Int32)), (lat (upd pg 21 ((3 : Int32))) fun m11 => (X11_step 0 bA he 0 tl tk va tp).bind fun u12 => F 0 u12.1 u12.2.1 ft 0 u12.2.2.1 0 aw u12.2.2.2.1 tl u12.2.2.2.2.1 u12.2.2.2.2.2 kp m11 sta) = F 0 br0 bA0 ft 0 he0 0 aw sp0 tl tk0 va0 kp (upd pg 21 3) sta := fun F => by
    unfold lat
    dsimp only
    rw [s1, bs]
  exact key (X11_land_L55 ltr tp X11_land_J79 1000)
theorem j105_0 (x1 pm ft y1 y2 y3 aw y4 tl y5 y6 : Int32) (kp pg sta : Nat → Int32) : X11_land_J105 x1 (nI 0) pm ft y1 y2 y3 aw y4 tl y5 y6 kp pg sta = some (x1, nI 0, pm, nI 0, y1, y2, y3, 1, y4, 0, y5, y6, upd (upd kp 0 0) 1 0, pg, upd (cpp pg sta 22) 30 0) := by
  have key : ∀ F : Nat, 23 ≤ F → X11_land_L135 X11_land_J159 F x1 0 (nI 0) pm (nI 0) y1 y2 y3 aw y4 0 y5 y6 kp pg sta = X11_land_J159 x1 (nI 0) pm (nI 0) y1 y2 y3 aw y4 0 y5 y6 kp pg (cpp pg sta 22) := fun F hF => by
    have h := pg1_L X11_land_J159 x1 (nI 0) pm (nI 0) y1 y2 y3 aw y4 0 y5 y6 kp pg sta 22 0 F (by omega) (by omega)
    rw [cpp_0, nI_0] at h
    rw [nI_0]
    exact h
  unfold X11_land_J105
  rw [if_pos (show nI 0 ≤ 0 by decide), key 1000 (by omega)]
  rfl
abbrev LxR : Type := Option (Int32 × Int32 × Int32 × Int32 × Int32 × Int32 × Int32 × Int32 × Int32 × Int32 × Int32 × Int32 × Int32 × Int32 × (Nat → Int32) × Int32 × (Nat → Int32) × Int32 × Int32)
theorem land_c {lf k0 k1 a1 a2 a3 a4 a5 a6 a7 a8 a9 dp : Int32} {dq : Nat → Int32} {pl : Int32} {sq : Nat → Int32} {tl wp : Int32} {bt : Nat → Int32} {f1 f2 f3 f4 f5 f6 f7 f8 f9 fp : Int32} {fq : Nat → Int32} (eR : X4_readAll a1 a2 a3 a4 a5 a6 a7 a8 a9 dp dq tl bt = some (f1, f2, f3, f4, f5, f6, f7, f8, f9, fp, fq)) : X10_land lf k0 k1 a1 a2 a3 a4 a5 a6 a7 a8 a9 dp dq pl sq tl bt wp = if f1 = 0 then X10_land_L68 1000 0 f1 k0 k1 f1 f2 f3 f4 f5 f6 f7 f8 f9 fp fq (X8_copyFrom pl sq fp fq).1 (X8_copyFrom pl sq fp fq).2 0 0 else some (-10 - f2, f1, k0, k1, f1, f2, f3, f4, f5, f6, f7, f8, f9, fp, fq, pl, sq, 0, wp) := by
  have key : ∀ F : Int32 → Int32 → Int32 → Int32 → Int32 → Int32 → Int32 → Int32 → Int32 → Int32 → Int32 → Int32 → Int32 → Int32 → (Nat → Int32) → Int32 → (Nat → Int32) → Int32 → Int32 → LxR, ((X4_readAll a1 a2 a3 a4 a5 a6 a7 a8 a9 dp dq tl bt).bind fun u3 => if u3.1 = 0 then (lat (X8_copyFrom pl sq u3.2.2.2.2.2.2.2.2.2.1 u3.2.2.2.2.2.2.2.2.2.2) fun u4 => F (0 : Int32) u3.1 k0 k1 u3.1 u3.2.1 u3.2.2.1 u3.2.2.2.1 u3.2.2.2.2.1 u3.2.2.2.2.2.1 u3.2.2.2.2.2.2.1 u3.2.2.2.2.2.2.2.1 u3.2.2.2.2.2.2.2.2.1 u3.2.2.2.2.2.2.2.2.2.1 u3.2.2.2.2.2.2.2.2.2.2 u4.1 u4.2 (0 : Int32) (0 : Int32)) else (some (((-10 : Int32) - u3.2.1), u3.1, k0, k1, u3.1, u3.2.1, u3.2.2.1, u3.2.2.2.1, u3.2.2.2.2.1, u3.2.2.2.2.2.1, u3.2.2.2.2.2.2.1, u3.2.2.2.2.2.2.2.1, u3.2.2.2.2.2.2.2.2.1, u3.2.2.2.2.2.2.2.2.2.1, u3.2.2.2.2.2.2.2.2.2.2, pl, sq, (0 : Int32), wp))) = if f1 = 0 then F 0 f1 k0 k1 f1 f2 f3 f4 f5 f6 f7 f8 f9 fp fq (X8_copyFrom pl sq fp fq).1 (X8_copyFrom pl sq fp fq).2 0 0 else some (-10 - f2, f1, k0, k1, f1, f2, f3, f4, f5, f6, f7, f8, f9, fp, fq, pl, sq, 0, wp) := fun F => by
    rw [eR, bs]
    unfold lat
    rfl
  exact key (X10_land_L68 1000)
theorem land_c0 {lf k0 k1 a1 a2 a3 a4 a5 a6 a7 a8 a9 dp : Int32} {dq : Nat → Int32} {pl : Int32} {sq : Nat → Int32} {tl wp : Int32} {bt : Nat → Int32} {f2 f3 f4 f5 f6 f7 f8 f9 fp : Int32} {fq : Nat → Int32} (eR : X4_readAll a1 a2 a3 a4 a5 a6 a7 a8 a9 dp dq tl bt = some (nI 0, f2, f3, f4, f5, f6, f7, f8, f9, fp, fq)) : X10_land lf k0 k1 a1 a2 a3 a4 a5 a6 a7 a8 a9 dp dq pl sq tl bt wp = some (f5, nI 0, 0, 0, nI 0, f2, f3, f4, f5, f6, f7, f8, f9, fp, fq, (X8_copyFrom pl sq fp fq).1, (X8_copyFrom pl sq fp fq).2, 0, 0) := by
  rw [land_c eR, if_pos nI_0, l68 _ _ _ _ _ _ _ _ _ _ _ _ _ _ _ _ _ _ 1000 (by omega)]
theorem land_c1 {lf k0 k1 a1 a2 a3 a4 a5 a6 a7 a8 a9 dp : Int32} {dq : Nat → Int32} {pl : Int32} {sq : Nat → Int32} {tl wp : Int32} {bt : Nat → Int32} {f1 f2 f3 f4 f5 f6 f7 f8 f9 fp : Int32} {fq : Nat → Int32} (h : ¬ f1 = 0) (eR : X4_readAll a1 a2 a3 a4 a5 a6 a7 a8 a9 dp dq tl bt = some (f1, f2, f3, f4, f5, f6, f7, f8, f9, fp, fq)) : X10_land lf k0 k1 a1 a2 a3 a4 a5 a6 a7 a8 a9 dp dq pl sq tl bt wp = some (-10 - f2, f1, k0, k1, f1, f2, f3, f4, f5, f6, f7, f8, f9, fp, fq, pl, sq, 0, wp) := by
  rw [land_c eR, if_neg h]
theorem j105_1 {c : Nat} (h1 : 1 ≤ c) (h5 : c ≤ 5) (x1 pm ft y1 y2 y3 aw y4 tl y5 y6 : Int32) (kp pg sta : Nat → Int32) : X11_land_J105 x1 (nI c) pm ft y1 y2 y3 aw y4 tl y5 y6 kp pg sta = some (-10 - pm, nI c, pm, nI c, y1, y2, y3, aw, y4, 0, y5, y6, kp, pg, sta) := by
  unfold X11_land_J105
  rw [if_neg (nI_nle (by omega) (by omega))]
/-- both land -/
theorem q_land {B : Tab} {bt tp ltr : Nat → Int32} (hB : okB B) (hb : ∀ k, k < B.1 → bt k = (nI (B.2 k)).toInt8.toInt32) (hb2 : ∀ k, k < B.1 → tp k = nI (B.2 k)) (hl : ∀ k, k < 9 → ltr k = ltrs.getD k 0) (lf k0 k1 a1 a2 a3 a4 a5 a6 a7 a8 a9 dp : Int32) (dq : Nat → Int32) (pl : Int32) (sq : Nat → Int32) (wp : Int32) (br bA ft hp he hi aw sp tk va : Int32) (kp pg sta : Nat → Int32) :
    ∃ u um, X10_land lf k0 k1 a1 a2 a3 a4 a5 a6 a7 a8 a9 dp dq pl sq (nI B.1) bt wp = some u ∧ X11_land br bA ft hp he hi aw sp (nI B.1) tk va kp ltr pg sta tp = some um ∧ u.1 = um.1 ∧ u.2.1 = um.2.2.2.1 ∧ u.2.2.2.2.2.2.2.2.2.2.2.2.2.2.2.2.2.1 = 0 ∧ um.2.2.2.2.2.2.2.2.2.1 = 0 ∧
      ((u.2.2.1 = k0 ∧ u.2.2.2.1 = k1 ∧ u.2.2.2.2.2.2.2.2.2.2.2.2.2.2.2.1 = pl ∧ u.2.2.2.2.2.2.2.2.2.2.2.2.2.2.2.2.1 = sq ∧ u.2.2.2.2.2.2.2.2.2.2.2.2.2.2.2.2.2.2 = wp ∧ um.2.2.2.2.2.2.2.1 = aw ∧ um.2.2.2.2.2.2.2.2.2.2.2.2.1 = kp ∧ um.2.2.2.2.2.2.2.2.2.2.2.2.2.2 = sta)
      ∨ ∃ D : Tab, okT D ∧ u.2.2.1 = 0 ∧ u.2.2.2.1 = 0 ∧ cT D u.2.2.2.2.2.2.2.2.2.2.2.2.2.2.2.1 u.2.2.2.2.2.2.2.2.2.2.2.2.2.2.2.2.1 ∧ u.2.2.2.2.2.2.2.2.2.2.2.2.2.2.2.2.2.2 = 0 ∧ um.2.2.2.2.2.2.2.1 = 1 ∧ um.2.2.2.2.2.2.2.2.2.2.2.2.1 0 = 0 ∧ um.2.2.2.2.2.2.2.2.2.2.2.2.1 1 = 0 ∧ mst D um.2.2.2.2.2.2.2.2.2.2.2.2.2.2 ∧ um.2.2.2.2.2.2.2.2.2.2.2.2.2.2 30 = 0) := by
  have h3 := hB.1
  obtain ⟨dq', r1, r2⟩ := reset_c dp dq
  obtain ⟨br0, bA0, he0, sp0, tk0, va0, s1, s2⟩ := step_m hB hb2 bA he tk va (Nat.zero_le B.1)
  have m0 : mst (3, fun _ => 0) (upd (fil pg 0 22) 21 3) := ⟨upd_e .., fun j hj => by
    rw [upd_n _ _ (by omega)]; unfold fil; rw [if_pos (by omega)]; rfl⟩
  obtain ⟨c, pc, pm, N', M', D', x1, x2, x3, x4, x5, x6, dp', dq2, y1, y2, y3, y4, y5, y6, pg', c5, i1, i2, i3, i4⟩ := lines_0 (F1 := 1000) (F2 := 1000) hB hb hb2 hl ft aw kp sta (by omega) (by omega) r2 a4 a8 a9 br0 bA0 he0 sp0 tk0 va0 m0 s2
  have eR := (readAll_c (a1 := a1) (a2 := a2) (a3 := a3) (a4 := a4) (a5 := a5) (a6 := a6) (a7 := a7) (a8 := a8) (a9 := a9) (nI B.1) bt r1).trans i1
  have s1' : X11_step 0 bA he 0 (nI B.1) tk va tp = some (br0, bA0, he0, sp0, tk0, va0) := by rw [nI_0] at s1; exact s1
  have eM := ((land_m0 ltr tp br bA ft hp he hi aw sp (nI B.1) tk va kp pg sta).trans (land_m1 ltr tp kp (fil pg 0 22) sta s1')).trans i2
  by_cases z : c = 0
  · obtain ⟨e1, e2, e3, e4⟩ := i4 z
    subst z
    have cT1 := copyT (pl' := pl) (sq' := sq) e3
    refine ⟨_, _, land_c0 eR, eM.trans (j105_0 _ _ _ _ _ _ _ _ _ _ _ _ _ _), ?_, rfl, rfl, rfl, Or.inr ⟨D', e2, rfl, rfl, ?_, rfl, rfl, ?_, ?_, ?_, ?_⟩⟩
    · show nI N' = nI M'
      rw [e1]
    · show cT D' (X8_copyFrom pl sq dp' dq2).1 (X8_copyFrom pl sq dp' dq2).2
      rw [cT1.1]; exact cT1.2
    · show upd (upd kp 0 0) 1 0 0 = 0
      rw [upd_n _ _ (by decide), upd_e]
    · show upd (upd kp 0 0) 1 0 1 = 0
      rw [upd_e]
    · show mst D' (upd (cpp pg' sta 22) 30 0)
      refine ⟨?_, fun j hj => ?_⟩
      · rw [upd_n _ _ (by decide)]; unfold cpp; rw [if_pos (by decide)]; exact e4.1
      · rw [upd_n _ _ (by omega)]; unfold cpp; rw [if_pos (by omega)]; exact e4.2 j hj
    · show upd (cpp pg' sta 22) 30 0 30 = 0
      rw [upd_e]
  · have e1 := i3 z
    refine ⟨_, _, land_c1 (nIc (by omega) c5) eR, eM.trans (j105_1 (by omega) c5 _ _ _ _ _ _ _ _ _ _ _ _ _ _), ?_, rfl, rfl, rfl, Or.inl ⟨rfl, rfl, rfl, rfl, rfl, rfl, rfl, rfl⟩⟩
    show -10 - pc = -10 - pm
    rw [e1]
