/-! drawings: the class's draw -/
theorem place_L {T : Tab} {pl : Int32} {sq : Nat → Int32} (ok : okT T) (hc : cT T pl sq) {a b : Nat} (ha : a < T.1) (hb : b < T.1) : ∀ (m p f : Nat), p + m = T.1 → m + 1 ≤ f → X0_layPlaces_L12 pl sq f (nI a) (nI b) (nI p) (nI (ms (lai T.2 T.1 a b) p)) (nI (ms (off T.2 T.1 a b) p)) = some (nI (ms (lai T.2 T.1 a b) T.1), nI (ms (off T.2 T.1 a b) T.1))
  | 0, p, f + 1, hp, _ => by
    have h7 := ok.2.1
    have : p = T.1 := by omega
    subst this
    show X0_layPlaces_B12 _ _ _ _ _ _ _ _ = _
    unfold X0_layPlaces_B12
    rw [hc.1, if_pos (nI_le (by omega) (by omega))]
  | m + 1, p, f + 1, hp, hf => by
    have h7 := ok.2.1
    have ih := place_L ok hc ha hb m (p + 1) f (by omega) (by omega)
    have el : lai T.2 T.1 a b p = (t3 T.2 a b p && c3 T.2 a b p) := by
      unfold lai; rw [decide_eq_true (show p < T.1 by omega)]; rfl
    have eo : off T.2 T.1 a b p = (t3 T.2 a b p && decide (0 < wZ T.2 a b p)) := by
      unfold off; rw [decide_eq_true (show p < T.1 by omega)]; rfl
    have wb := wZ_b ok a b p
    have ew : (w3 T.2 a b p ≤ 0) ↔ ¬ 0 < wZ T.2 a b p := by
      rw [w3_fI, ← fI_0, fI_le (by omega) (by omega) (by omega) (by omega)]; omega
    have e1 : ms (lai T.2 T.1 a b) (p + 1) = if lai T.2 T.1 a b p = true then ms (lai T.2 T.1 a b) p ||| 2 ^ p else ms (lai T.2 T.1 a b) p := rfl
    have e2 : ms (off T.2 T.1 a b) (p + 1) = if off T.2 T.1 a b p = true then ms (off T.2 T.1 a b) p ||| 2 ^ p else ms (off T.2 T.1 a b) p := rfl
    rw [e1, e2, el, eo] at ih
    show X0_layPlaces_B12 _ _ _ _ _ _ _ _ = _
    unfold X0_layPlaces_B12 X0_layPlaces_J70 X0_layPlaces_J89 lat
    rw [hc.1, if_neg (nI_ge (by omega) (by omega)), isToldThree_c ok hc (by omega) (by omega) (by omega), bs, wideOf_c ok hc (by omega) (by omega) (by omega), bs, shlI p (by omega)]
    dsimp only
    rw [nI_or, nI_or, nI_1]
    rw [hc.1] at ih
    cases h1 : t3 T.2 a b p with
    | false =>
      rw [h1, Bool.false_and, Bool.false_and, if_neg (show ¬ false = true by decide), if_neg (show ¬ false = true by decide)] at ih
      rw [ifb_f]; exact ih
    | true =>
      rw [h1, Bool.true_and, Bool.true_and] at ih
      rw [ifb_t]
      by_cases z : w3 T.2 a b p < 0
      · have z2 : c3 T.2 a b p = false := by unfold c3; rw [decide_eq_true z]; rfl
        have z3 : ¬ 0 < wZ T.2 a b p := by have := (w3_lt0 ok a b p).mp z; omega
        rw [z2, decide_eq_false z3, if_neg (show ¬ false = true by decide), if_neg (show ¬ false = true by decide)] at ih
        rw [if_pos z, if_pos (ew.mpr z3)]; exact ih
      · have z2 : c3 T.2 a b p = true := by unfold c3; rw [decide_eq_false z]; rfl
        rw [z2, if_pos rfl] at ih
        rw [if_neg z]
        by_cases z3 : 0 < wZ T.2 a b p
        · rw [decide_eq_true z3, if_pos rfl] at ih
          rw [if_neg (fun y => ew.mp y z3)]; exact ih
        · rw [decide_eq_false z3, if_neg (show ¬ false = true by decide)] at ih
          rw [if_pos (ew.mpr z3)]; exact ih
theorem isLaid_c {v p : Nat} (hv : v < 128) (hp : p < 7) : X0_isLaid (nI p) (nI v) = some (b2 (v.testBit p)) := by
  unfold X0_isLaid
  rw [hasBit_c hv hp, gz_b2]
def bv (e : Nat → Nat) (n a b lo p q : Nat) : Int32 := if jn e n a b lo p q = true then nI (bd e a b p q) else 0
abbrev DrR : Type := Option (Int32 × Int32 × Int32 × Int32 × (Nat → Int32) × (Nat → Int32) × Int64 × Int64 × Int64)
theorem bond_p {T : Tab} {pl : Int32} {sq : Nat → Int32} (ok : okT T) (hc : cT T pl sq) {a b lo : Nat} (ha : a < T.1) (hb : b < T.1) {x3 : Int32} (hlo : ∀ p, p < 7 → ∀ q, q < 7 → p ≠ q → (X10_pairOf (nI p) (nI q) = x3 ↔ pr p q = lo)) (k114 : Int32 → Int32 → Int32 → Int32 → Int32 → Int32 → Int32 → Int32 → (Nat → Int32) → (Nat → Int32) → Int64 → Int64 → Int64 → DrR) (gg go gs : Int32) (S : Nat → Int32) {q : Nat} (hq : q < 7) : ∀ (m p f : Nat) (B : Nat → Int32) (y1 y2 y3 : Int64), p + m = 7 → m + 1 ≤ f → (∀ p' q', p' < 7 → q' < 7 → (q' < q ∨ (q' = q ∧ p' < p)) → B (p' * 7 + q') = bv T.2 T.1 a b lo p' q') → ∃ B' z1 z2 z3, X0_draw_L19 sq k114 f (nI a) (nI b) x3 (nI q) (nI p) gg (nI (ms (lai T.2 T.1 a b) T.1)) go gs B S y1 y2 y3 = k114 (nI a) (nI b) x3 (nI q) gg (nI (ms (lai T.2 T.1 a b) T.1)) go gs B' S z1 z2 z3 ∧ ∀ p' q', p' < 7 → q' < 7 → q' < q + 1 → B' (p' * 7 + q') = bv T.2 T.1 a b lo p' q'
  | 0, p, f + 1, B, y1, y2, y3, hp, _, hB => by
    refine ⟨B, y1, y2, y3, ?_, fun p' q' h1 h2 h3 => hB p' q' h1 h2 (by omega)⟩
    show X0_draw_B19 _ _ _ _ _ _ _ _ _ _ _ _ _ _ _ _ _ = _
    unfold X0_draw_B19
    rw [if_pos (show (7 : Int32) ≤ nI p from nI_le (a := 7) (by omega) (by omega))]
  | m + 1, p, f + 1, B, y1, y2, y3, hp, hf, hB => by
    have h7 := ok.2.1
    have m8 := ms_128 (f := lai T.2 T.1 a b) h7
    have p7 : p < 7 := by omega
    have ei : nI p * 7 + nI q = nI (p * 7 + q) := by
      rw [show nI p * 7 = nI (p * 7) from nI_mul p 7, nI_add]
    have fin : ∀ (v : Int32) (y1 y2 y3 : Int64), v = bv T.2 T.1 a b lo p q → ∃ B' z1 z2 z3, X0_draw_J107 (X0_draw_L19 sq k114 f) k114 (nI a) (nI b) x3 (nI q) (nI p) (nI p * 7 + nI q) v gg (nI (ms (lai T.2 T.1 a b) T.1)) go gs B S y1 y2 y3 = k114 (nI a) (nI b) x3 (nI q) gg (nI (ms (lai T.2 T.1 a b) T.1)) go gs B' S z1 z2 z3 ∧ ∀ p' q', p' < 7 → q' < 7 → q' < q + 1 → B' (p' * 7 + q') = bv T.2 T.1 a b lo p' q' := fun v y1 y2 y3 hv => by
      unfold X0_draw_J107 lat
      rw [ei, gd_in (by omega) (by decide), nI_clamp (by omega), nI_1]
      refine bond_p ok hc ha hb hlo k114 gg go gs S hq m (p + 1) f _ y1 y2 y3 (by omega) (by omega) (fun p' q' h1 h2 h3 => ?_)
      unfold upd
      by_cases z : p' * 7 + q' = p * 7 + q
      · have z1 : p' = p := by omega
        have z2 : q' = q := by omega
        rw [if_pos z, z1, z2, hv]
      · rw [if_neg z]; exact hB p' q' h1 h2 (by omega)
    have no : jn T.2 T.1 a b lo p q = false → ∃ B' z1 z2 z3, X0_draw_J73 sq (X0_draw_L19 sq k114 f) k114 (nI a) (nI b) x3 (nI q) (nI p) gg (nI (ms (lai T.2 T.1 a b) T.1)) go gs B S y1 y2 y3 = k114 (nI a) (nI b) x3 (nI q) gg (nI (ms (lai T.2 T.1 a b) T.1)) go gs B' S z1 z2 z3 ∧ ∀ p' q', p' < 7 → q' < 7 → q' < q + 1 → B' (p' * 7 + q') = bv T.2 T.1 a b lo p' q' := fun hj => by
      unfold X0_draw_J73 X0_draw_J74
      rw [if_pos rfl]
      exact fin 0 y1 y2 y3 (by unfold bv; rw [hj]; rfl)
    show ∃ B' z1 z2 z3, X0_draw_B19 _ _ _ _ _ _ _ _ _ _ _ _ _ _ _ _ _ = _ ∧ _
    unfold X0_draw_B19
    rw [if_neg (show ¬ (7 : Int32) ≤ nI p from nI_ge (b := 7) (by omega) (by decide)), square_c hc p7 hq, bs, isLaid_c m8 p7, bs, isLaid_c m8 hq, bs, lai_bit, lai_bit]
    have l0 := le0_c ok p q
    cases h3 : t2 T.2 p q with
    | false => rw [if_pos (l0.mpr h3)]; exact no (by unfold jn; rw [h3]; rfl)
    | true =>
      have pq : p ≠ q := fun z => by
        subst z
        unfold t2 at h3
        rw [tv_self, decide_eq_true_eq] at h3
        omega
      rw [if_neg (fun y => by rw [l0.mp y] at h3; exact absurd h3 (by decide))]
      cases h1 : lai T.2 T.1 a b p with
      | false => rw [ifb_f]; exact no (by unfold jn; rw [h3, h1]; rfl)
      | true =>
        rw [ifb_t]
        cases h2 : lai T.2 T.1 a b q with
        | false => rw [ifb_f]; exact no (by unfold jn; rw [h3, h1, h2]; rfl)
        | true =>
          rw [ifb_t]
          have hl := hlo p p7 q hq pq
          by_cases z : pr p q = lo
          · rw [if_pos (hl.mpr z)]; exact no (by unfold jn; rw [h3, h1, h2, decide_eq_true z]; rfl)
          · rw [if_neg (fun y => z (hl.mp y))]
            unfold X0_draw_J74
            obtain ⟨w1, w2, w3', hb'⟩ := bondOf_c ok hc (show a < 7 by omega) (show b < 7 by omega) p7 hq y1 y2 y3
            rw [if_neg (by decide), hb', bs]
            exact fin _ _ _ _ (by unfold bv jn; rw [h3, h1, h2, decide_eq_false z]; rfl)
theorem bond_q {T : Tab} {pl : Int32} {sq : Nat → Int32} (ok : okT T) (hc : cT T pl sq) {a b lo : Nat} (ha : a < T.1) (hb : b < T.1) {x3 : Int32} (hlo : ∀ p, p < 7 → ∀ q, q < 7 → p ≠ q → (X10_pairOf (nI p) (nI q) = x3 ↔ pr p q = lo)) (k120 : Int32 → Int32 → Int32 → Int32 → (Nat → Int32) → (Nat → Int32) → Int64 → Int64 → Int64 → DrR) (gg go gs : Int32) (S : Nat → Int32) : ∀ (m q f : Nat) (B : Nat → Int32) (y1 y2 y3 : Int64), q + m = 7 → m + 1 ≤ f → (∀ p' q', p' < 7 → q' < 7 → q' < q → B (p' * 7 + q') = bv T.2 T.1 a b lo p' q') → ∃ B' z1 z2 z3, X0_draw_L9 sq k120 f (nI a) (nI b) x3 (nI q) gg (nI (ms (lai T.2 T.1 a b) T.1)) go gs B S y1 y2 y3 = k120 gg (nI (ms (lai T.2 T.1 a b) T.1)) go gs B' S z1 z2 z3 ∧ ∀ p' q', p' < 7 → q' < 7 → B' (p' * 7 + q') = bv T.2 T.1 a b lo p' q'
  | 0, q, f + 1, B, y1, y2, y3, hp, _, hB => by
    refine ⟨B, y1, y2, y3, ?_, fun p' q' h1 h2 => hB p' q' h1 h2 (by omega)⟩
    show X0_draw_B9 _ _ _ _ _ _ _ _ _ _ _ _ _ _ _ _ = _
    unfold X0_draw_B9
    rw [if_pos (show (7 : Int32) ≤ nI q from nI_le (a := 7) (by omega) (by omega))]
  | m + 1, q, f + 1, B, y1, y2, y3, hp, hf, hB => by
    obtain ⟨B1, w1, w2, w3', i1, i2⟩ := bond_p ok hc ha hb hlo (X0_draw_J114 (X0_draw_L9 sq k120 f) k120) gg go gs S (show q < 7 by omega) 7 0 1000 B y1 y2 y3 (by omega) (by omega) (fun p' q' h1 h2 h3 => hB p' q' h1 h2 (by omega))
    obtain ⟨B', z1, z2, z3, j1, j2⟩ := bond_q ok hc ha hb hlo k120 gg go gs S m (q + 1) f B1 w1 w2 w3' (by omega) (by omega) i2
    refine ⟨B', z1, z2, z3, ?_, j2⟩
    rw [← j1]
    show X0_draw_B9 _ _ _ _ _ _ _ _ _ _ _ _ _ _ _ _ = _
    unfold X0_draw_B9
    rw [if_neg (show ¬ (7 : Int32) ≤ nI q from nI_ge (b := 7) (by omega) (by decide))]
    have i1' : X0_draw_L19 sq (X0_draw_J114 (X0_draw_L9 sq k120 f) k120) 1000 (nI a) (nI b) x3 (nI q) 0 gg (nI (ms (lai T.2 T.1 a b) T.1)) go gs B S y1 y2 y3 = _ := i1
    rw [i1']
    unfold X0_draw_J114 lat
    rw [nI_1]
-- the sides spread
def VR (o : Nat → Bool) (J : Nat → Nat → Bool) (R : Nat → Nat → Nat) (g v : Nat → Nat) : Prop := VS o J R v ∧ ∀ p, o p = true → g p = p → v p = 1
def CI (o : Nat → Bool) (J : Nat → Nat → Bool) (R : Nat → Nat → Nat) (g : Nat → Nat) (cur : Nat) (c : Nat → Nat) : Prop := (∀ v, o v = false → c v = 0) ∧ (∀ v, c v ≤ 2) ∧ (∀ v, c v ≠ 0 → g v < cur) ∧ ∀ w, VR o J R g w → ∀ v, c v ≠ 0 → c v = w v
def clo (o : Nat → Bool) (J : Nat → Nat → Bool) (c : Nat → Nat) : Prop := ∀ p q, edg o J p q → c p ≠ 0 → c q ≠ 0
def ext (c c' : Nat → Nat) : Prop := ∀ v, c v ≠ 0 → c' v = c v
def nv (c : Nat → Nat) : Nat := sm (fun v => if c v = 0 then 0 else 1) 7
theorem nv_7 (c : Nat → Nat) : nv c ≤ 7 := by
  have : ∀ n, sm (fun v => if c v = 0 then 0 else 1) n ≤ n := fun n => by
    induction n with
    | zero => exact Nat.le_refl 0
    | succ n ih =>
      show sm (fun v => if c v = 0 then 0 else 1) n + (if c n = 0 then 0 else 1) ≤ n + 1
      split <;> omega
  exact this 7
theorem nv_up {c : Nat → Nat} {q v : Nat} (hq : q < 7) (h : c q = 0) (hv : v ≠ 0) : nv (up c q v) = nv c + 1 := by
  unfold nv
  rw [sm_add1 (f := fun v => if c v = 0 then 0 else 1) (k := q) (fun j => ?_) 7, if_pos hq]
  by_cases z : j = q
  · subst z
    rw [if_pos rfl]
    show (if (if j = j then v else c j) = 0 then 0 else 1) = (if c j = 0 then 0 else 1) + 1
    rw [if_pos rfl, if_neg hv, if_pos h]
  · rw [if_neg z]
    show (if (if j = q then v else c j) = 0 then 0 else 1) = _
    rw [if_neg z]
theorem ext_up {c : Nat → Nat} {q v : Nat} (h : c q = 0) : ext c (up c q v) := fun x hx => if_neg (fun z => hx (by rw [z]; exact h))
theorem ext_t {c c1 c2 : Nat → Nat} (h1 : ext c c1) (h2 : ext c1 c2) : ext c c2 := fun v hv => by
  have e1 := h1 v hv
  rw [← e1]; exact h2 v (by rw [e1]; exact hv)
theorem CI_go {o : Nat → Bool} {J : Nat → Nat → Bool} {R : Nat → Nat → Nat} {g : Nat → Nat} (gE : ∀ p q, edg o J p q → g p = g q) {cur : Nat} {c : Nat → Nat} (h : CI o J R g cur c) {p q : Nat} (hE : edg o J p q) (hp : c p ≠ 0) : CI o J R g cur (up c q (fl (R p q) (c p))) := by
  obtain ⟨h1, h2, h3, h4⟩ := h
  have p2 := h2 p
  refine ⟨fun v hv => ?_, fun v => ?_, fun v hv => ?_, fun w hw v hv => ?_⟩
  · have z : v ≠ q := fun y => by subst y; rw [hE.2.1] at hv; exact absurd hv (by decide)
    rw [show up c q (fl (R p q) (c p)) v = c v from if_neg z]; exact h1 v hv
  · show (if v = q then fl (R p q) (c p) else c v) ≤ 2
    split
    · unfold fl; split <;> omega
    · exact h2 v
  · by_cases z : v = q
    · subst z; rw [← gE p v hE]; exact h3 p hp
    · rw [show up c q (fl (R p q) (c p)) v = c v from if_neg z] at hv; exact h3 v hv
  · by_cases z : v = q
    · subst z
      rw [show up c v (fl (R p v) (c p)) v = fl (R p v) (c p) from if_pos rfl, h4 w hw p hp]
      exact (hw.1.2 p v hE).symm
    · rw [show up c q (fl (R p q) (c p)) v = c v from if_neg z] at hv ⊢; exact h4 w hw v hv
def Bnd (J : Nat → Nat → Bool) (R : Nat → Nat → Nat) (B : Nat → Int32) : Prop := ∀ p q, p < 7 → q < 7 → B (p * 7 + q) = if J p q = true then nI (R p q) else 0
theorem spr_q {o : Nat → Bool} {J : Nat → Nat → Bool} {R : Nat → Nat → Nat} {g : Nat → Nat} (gE : ∀ p q, edg o J p q → g p = g q) (oR : ∀ p q, 1 ≤ R p q ∧ R p q ≤ 4) {om : Nat} (m8 : om < 128) (ho : ∀ p, p < 7 → om.testBit p = o p) (o7 : ∀ p, o p = true → p < 7) {B : Nat → Int32} (hB : Bnd J R B) {cur : Nat} (k106 : Int32 → Int32 → (Nat → Int32) → Option (Nat → Int32)) (x1 : Int32) {p : Nat} (hp : p < 7) : ∀ (m q f : Nat) (c : Nat → Nat) (S : Nat → Int32), q + m = 7 → m + 1 ≤ f → CI o J R g cur c → eS 7 c S → ∃ c' S', X0_spreadSides_L18 (nI om) B k106 f x1 (nI p) (nI q) S = k106 x1 (nI p) S' ∧ CI o J R g cur c' ∧ eS 7 c' S' ∧ ext c c' ∧ (c' = c ∨ nv c < nv c') ∧ (c' = c → ∀ q', q ≤ q' → edg o J p q' → c p ≠ 0 → c q' ≠ 0) ∧ (clo o J c → c' = c)
  | 0, q, f + 1, c, S, hq, _, hC, hS => by
    refine ⟨c, S, ?_, hC, hS, fun v hv => rfl, Or.inl rfl, fun _ q' h1 h2 => ?_, fun _ => rfl⟩
    · show X0_spreadSides_B18 _ _ _ _ _ _ _ _ = _
      unfold X0_spreadSides_B18
      rw [if_pos (show (7 : Int32) ≤ nI q from nI_le (a := 7) (by omega) (by omega))]
    · have := o7 q' h2.2.1; omega
  | m + 1, q, f + 1, c, S, hq, hf, hC, hS => by
    have q7 : q < 7 := by omega
    have ei : nI p * 7 + nI q = nI (p * 7 + q) := by
      rw [show nI p * 7 = nI (p * 7) from nI_mul p 7, nI_add]
    have skip : (edg o J p q → c p ≠ 0 → c q ≠ 0) → ∃ c' S', X0_spreadSides_J100 (X0_spreadSides_L18 (nI om) B k106 f) k106 x1 (nI p) (nI q) S = k106 x1 (nI p) S' ∧ CI o J R g cur c' ∧ eS 7 c' S' ∧ ext c c' ∧ (c' = c ∨ nv c < nv c') ∧ (c' = c → ∀ q', q ≤ q' → edg o J p q' → c p ≠ 0 → c q' ≠ 0) ∧ (clo o J c → c' = c) := fun hno => by
      obtain ⟨c', S', i1, i2, i3, i4, i5, i6, i7⟩ := spr_q gE oR m8 ho o7 hB k106 x1 hp m (q + 1) f c S (by omega) (by omega) hC hS
      refine ⟨c', S', ?_, i2, i3, i4, i5, fun h q' h1 h2 h3 => ?_, i7⟩
      · unfold X0_spreadSides_J100 lat; rw [nI_1]; exact i1
      · rcases (show q' = q ∨ q + 1 ≤ q' by omega) with rfl | y
        · exact hno h2 h3
        · exact i6 h q' y h2 h3
    have c2 := hC.2.1 p
    have c2q := hC.2.1 q
    have ec : (nI (c p) = 0) ↔ c p = 0 := nI_eq (b := 0) (by omega) (by omega)
    have ecq : (nI (c q) = 0) ↔ c q = 0 := nI_eq (b := 0) (by omega) (by omega)
    show ∃ c' S', X0_spreadSides_B18 _ _ _ _ _ _ _ _ = _ ∧ _
    unfold X0_spreadSides_B18 lat
    dsimp only
    rw [if_neg (show ¬ (7 : Int32) ≤ nI q from nI_ge (b := 7) (by omega) (by decide)), ei, gd_in (by omega) (by decide), gd_in (by omega) (by decide), gd_in (by omega) (by decide), nI_clamp (by omega), nI_clamp (by omega), nI_clamp (by omega), hB p q hp q7, hS p hp, hS q q7, hasBit_c m8 q7, ho q q7]
    cases hj : J p q with
    | false =>
      rw [if_neg (show ¬ false = true by decide), if_pos rfl]
      exact skip (fun h => by rw [h.2.2] at hj; exact absurd hj (by decide))
    | true =>
      have rr := oR p q
      rw [if_pos rfl, if_neg (nI_ne0 (by omega) (by omega))]
      by_cases z1 : c p = 0
      · rw [if_pos (ec.mpr z1)]
        exact skip (fun _ h => absurd z1 h)
      · rw [if_neg (fun y => z1 (ec.mp y))]
        by_cases z2 : c q = 0
        · rw [if_pos (ecq.mpr z2)]
          cases hoq : o q with
          | false =>
            rw [ifb_f]
            exact skip (fun h => by rw [h.2.1] at hoq; exact absurd hoq (by decide))
          | true =>
            rw [ifb_t]
            have hop : o p = true := by
              cases y : o p with
              | true => rfl
              | false => exact absurd (hC.1 p y) z1
            have hE : edg o J p q := ⟨hop, hoq, hj⟩
            have hC2 := CI_go gE hC hE z1
            have hS2 := eS_up hS q (fl (R p q) (c p))
            have fn : fl (R p q) (c p) ≠ 0 := by unfold fl; split <;> omega
            have hnv := nv_up (v := fl (R p q) (c p)) q7 z2 fn
            obtain ⟨c', S', i1, i2, i3, i4, i5, i6, i7⟩ := spr_q gE oR m8 ho o7 hB k106 x1 hp m (q + 1) f _ _ (by omega) (by omega) hC2 hS2
            have nlt : nv c < nv c' := by
              rcases i5 with y | y
              · rw [y]; omega
              · omega
            refine ⟨c', S', ?_, i2, i3, ext_t (ext_up z2) i4, Or.inr nlt, fun y => absurd nlt (by rw [y]; omega), fun hcl => absurd z2 (hcl p q hE z1)⟩
            rw [← i1]
            unfold X0_spreadSides_J99 X0_spreadSides_J100 lat
            dsimp only
            rw [gd_in (by omega) (by decide), gd_in (by omega) (by decide), nI_clamp (by omega), nI_1]
            have e3 : (nI (R p q) = 3) ↔ R p q = 3 := nI_eq (b := 3) (by omega) (by omega)
            unfold fl
            by_cases z3 : R p q = 3
            · rw [if_pos (e3.mpr z3), if_pos z3, show (3 : Int32) - nI (c p) = nI (3 - c p) from nI_sub' (a := 3) (by omega)]
            · rw [if_neg (fun y => z3 (e3.mp y)), if_neg z3]
        · rw [if_neg (fun y => z2 (ecq.mp y))]
          exact skip (fun _ _ => z2)
theorem spr_p {o : Nat → Bool} {J : Nat → Nat → Bool} {R : Nat → Nat → Nat} {g : Nat → Nat} (gE : ∀ p q, edg o J p q → g p = g q) (oR : ∀ p q, 1 ≤ R p q ∧ R p q ≤ 4) {om : Nat} (m8 : om < 128) (ho : ∀ p, p < 7 → om.testBit p = o p) (o7 : ∀ p, o p = true → p < 7) {B : Nat → Int32} (hB : Bnd J R B) {cur : Nat} (k112 : Int32 → (Nat → Int32) → Option (Nat → Int32)) (x1 : Int32) : ∀ (m p f : Nat) (c : Nat → Nat) (S : Nat → Int32), p + m = 7 → m + 1 ≤ f → CI o J R g cur c → eS 7 c S → ∃ c' S', X0_spreadSides_L10 (nI om) B k112 f x1 (nI p) S = k112 x1 S' ∧ CI o J R g cur c' ∧ eS 7 c' S' ∧ ext c c' ∧ (c' = c ∨ nv c < nv c') ∧ (c' = c → ∀ p' q', p ≤ p' → edg o J p' q' → c p' ≠ 0 → c q' ≠ 0) ∧ (clo o J c → c' = c)
  | 0, p, f + 1, c, S, hq, _, hC, hS => by
    refine ⟨c, S, ?_, hC, hS, fun v hv => rfl, Or.inl rfl, fun _ p' q' h1 h2 => ?_, fun _ => rfl⟩
    · show X0_spreadSides_B10 _ _ _ _ _ _ _ = _
      unfold X0_spreadSides_B10
      rw [if_pos (show (7 : Int32) ≤ nI p from nI_le (a := 7) (by omega) (by omega))]
    · have := o7 p' h2.1; omega
  | m + 1, p, f + 1, c, S, hq, hf, hC, hS => by
    obtain ⟨c1, S1, i1, i2, i3, i4, i5, i6, i7⟩ := spr_q gE oR m8 ho o7 hB (X0_spreadSides_J106 (X0_spreadSides_L10 (nI om) B k112 f) k112) x1 (show p < 7 by omega) 7 0 1000 c S (by omega) (by omega) hC hS
    obtain ⟨c', S', j1, j2, j3, j4, j5, j6, j7⟩ := spr_p gE oR m8 ho o7 hB k112 x1 m (p + 1) f c1 S1 (by omega) (by omega) i2 i3
    refine ⟨c', S', ?_, j2, j3, ext_t i4 j4, ?_, fun h p' q' h1 h2 h3 => ?_, fun h => ?_⟩
    · rw [← j1]
      show X0_spreadSides_B10 _ _ _ _ _ _ _ = _
      unfold X0_spreadSides_B10
      rw [if_neg (show ¬ (7 : Int32) ≤ nI p from nI_ge (b := 7) (by omega) (by decide))]
      have i1' : X0_spreadSides_L18 (nI om) B (X0_spreadSides_J106 (X0_spreadSides_L10 (nI om) B k112 f) k112) 1000 x1 (nI p) 0 S = _ := i1
      rw [i1']
      unfold X0_spreadSides_J106 lat
      rw [nI_1]
    · rcases i5 with y | y
      · rw [← y]; exact j5
      · rcases j5 with w | w
        · rw [w]; exact Or.inr y
        · exact Or.inr (by omega)
    · have e1 : c1 = c := by
        rcases i5 with y | y
        · exact y
        · rcases j5 with w | w
          · rw [← w, h]
          · rw [h] at w; omega
      rw [e1] at j6
      rcases (show p' = p ∨ p + 1 ≤ p' by omega) with rfl | y
      · exact i6 e1 q' (Nat.zero_le _) h2 h3
      · exact j6 h p' q' y h2 h3
    · have e1 := i7 h
      rw [e1] at j7
      exact j7 h
theorem spr_t {o : Nat → Bool} {J : Nat → Nat → Bool} {R : Nat → Nat → Nat} {g : Nat → Nat} (gE : ∀ p q, edg o J p q → g p = g q) (oR : ∀ p q, 1 ≤ R p q ∧ R p q ≤ 4) {om : Nat} (m8 : om < 128) (ho : ∀ p, p < 7 → om.testBit p = o p) (o7 : ∀ p, o p = true → p < 7) {B : Nat → Int32} (hB : Bnd J R B) {cur : Nat} : ∀ (m t f : Nat) (c : Nat → Nat) (S : Nat → Int32), t + m = 7 → m + 1 ≤ f → CI o J R g cur c → eS 7 c S → (clo o J c ∨ t + 1 ≤ nv c) → ∃ c' S', X0_spreadSides_L2 (nI om) B f (nI t) S = some S' ∧ CI o J R g cur c' ∧ eS 7 c' S' ∧ ext c c' ∧ clo o J c'
  | 0, t, f + 1, c, S, hq, _, hC, hS, hT => by
    refine ⟨c, S, ?_, hC, hS, fun v hv => rfl, ?_⟩
    · show X0_spreadSides_B2 _ _ _ _ _ = _
      unfold X0_spreadSides_B2
      rw [if_pos (show (7 : Int32) ≤ nI t from nI_le (a := 7) (by omega) (by omega))]
    · rcases hT with y | y
      · exact y
      · have := nv_7 c; omega
  | m + 1, t, f + 1, c, S, hq, hf, hC, hS, hT => by
    obtain ⟨c1, S1, i1, i2, i3, i4, i5, i6, i7⟩ := spr_p gE oR m8 ho o7 hB (X0_spreadSides_J112 (X0_spreadSides_L2 (nI om) B f)) (nI t) 7 0 1000 c S (by omega) (by omega) hC hS
    have hT2 : clo o J c1 ∨ t + 1 + 1 ≤ nv c1 := by
      rcases i5 with y | y
      · left
        have := i6 y
        rw [y]
        exact fun p q => this p q (Nat.zero_le _)
      · rcases hT with w | w
        · left; rw [i7 w]; exact w
        · right; omega
    obtain ⟨c', S', j1, j2, j3, j4, j5⟩ := spr_t gE oR m8 ho o7 hB m (t + 1) f c1 S1 (by omega) (by omega) i2 i3 hT2
    refine ⟨c', S', ?_, j2, j3, ext_t i4 j4, j5⟩
    rw [← j1]
    show X0_spreadSides_B2 _ _ _ _ _ = _
    unfold X0_spreadSides_B2
    rw [if_neg (show ¬ (7 : Int32) ≤ nI t from nI_ge (b := 7) (by omega) (by decide))]
    have i1' : X0_spreadSides_L10 (nI om) B (X0_spreadSides_J112 (X0_spreadSides_L2 (nI om) B f)) 1000 (nI t) 0 S = _ := i1
    rw [i1']
    unfold X0_spreadSides_J112 lat
    rw [nI_1]
