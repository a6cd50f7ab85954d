/-! drawings: numbers, the graph, the reference's groups -/
theorem zz_symm (e : Nat → Nat) (a b : Nat) : zz e a b = zz e b a := by unfold zz; rw [tv_symm]
def gZ (e : Nat → Nat) (a b p q : Nat) : Int := nZ e p q a b - 2 * zz e a b * zz e p q
/-- 1 never, 2 same, 3 other, 4 either -/
def bd (e : Nat → Nat) (a b p q : Nat) : Nat := if gZ e a b p q * gZ e a b p q = mZ e p q a b then (if gZ e a b p q = 0 then 4 else if gZ e a b p q ≤ 0 then 3 else 2) else 1
theorem gZ_symm (e : Nat → Nat) (a b p q : Nat) : gZ e a b p q = gZ e a b q p := by
  unfold gZ nZ
  rw [zz_symm e p q]
  grind
theorem mZ_symm (e : Nat → Nat) (a b p q : Nat) : mZ e p q a b = mZ e q p a b := by
  unfold mZ; rw [Int.mul_comm]
theorem bd_symm (e : Nat → Nat) (a b p q : Nat) : bd e a b p q = bd e a b q p := by
  unfold bd; rw [gZ_symm, mZ_symm]
theorem bd_b (e : Nat → Nat) (a b p q : Nat) : 1 ≤ bd e a b p q ∧ bd e a b p q ≤ 4 := by
  unfold bd; split
  · split
    · omega
    · split <;> omega
  · omega
theorem gZ_b {T : Tab} (ok : okT T) (a b p q : Nat) : -2 ^ 30 < gZ T.2 a b p q ∧ gZ T.2 a b p q < 2 ^ 30 := by
  have h1 := zz_b ok a b; have h2 := zz_b ok a p; have h3 := zz_b ok a q; have h4 := zz_b ok p q
  have d1 := dZ_b ok a b p; have d2 := dZ_b ok a b q
  have p1 := mul_b (x := 2 * zz T.2 a b) (y := zz T.2 a p + zz T.2 a q) (A := 19998) (B := 19998) (by omega) (by omega)
  have p2 := mul_b d1 d2
  have p3 := mul_b (x := 2 * zz T.2 a b) (y := zz T.2 p q) (A := 19998) (B := 9999) (by omega) (by omega)
  have p4 : 0 ≤ 2 * zz T.2 a b * (zz T.2 a p + zz T.2 a q) := Int.mul_nonneg (by omega) (by omega)
  have p5 : 0 ≤ 2 * zz T.2 a b * zz T.2 p q := Int.mul_nonneg (by omega) (by omega)
  unfold gZ nZ
  omega
theorem mZ_b {T : Tab} (ok : okT T) (a b p q : Nat) : -2 ^ 60 < mZ T.2 p q a b ∧ mZ T.2 p q a b < 2 ^ 60 := by
  have p1 := mul_b (wZ_b ok a b p) (wZ_b ok a b q)
  unfold mZ; omega
theorem gg_b {x : Int} (h : -2 ^ 30 < x ∧ x < 2 ^ 30) : -2 ^ 60 ≤ x * x ∧ x * x ≤ 2 ^ 60 := by
  have p1 := mul_b (x := x) (y := x) (A := 2 ^ 30) (B := 2 ^ 30) (by omega) (by omega)
  omega
theorem bondOf_c {T : Tab} {pl : Int32} {sq : Nat → Int32} (ok : okT T) (h : cT T pl sq) {a b p q : Nat} (ha : a < 7) (hb : b < 7) (hp : p < 7) (hq : q < 7) (g1 g2 g3 : Int64) : ∃ y1 y2 y3, X0_bondOf (nI p) (nI q) (nI a) (nI b) g1 g2 g3 sq = some (nI (bd T.2 a b p q), y1, y2, y3) := by
  refine ⟨fI (2 * zz T.2 a b), fI (nZ T.2 p q a b), fI (mZ T.2 p q a b), ?_⟩
  unfold X0_bondOf lat
  rw [take_c ok h hp hq ha hb, bs, square_c h hp hq, bs, toI64 ok, q6_fI]
  dsimp only
  rw [fI_mul, fI_sub, fI_mul]
  have e1 : nZ T.2 p q a b - 2 * zz T.2 a b * zz T.2 p q = gZ T.2 a b p q := rfl
  rw [e1]
  have b1 := gZ_b ok a b p q
  have b2' := mZ_b ok a b p q
  have b3 := gg_b b1
  have c1 := fI_eq (x := gZ T.2 a b p q * gZ T.2 a b p q) (y := mZ T.2 p q a b) (by omega) (by omega) (by omega) (by omega)
  have c2 : (fI (gZ T.2 a b p q) = 0) ↔ gZ T.2 a b p q = 0 := by rw [← fI_0, fI_eq (by omega) (by omega) (by omega) (by omega)]
  have c3 : (fI (gZ T.2 a b p q) ≤ 0) ↔ gZ T.2 a b p q ≤ 0 := by rw [← fI_0, fI_le (by omega) (by omega) (by omega) (by omega)]
  simp only [c1, c2, c3]
  unfold bd
  split
  · split
    · rfl
    · split <;> rfl
  · rfl
def rl (r : Nat) : Int32 := if r = 1 then 2 else if r = 2 then 1 else if r = 3 then -1 else 0
theorem relation_m {T : Tab} {st : Nat → Int32} (ok : okT T) (h : ∀ k, k < 21 → st k = nI (T.2 k)) {a b p q : Nat} (ha : a < 7) (hb : b < 7) (hp : p < 7) (hq : q < 7) : X11_relation (nI a) (nI b) (nI p) (nI q) st = some (rl (bd T.2 a b p q)) := by
  unfold X11_relation lat
  dsimp only
  rw [sq_m ok h ha hb, bs, sq_m ok h hp hq, bs, across_m ok h hp hq ha hb, bs, under_m ok h hp hq ha hb, bs, q6_fI, q6_fI, show (2 : Int64) = fI 2 from rfl]
  rw [fI_mul, fI_mul, fI_sub, fI_mul]
  have e1 : 2 * zz T.2 a b * zz T.2 p q - nZ T.2 p q a b = -gZ T.2 a b p q := by unfold gZ; omega
  rw [e1]
  have b1 := gZ_b ok a b p q
  have b2' := mZ_b ok a b p q
  have b3 := gg_b b1
  have e2 : -gZ T.2 a b p q * -gZ T.2 a b p q = gZ T.2 a b p q * gZ T.2 a b p q := Int.neg_mul_neg _ _
  rw [e2]
  have c1 := fI_eq (x := gZ T.2 a b p q * gZ T.2 a b p q) (y := mZ T.2 p q a b) (by omega) (by omega) (by omega) (by omega)
  rw [signOf_fI (by omega) (by omega)]
  simp only [c1]
  unfold bd sgZ
  by_cases z1 : gZ T.2 a b p q * gZ T.2 a b p q = mZ T.2 p q a b
  · rw [if_pos z1, if_pos z1]
    by_cases z2 : gZ T.2 a b p q = 0
    · rw [if_pos z2, z2]; rfl
    · rw [if_neg z2]
      by_cases z3 : gZ T.2 a b p q ≤ 0
      · rw [if_pos z3, if_neg (by omega)]; rfl
      · rw [if_neg z3, if_pos (by omega), if_neg (by omega)]; rfl
  · rw [if_neg z1, if_neg z1]; rfl
-- who is laid, who is off the line, who is joined
def lai (e : Nat → Nat) (n a b p : Nat) : Bool := decide (p < n) && (t3 e a b p && c3 e a b p)
def off (e : Nat → Nat) (n a b p : Nat) : Bool := decide (p < n) && (t3 e a b p && decide (0 < wZ e a b p))
theorem off_lai {T : Tab} (ok : okT T) {a b p : Nat} (h : off T.2 T.1 a b p = true) : lai T.2 T.1 a b p = true := by
  unfold off at h
  unfold lai
  simp only [Bool.and_eq_true, decide_eq_true_eq] at h ⊢
  exact ⟨h.1, h.2.1, (c3_iff ok a b p).mpr (by omega)⟩
theorem off_n {e : Nat → Nat} {n a b p : Nat} (h : off e n a b p = true) : p < n := by
  unfold off at h
  simp only [Bool.and_eq_true, decide_eq_true_eq] at h
  exact h.1
def jn (e : Nat → Nat) (n a b lo p q : Nat) : Bool := t2 e p q && (lai e n a b p && (lai e n a b q && !(decide (pr p q = lo))))
theorem pr_sy (a b : Nat) : pr a b = pr b a := by
  by_cases h : a = b
  · rw [h]
  · exact pr_symm h
theorem jn_symm (e : Nat → Nat) (n a b lo p q : Nat) : jn e n a b lo p q = jn e n a b lo q p := by
  unfold jn
  rw [t2_symm e p q, pr_sy p q]
  cases t2 e q p <;> cases lai e n a b p <;> cases lai e n a b q <;> rfl
/-- two off the line are never 'either' -/
theorem bd_off {T : Tab} (ok : okT T) {a b p q : Nat} (hp : off T.2 T.1 a b p = true) (hq : off T.2 T.1 a b q = true) : bd T.2 a b p q ≤ 3 := by
  unfold off at hp hq
  simp only [Bool.and_eq_true, decide_eq_true_eq] at hp hq
  have h1 : 0 < mZ T.2 p q a b := Int.mul_pos hp.2.2 hq.2.2
  unfold bd
  split
  · rename_i z
    rw [if_neg (fun y => by rw [y] at z; omega)]
    split <;> omega
  · omega
-- a graph: off the line, joined, how
def edg (o : Nat → Bool) (J : Nat → Nat → Bool) (p q : Nat) : Prop := o p = true ∧ o q = true ∧ J p q = true
def fl (r x : Nat) : Nat := if r = 3 then 3 - x else x
def EI (o : Nat → Bool) (J : Nat → Nat → Bool) (h : Nat → Nat) : Prop := ∀ p q, edg o J p q → h p = h q
def VS (o : Nat → Bool) (J : Nat → Nat → Bool) (R : Nat → Nat → Nat) (v : Nat → Nat) : Prop := (∀ p, o p = true → v p = 1 ∨ v p = 2) ∧ ∀ p q, edg o J p q → v q = fl (R p q) (v p)
def RI (o : Nat → Bool) (J : Nat → Nat → Bool) (R : Nat → Nat → Nat) (g s : Nat → Nat) : Prop := (∀ p, o p = true → g p ≤ p ∧ o (g p) = true ∧ (s p = 1 ∨ s p = 2) ∧ (g p = p → s p = 1) ∧ (∀ h, EI o J h → h p = h (g p)) ∧ ∀ v, VS o J R v → (s p = 1 ↔ v p = v (g p))) ∧ ∀ p, o p = false → s p = 0
theorem RI_go {o : Nat → Bool} {J : Nat → Nat → Bool} {R : Nat → Nat → Nat} {g s : Nat → Nat} (h : RI o J R g s) {p q : Nat} (hE : edg o J p q) (hl : g p < g q) : RI o J R (up g q (g p)) (up s q (fl (R p q) (s p))) := by
  obtain ⟨p1, p2, p3, p4, p5, p6⟩ := h.1 p hE.1
  obtain ⟨q1, q2, q3, q4, q5, q6⟩ := h.1 q hE.2.1
  refine ⟨fun x hx => ?_, fun x hx => ?_⟩
  · by_cases z : x = q
    · subst z
      have e1 : up g x (g p) x = g p := if_pos rfl
      have e2 : up s x (fl (R p x) (s p)) x = fl (R p x) (s p) := if_pos rfl
      rw [e1, e2]
      refine ⟨by omega, p2, ?_, fun y => by omega, fun k hk => ?_, fun v hv => ?_⟩
      · unfold fl; split <;> omega
      · rw [← hk p x hE]; exact p5 k hk
      · have a1 := hv.2 p x hE
        have a2 := hv.1 p hE.1
        have a3 := hv.1 (g p) p2
        have a4 := p6 v hv
        rw [a1]
        unfold fl
        split <;> omega
    · have e1 : up g q (g p) x = g x := if_neg z
      have e2 : up s q (fl (R p q) (s p)) x = s x := if_neg z
      rw [e1, e2]
      exact h.1 x hx
  · have z : x ≠ q := fun y => by subst y; rw [hE.2.1] at hx; exact absurd hx (by decide)
    have e2 : up s q (fl (R p q) (s p)) x = s x := if_neg z
    rw [e2]; exact h.2 x hx
theorem sm_up (g : Nat → Nat) (q v : Nat) : ∀ n, sm (up g q v) n + (if q < n then g q else 0) = sm g n + (if q < n then v else 0)
  | 0 => by rw [if_neg (by omega), if_neg (by omega)]; rfl
  | n + 1 => by
    have ih := sm_up g q v n
    show sm (up g q v) n + up g q v n + _ = sm g n + g n + _
    by_cases z : n = q
    · subst z
      rw [if_neg (by omega), if_neg (by omega)] at ih
      rw [if_pos (by omega), if_pos (by omega), show up g n v n = v from if_pos rfl]
      omega
    · rw [show up g q v n = g n from if_neg z]
      by_cases y : q < n
      · rw [if_pos y, if_pos y] at ih
        rw [if_pos (by omega), if_pos (by omega)]; omega
      · rw [if_neg y, if_neg y] at ih
        rw [if_neg (by omega), if_neg (by omega)]; omega
theorem sm_dn {g : Nat → Nat} {q v n : Nat} (hq : q < n) (hv : v < g q) : sm (up g q v) n < sm g n := by
  have := sm_up g q v n
  rw [if_pos hq, if_pos hq] at this
  omega
def eG (o : Nat → Bool) (n : Nat) (g : Nat → Nat) (G : Nat → Int32) : Prop := ∀ p, p < n → G p = if o p = true then nI (g p) else -4
def eS (n : Nat) (s : Nat → Nat) (S : Nat → Int32) : Prop := ∀ p, p < n → S p = nI (s p)
theorem eS_up {n : Nat} {s : Nat → Nat} {S : Nat → Int32} (h : eS n s S) (q v : Nat) : eS n (up s q v) (upd S q (nI v)) := by
  intro p hp
  unfold up upd
  split
  · rfl
  · exact h p hp
theorem eG_up {o : Nat → Bool} {n : Nat} {g : Nat → Nat} {G : Nat → Int32} (h : eG o n g G) {q : Nat} (ho : o q = true) (v : Nat) : eG o n (up g q v) (upd G q (nI v)) := by
  intro p hp
  unfold up upd
  split
  · rename_i z; rw [z, if_pos ho]
  · exact h p hp
abbrev LgK : Type := Int32 → Int32 → Int32 → Int32 → (Nat → Int32) → (Nat → Int32) → Option ((Nat → Int32) × (Nat → Int32))
theorem nI_n4 {k : Nat} (h : k < 2 ^ 31) : ¬ nI k = -4 := fun z => by have := nI_pos (n := k) h; rw [z] at this; exact this (by decide)
theorem grp_q {T : Tab} {st : Nat → Int32} (ok : okT T) (hm : mst T st) {a b : Nat} (ha : a < T.1) (hb : b < T.1) (k177 : LgK) {p : Nat} (hp : p < T.1) : ∀ (m q f : Nat) (g s : Nat → Nat) (c : Bool) (G S : Nat → Int32), q + m = T.1 → m + 1 ≤ f → RI (off T.2 T.1 a b) (jn T.2 T.1 a b 99) (bd T.2 a b) g s → eG (off T.2 T.1 a b) T.1 g G → eS T.1 s S → ∃ g' s' c' G' S', X11_layGroups_L26 st k177 f (nI a) (nI b) (b2 c) (nI p) (nI q) G S = k177 (nI a) (nI b) (b2 c') (nI p) G' S' ∧ RI (off T.2 T.1 a b) (jn T.2 T.1 a b 99) (bd T.2 a b) g' s' ∧ eG (off T.2 T.1 a b) T.1 g' G' ∧ eS T.1 s' S' ∧ sm g' T.1 ≤ sm g T.1 ∧ (c' = true → c = true ∨ sm g' T.1 < sm g T.1) ∧ (c' = false → c = false ∧ g' = g ∧ ∀ q', q ≤ q' → edg (off T.2 T.1 a b) (jn T.2 T.1 a b 99) p q' → g q' ≤ g p)
  | 0, q, f + 1, g, s, c, G, S, hq, _, hR, hG, hS => by
    have h7 := ok.2.1
    refine ⟨g, s, c, G, S, ?_, hR, hG, hS, Nat.le_refl _, fun h => Or.inl h, fun h => ⟨h, rfl, fun q' h1 h2 => ?_⟩⟩
    · show X11_layGroups_B26 _ _ _ _ _ _ _ _ _ _ = _
      unfold X11_layGroups_B26
      rw [hm.1, if_pos (nI_le (by omega) (by omega))]
    · have := off_n h2.2.1; omega
  | m + 1, q, f + 1, g, s, c, G, S, hq, hf, hR, hG, hS => by
    have h7 := ok.2.1
    have p7 : p < 7 := by omega
    have q7 : q < 7 := by omega
    have skip : ∀ r, (∀ (_ : edg (off T.2 T.1 a b) (jn T.2 T.1 a b 99) p q), g q ≤ g p) → (X11_layGroups_L26 st k177 f (nI a) (nI b) (b2 c) (nI p) (nI (q + 1)) G S = r) → ∃ g' s' c' G' S', r = k177 (nI a) (nI b) (b2 c') (nI p) G' S' ∧ RI (off T.2 T.1 a b) (jn T.2 T.1 a b 99) (bd T.2 a b) g' s' ∧ eG (off T.2 T.1 a b) T.1 g' G' ∧ eS T.1 s' S' ∧ sm g' T.1 ≤ sm g T.1 ∧ (c' = true → c = true ∨ sm g' T.1 < sm g T.1) ∧ (c' = false → c = false ∧ g' = g ∧ ∀ q', q ≤ q' → edg (off T.2 T.1 a b) (jn T.2 T.1 a b 99) p q' → g q' ≤ g p) := fun r hno hr => by
      obtain ⟨g', s', c', G', S', i1, i2, i3, i4, i5, i6, i7⟩ := grp_q ok hm ha hb k177 hp m (q + 1) f g s c G S (by omega) (by omega) hR hG hS
      refine ⟨g', s', c', G', S', by rw [← hr]; exact i1, i2, i3, i4, i5, i6, fun h => ?_⟩
      obtain ⟨j1, j2, j3⟩ := i7 h
      refine ⟨j1, j2, fun q' h1 h2 => ?_⟩
      rcases (show q' = q ∨ q + 1 ≤ q' by omega) with rfl | h3
      · exact hno h2
      · exact j3 q' h3 h2
    have no86 : ∀ again : Int32 → Int32 → Int32 → Int32 → Int32 → (Nat → Int32) → (Nat → Int32) → Option ((Nat → Int32) × (Nat → Int32)), X11_layGroups_J86 st again k177 (nI a) (nI b) (b2 c) (nI p) (nI q) G S = again (nI a) (nI b) (b2 c) (nI p) (nI (q + 1)) G S := fun again => by
      unfold X11_layGroups_J86 X11_layGroups_J87 X11_layGroups_J171 lat
      rw [if_pos rfl, nI_1]
    show ∃ g' s' c' G' S', X11_layGroups_B26 _ _ _ _ _ _ _ _ _ _ = _ ∧ _
    unfold X11_layGroups_B26
    rw [hm.1, if_neg (nI_ge (by omega) (by omega)), gd_in (by omega) (by decide), gd_in (by omega) (by decide), nI_clamp (by omega), nI_clamp (by omega), hG p hp, hG q (by omega), no86, sq_m ok hm.2 p7 q7, bs]
    by_cases z0 : nI p = nI q
    · rw [if_pos z0]
      refine skip _ (fun h => ?_) rfl
      have : p = q := (nI_eq (by omega) (by omega)).mp z0
      subst this
      exact Nat.le_refl _
    rw [if_neg z0]
    cases op : off T.2 T.1 a b p with
    | false =>
      rw [if_neg (show ¬ false = true by decide), if_pos rfl]
      exact skip _ (fun h => by rw [h.1] at op; exact absurd op (by decide)) rfl
    | true =>
      rw [if_pos rfl]
      obtain ⟨r1, r2, r3, -⟩ := hR.1 p op
      rw [if_neg (nI_n4 (by omega))]
      cases oq : off T.2 T.1 a b q with
      | false =>
        rw [if_neg (show ¬ false = true by decide), if_pos rfl]
        exact skip _ (fun h => by rw [h.2.1] at oq; exact absurd oq (by decide)) rfl
      | true =>
        rw [if_pos rfl]
        obtain ⟨r4, r5, r6, -⟩ := hR.1 q oq
        rw [if_neg (nI_n4 (by omega))]
        have ej : jn T.2 T.1 a b 99 p q = t2 T.2 p q := by
          unfold jn
          rw [off_lai ok op, off_lai ok oq, decide_eq_false (by have := pr_lt p p7 q q7 (fun z => z0 (by rw [z])); omega)]
          cases t2 T.2 p q <;> rfl
        have l0 := le0_m ok p q
        by_cases tq : t2 T.2 p q = true
        · rw [if_neg (fun y => by rw [l0.mp y] at tq; exact absurd tq (by decide))]
          unfold X11_layGroups_J87
          rw [if_neg (by decide), gd_in (by omega) (by decide), gd_in (by omega) (by decide), nI_clamp (by omega), nI_clamp (by omega), hG p hp, hG q (by omega), if_pos op, if_pos oq]
          have hE : edg (off T.2 T.1 a b) (jn T.2 T.1 a b 99) p q := ⟨op, oq, by rw [ej]; exact tq⟩
          by_cases z : g q ≤ g p
          · rw [if_pos (nI_le z (by omega))]
            unfold X11_layGroups_J171 lat
            rw [nI_1]
            exact skip _ (fun _ => z) rfl
          · rw [if_neg (nI_ge (by omega) (by omega)), relation_m ok hm.2 (by omega) (by omega) p7 q7, bs]
            unfold X11_layGroups_J168 X11_layGroups_J171 lat
            dsimp only
            rw [gd_in (by omega) (by decide), gd_in (by omega) (by decide), nI_clamp (by omega), hS p hp, nI_1]
            have hR2 := RI_go hR hE (by omega)
            have hG2 := eG_up hG oq (g p)
            have hS2 := eS_up hS q (fl (bd T.2 a b p q) (s p))
            have hsm := sm_dn (g := g) (q := q) (v := g p) (n := T.1) (by omega) (by omega)
            have bb := bd_b T.2 a b p q
            have bo := bd_off ok op oq
            obtain ⟨g', s', c', G', S', i1, i2, i3, i4, i5, i6, i7⟩ := grp_q ok hm ha hb k177 hp m (q + 1) f _ _ true _ _ (by omega) (by omega) hR2 hG2 hS2
            refine ⟨g', s', c', G', S', ?_, i2, i3, i4, by omega, fun _ => Or.inr (by omega), fun h => absurd (i7 h).1 (by decide)⟩
            rw [← i1]
            unfold fl
            by_cases z3 : bd T.2 a b p q = 3
            · rw [if_pos z3, z3, if_pos (show rl 3 = -1 from rfl)]
              rw [show (3 : Int32) - nI (s p) = nI (3 - s p) from nI_sub' (a := 3) (by omega)]
              rfl
            · rw [if_neg z3, if_neg (show ¬ rl (bd T.2 a b p q) = -1 from ?_)]
              · rfl
              · rcases (show bd T.2 a b p q = 1 ∨ bd T.2 a b p q = 2 by omega) with y | y
                · rw [y]; decide
                · rw [y]; decide
        · have tf : t2 T.2 p q = false := by rwa [Bool.not_eq_true] at tq
          rw [if_pos (l0.mpr tf)]
          exact skip _ (fun h => by have := h.2.2; rw [ej, tf] at this; exact absurd this (by decide)) rfl
abbrev LgK3 : Type := Int32 → Int32 → Int32 → (Nat → Int32) → (Nat → Int32) → Option ((Nat → Int32) × (Nat → Int32))
theorem grp_p {T : Tab} {st : Nat → Int32} (ok : okT T) (hm : mst T st) {a b : Nat} (ha : a < T.1) (hb : b < T.1) (k183 : LgK3) : ∀ (m p f : Nat) (g s : Nat → Nat) (c : Bool) (G S : Nat → Int32), p + m = T.1 → m + 1 ≤ f → RI (off T.2 T.1 a b) (jn T.2 T.1 a b 99) (bd T.2 a b) g s → eG (off T.2 T.1 a b) T.1 g G → eS T.1 s S → ∃ g' s' c' G' S', X11_layGroups_L11 st k183 f (nI a) (nI b) (b2 c) (nI p) G S = k183 (nI a) (nI b) (b2 c') G' S' ∧ RI (off T.2 T.1 a b) (jn T.2 T.1 a b 99) (bd T.2 a b) g' s' ∧ eG (off T.2 T.1 a b) T.1 g' G' ∧ eS T.1 s' S' ∧ sm g' T.1 ≤ sm g T.1 ∧ (c' = true → c = true ∨ sm g' T.1 < sm g T.1) ∧ (c' = false → c = false ∧ g' = g ∧ ∀ p' q', p ≤ p' → edg (off T.2 T.1 a b) (jn T.2 T.1 a b 99) p' q' → g q' ≤ g p')
  | 0, p, f + 1, g, s, c, G, S, hq, _, hR, hG, hS => by
    have h7 := ok.2.1
    refine ⟨g, s, c, G, S, ?_, hR, hG, hS, Nat.le_refl _, fun h => Or.inl h, fun h => ⟨h, rfl, fun p' q' h1 h2 => ?_⟩⟩
    · show X11_layGroups_B11 _ _ _ _ _ _ _ _ _ = _
      unfold X11_layGroups_B11
      rw [hm.1, if_pos (nI_le (by omega) (by omega))]
    · have := off_n h2.1; omega
  | m + 1, p, f + 1, g, s, c, G, S, hq, hf, hR, hG, hS => by
    have h7 := ok.2.1
    obtain ⟨g1, s1, c1, G1, S1, i1, i2, i3, i4, i5, i6, i7⟩ := grp_q ok hm ha hb (X11_layGroups_J177 (X11_layGroups_L11 st k183 f) k183) (show p < T.1 by omega) T.1 0 1000 g s c G S (by omega) (by omega) hR hG hS
    obtain ⟨g', s', c', G', S', j1, j2, j3, j4, j5, j6, j7⟩ := grp_p ok hm ha hb k183 m (p + 1) f g1 s1 c1 G1 S1 (by omega) (by omega) i2 i3 i4
    refine ⟨g', s', c', G', S', ?_, j2, j3, j4, by omega, fun h => ?_, fun h => ?_⟩
    · rw [← j1]
      show X11_layGroups_B11 _ _ _ _ _ _ _ _ _ = _
      unfold X11_layGroups_B11
      rw [hm.1, if_neg (nI_ge (by omega) (by omega))]
      have i1' : X11_layGroups_L26 st (X11_layGroups_J177 (X11_layGroups_L11 st k183 f) k183) 1000 (nI a) (nI b) (b2 c) (nI p) 0 G S = _ := i1
      rw [i1']
      unfold X11_layGroups_J177 lat
      rw [nI_1]
    · rcases j6 h with y | y
      · rcases i6 y with w | w
        · exact Or.inl w
        · exact Or.inr (by omega)
      · exact Or.inr (by omega)
    · obtain ⟨k1, k2, k3⟩ := j7 h
      obtain ⟨l1, l2, l3⟩ := i7 k1
      subst l2
      refine ⟨l1, k2, fun p' q' h1 h2 => ?_⟩
      rcases (show p' = p ∨ p + 1 ≤ p' by omega) with rfl | h3
      · exact l3 q' (Nat.zero_le _) h2
      · exact k3 p' q' h3 h2
theorem grp_w {T : Tab} {st : Nat → Int32} (ok : okT T) (hm : mst T st) {a b : Nat} (ha : a < T.1) (hb : b < T.1) : ∀ (f : Nat) (g s : Nat → Nat) (G S : Nat → Int32), sm g T.1 + 2 ≤ f → RI (off T.2 T.1 a b) (jn T.2 T.1 a b 99) (bd T.2 a b) g s → eG (off T.2 T.1 a b) T.1 g G → eS T.1 s S → ∃ g' s' G' S', X11_layGroups_L2 st f (nI a) (nI b) 1 G S = some (G', S') ∧ RI (off T.2 T.1 a b) (jn T.2 T.1 a b 99) (bd T.2 a b) g' s' ∧ eG (off T.2 T.1 a b) T.1 g' G' ∧ eS T.1 s' S' ∧ ∀ p q, edg (off T.2 T.1 a b) (jn T.2 T.1 a b 99) p q → g' q ≤ g' p
  | f + 1, g, s, G, S, hf, hR, hG, hS => by
    have h7 := ok.2.1
    obtain ⟨g', s', c', G', S', j1, j2, j3, j4, j5, j6, j7⟩ := grp_p ok hm ha hb (X11_layGroups_J183 (X11_layGroups_L2 st f)) T.1 0 1000 g s false G S (by omega) (by omega) hR hG hS
    have e1 : X11_layGroups_L2 st (f + 1) (nI a) (nI b) 1 G S = X11_layGroups_L2 st f (nI a) (nI b) (b2 c') G' S' := by
      show X11_layGroups_B2 _ _ _ _ _ _ _ = _
      unfold X11_layGroups_B2
      rw [if_neg (by decide)]
      have j1' : X11_layGroups_L11 st (X11_layGroups_J183 (X11_layGroups_L2 st f)) 1000 (nI a) (nI b) 0 0 G S = _ := j1
      rw [j1']
      rfl
    rw [e1]
    cases c' with
    | true =>
      have : sm g' T.1 < sm g T.1 := by
        rcases j6 rfl with y | y
        · exact absurd y (by decide)
        · exact y
      exact grp_w ok hm ha hb f g' s' G' S' (by omega) j2 j3 j4
    | false =>
      obtain ⟨-, k2, k3⟩ := j7 rfl
      subst k2
      refine ⟨g', s', G', S', ?_, j2, j3, j4, fun p q h => k3 p q (Nat.zero_le _) h⟩
      obtain ⟨f', rfl⟩ : ∃ f', f = f' + 1 := ⟨f - 1, by omega⟩
      show X11_layGroups_B2 _ _ _ _ _ _ _ = _
      unfold X11_layGroups_B2
      rw [if_pos (show b2 false = 0 from rfl)]
