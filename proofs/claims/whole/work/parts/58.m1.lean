/-! maps: the search, the class's side -/
theorem al_snoc (f : Nat → Bool) : ∀ m q, al f (m + 1) q = (al f m q && f (q + m))
  | 0, q => by show (f q && true) = (true && f (q + 0)); rw [Bool.and_true, Bool.true_and, Nat.add_zero]
  | m + 1, q => by
    show (f q && al f (m + 1) (q + 1)) = ((f q && al f m (q + 1)) && f (q + (m + 1)))
    rw [al_snoc f m (q + 1), Bool.and_assoc, show q + 1 + m = q + (m + 1) by omega]
theorem al_and (f g : Nat → Bool) : ∀ m q, al (fun x => f x && g x) m q = (al f m q && al g m q)
  | 0, q => rfl
  | m + 1, q => by
    show ((f q && g q) && al (fun x => f x && g x) m (q + 1)) = ((f q && al f m (q + 1)) && (g q && al g m (q + 1)))
    rw [al_and f g m (q + 1)]
    cases f q <;> cases g q <;> cases al f m (q + 1) <;> cases al g m (q + 1) <;> rfl
theorem al_cong {f g : Nat → Bool} : ∀ (m q : Nat), (∀ x, q ≤ x → x < q + m → f x = g x) → al f m q = al g m q
  | 0, q, _ => rfl
  | m + 1, q, h => by
    show (f q && al f m (q + 1)) = (g q && al g m (q + 1))
    rw [h q (Nat.le_refl q) (by omega), al_cong m (q + 1) (fun x h1 h2 => h x (by omega) (by omega))]
/-- x is no name of a place ahead of p -/
def fre (t : Nat → Nat) (p x : Nat) : Bool := al (fun q => !(decide (t q = x))) p 0
def fts (e e2 t : Nat → Nat) (p x : Nat) : Bool := al (fun q => decide (tv e p q = tv e2 x (t q))) p 0
def fitB (e e2 t : Nat → Nat) (p x : Nat) : Bool := fre t p x && fts e e2 t p x
abbrev Srs : Type := Nat × (Nat → Nat)
def nm (f : Nat → Srs → Srs) : Nat → Nat → Srs → Srs
  | 0, _, s => s
  | r + 1, k, s => nm f r (k + 1) (f k s)
def sr (e e2 : Nat → Nat) (n : Nat) : Nat → Nat → (Nat → Nat) → Srs → Srs
  | 0, _, t, s => (s.1 + 1, if s.1 = 0 then t else s.2)
  | m + 1, p, t, s => nm (fun x s => if fitB e e2 t p x = true then sr e e2 n m (p + 1) (up t p x) s else s) n 0 s
def lv (e e2 : Nat → Nat) (n m p : Nat) (t : Nat → Nat) (x : Nat) (s : Srs) : Srs := if fitB e e2 t p x = true then sr e e2 n m (p + 1) (up t p x) s else s
theorem sr_s (e e2 : Nat → Nat) (n m p : Nat) (t : Nat → Nat) (s : Srs) : sr e e2 n (m + 1) p t s = nm (lv e e2 n m p t) n 0 s := rfl
/-- counts grow, and what was found first stays -/
def gro (b : Nat) (s s' : Srs) : Prop := s.1 ≤ s'.1 ∧ s'.1 ≤ s.1 + b ∧ (s.1 ≠ 0 → s'.2 = s.2)
theorem nm_g {f : Nat → Srs → Srs} {b : Nat} (hf : ∀ k s, gro b s (f k s)) : ∀ (r k : Nat) (s : Srs), gro (r * b) s (nm f r k s)
  | 0, k, s => ⟨Nat.le_refl _, Nat.le_add_right _ _, fun _ => rfl⟩
  | r + 1, k, s => by
    have h1 := hf k s
    have h2 := nm_g hf r (k + 1) (f k s)
    have eb : (r + 1) * b = r * b + b := by rw [Nat.add_mul, Nat.one_mul]
    obtain ⟨a1, a2, a3⟩ := h1
    obtain ⟨b1, b2', b3⟩ := h2
    refine ⟨Nat.le_trans a1 b1, ?_, fun h => ?_⟩
    · show (nm f r (k + 1) (f k s)).1 ≤ _
      rw [eb]; omega
    · show (nm f r (k + 1) (f k s)).2 = _
      rw [b3 (by omega), a3 h]
theorem sr_g (e e2 : Nat → Nat) {n : Nat} (hn : n ≤ 7) : ∀ (m p : Nat) (t : Nat → Nat) (s : Srs), gro (7 ^ m) s (sr e e2 n m p t s)
  | 0, p, t, s => ⟨Nat.le_succ _, Nat.le_refl _, fun h => if_neg h⟩
  | m + 1, p, t, s => by
    have h := nm_g (f := lv e e2 n m p t) (b := 7 ^ m) (fun k s => by
      unfold lv
      split
      · exact sr_g e e2 hn m (p + 1) (up t p k) s
      · exact ⟨Nat.le_refl _, Nat.le_add_right _ _, fun _ => rfl⟩) n 0 s
    rw [sr_s]
    obtain ⟨a1, a2, a3⟩ := h
    refine ⟨a1, Nat.le_trans a2 (Nat.add_le_add_left ?_ _), a3⟩
    rw [Nat.pow_succ, Nat.mul_comm]
    exact Nat.mul_le_mul_left _ hn
theorem lv_g (e e2 : Nat → Nat) {n : Nat} (hn : n ≤ 7) (m p : Nat) (t : Nat → Nat) (k : Nat) (s : Srs) : gro (7 ^ m) s (lv e e2 n m p t k s) := by
  unfold lv
  split
  · exact sr_g e e2 hn m (p + 1) (up t p k) s
  · exact ⟨Nat.le_refl _, Nat.le_add_right _ _, fun _ => rfl⟩
def eF (n : Nat) (s : Srs) (A : Nat → Int32) : Prop := s.1 ≠ 0 → ∀ q, q < n → A q = nI (s.2 q)
-- the class
def gmo (o : Bool) (x : Nat) : Nat := if o = true then min x 1 else x
theorem fits_c {T T2 : Tab} {pl pl2 : Int32} {sq sq2 : Nat → Int32} (hc : cT T pl sq) (hc2 : cT T2 pl2 sq2) (ok : okT T) (ok2 : okT T2) {t : Nat → Nat} {S : Nat → Int32} {p x : Nat} (hp : p < 7) (hx : x < 7) (hS : eS p t S) (ht : ∀ q, q < p → t q < 7) : ∀ (m q f : Nat), q + m = p → m + 1 ≤ f → X3_fits_L2 sq sq2 S f (nI p) (nI x) (nI q) = some (b2 (al (fun q => decide (tv T.2 p q = tv T2.2 x (t q))) m q))
  | 0, q, f + 1, hq, _ => by
    show X3_fits_B2 _ _ _ _ _ _ _ = _
    unfold X3_fits_B2
    rw [if_pos (nI_le (by omega) (by omega))]; rfl
  | m + 1, q, f + 1, hq, hf => by
    have ih := fits_c hc hc2 ok ok2 hp hx hS ht m (q + 1) f (by omega) (by omega)
    have tq := ht q (by omega)
    have l1 := tv_le ok p q
    have l2 := tv_le ok2 x (t q)
    show X3_fits_B2 _ _ _ _ _ _ _ = _
    unfold X3_fits_B2 lat
    rw [if_neg (nI_ge (by omega) (by omega)), if_neg (show ¬ (7 : Int32) ≤ nI q from nI_ge (b := 7) (by omega) (by decide)), square_c hc hp (by omega), bs, gd_in (by omega) (by decide), nI_clamp (by omega), hS q (by omega), square_c hc2 hx tq, bs, nI_1]
    show _ = some (b2 (decide (tv T.2 p q = tv T2.2 x (t q)) && al (fun q => decide (tv T.2 p q = tv T2.2 x (t q))) m (q + 1)))
    have en : (nI (tv T.2 p q) = nI (tv T2.2 x (t q))) ↔ tv T.2 p q = tv T2.2 x (t q) := nI_eq (by omega) (by omega)
    by_cases z : tv T.2 p q = tv T2.2 x (t q)
    · rw [if_pos (en.mpr z), decide_eq_true z, Bool.true_and]; exact ih
    · rw [if_neg (fun y => z (en.mp y)), decide_eq_false z]; rfl
def mkB (M k : Nat) : Bool := M.testBit k || decide ((nI (M ||| 2 ^ k)) &&& (((1 : Int32) <<< (nI k &&& 31)) ^^^ (-1 : Int32)) = nI M)
theorem mk_c0 : ∀ M, M < 128 → ∀ k, k < 7 → mkB M k = true := by decide +kernel
theorem mk_c {M k : Nat} (hM : M < 128) (hk : k < 7) (h : M.testBit k = false) : (nI (M ||| 2 ^ k)) &&& (((1 : Int32) <<< (nI k &&& 31)) ^^^ (-1 : Int32)) = nI M := by
  have := mk_c0 M hM k hk
  unfold mkB at this
  rw [h, Bool.false_or, decide_eq_true_eq] at this
  exact this
def uM (t : Nat → Nat) (p M : Nat) : Prop := M < 128 ∧ ∀ j, j < 7 → M.testBit j = !(fre t p j)
theorem fre_up {t : Nat → Nat} {p x : Nat} (j : Nat) : fre (up t p x) (p + 1) j = (fre t p j && !(decide (x = j))) := by
  unfold fre
  rw [al_snoc, Nat.zero_add, show up t p x p = x from if_pos rfl]
  congr 1
  exact al_cong p 0 (fun q _ h => by rw [show up t p x q = t q from if_neg (by omega)])
theorem uM_up {t : Nat → Nat} {p M x : Nat} (h : uM t p M) (hx : x < 7) : uM (up t p x) (p + 1) (M ||| 2 ^ x) := by
  refine ⟨Nat.or_lt_two_pow (n := 7) h.1 (Nat.pow_lt_pow_right (by decide) hx), fun j hj => ?_⟩
  rw [fre_up, Nat.testBit_or, h.2 j hj, Nat.testBit_two_pow]
  cases fre t p j <;> cases decide (x = j) <;> rfl
theorem bud {s r P B : Nat} (h : s + (r + 1) * P ≤ B) : s + r * P ≤ B ∧ s + P ≤ B ∧ ∀ s', s' ≤ s + P → s' + r * P ≤ B := by
  rw [Nat.add_mul, Nat.one_mul] at h
  generalize r * P = Q at *
  exact ⟨by omega, by omega, fun s' h' => by omega⟩
abbrev NmR : Type := Option (Int32 × Int32 × (Nat → Int32) × (Nat → Int32))
def NmS (T T2 : Tab) (sq sq2 : Nat → Int32) (o : Bool) (d m p : Nat) : Prop := ∀ (t : Nat → Nat) (s : Srs) (M : Nat) (A S : Nat → Int32), (o = true → s.1 = 0) → s.1 + 7 ^ m ≤ 1000000 → eS p t S → (∀ q, q < p → t q < T.1) → uM t p M → eF T.1 s A → ∃ A' S', X3_nameFrom d (nI p) (b2 o) (nI (gmo o s.1)) (nI M) A (nI T.1) sq (nI T.1) sq2 S = some (nI (gmo o (sr T.2 T2.2 T.1 m p t s).1), nI M, A', S') ∧ (∀ q, q < p → S' q = S q) ∧ eF T.1 (sr T.2 T2.2 T.1 m p t s) A'
theorem gmo_b (o : Bool) (x : Nat) : gmo o x ≤ x := by unfold gmo; split <;> omega
theorem nm_L {T T2 : Tab} {pl pl2 : Int32} {sq sq2 : Nat → Int32} (ok : okT T) (ok2 : okT T2) (hc : cT T pl sq) (hc2 : cT T2 pl2 sq2) (o : Bool) {d m p : Nat} (hp : p + (m + 1) = T.1) (ih : NmS T T2 sq sq2 o d m (p + 1)) {t : Nat → Nat} (ht : ∀ q, q < p → t q < T.1) {M : Nat} (hM : uM t p M) : ∀ (r k f : Nat) (s : Srs) (A S : Nat → Int32), k + r = T.1 → r + 1 ≤ f → s.1 + r * 7 ^ m ≤ 1000000 → eS p t S → eF T.1 s A → ∃ A' S', X3_nameFrom_L52 (X3_nameFrom d) (b2 o) (nI T.1) sq (nI T.1) sq2 f (nI p) (nI k) (nI (gmo o s.1)) (nI M) A S = some (nI (gmo o (nm (lv T.2 T2.2 T.1 m p t) r k s).1), nI M, A', S') ∧ (∀ q, q < p → S' q = S q) ∧ eF T.1 (nm (lv T.2 T2.2 T.1 m p t) r k s) A'
  | 0, k, f + 1, s, A, S, hk, _, _, hS, hA => by
    have h7 := ok.2.1
    refine ⟨A, S, ?_, fun _ _ => rfl, hA⟩
    show X3_nameFrom_B52 _ _ _ _ _ _ _ _ _ _ _ _ _ = _
    unfold X3_nameFrom_B52
    rw [if_pos (nI_le (by omega) (by omega))]; rfl
  | r + 1, k, f + 1, s, A, S, hk, hf, hb, hS, hA => by
    have h7 := ok.2.1
    have k7 : k < 7 := by omega
    have p7 : p < 7 := by omega
    obtain ⟨hb1, hb2, hb3⟩ := bud hb
    have gs := lv_g T.2 T2.2 h7 m p t k s
    have gb := gmo_b o s.1
    -- one found is enough
    by_cases stop : o = true ∧ s.1 ≠ 0
    · obtain ⟨so, sn⟩ := stop
      subst so
      have gg := nm_g (f := lv T.2 T2.2 T.1 m p t) (b := 7 ^ m) (fun k s => lv_g T.2 T2.2 h7 m p t k s) (r + 1) k s
      have e1 : gmo true s.1 = 1 := by unfold gmo; rw [if_pos rfl]; omega
      have e2 : gmo true (nm (lv T.2 T2.2 T.1 m p t) (r + 1) k s).1 = 1 := by unfold gmo; rw [if_pos rfl]; have := gg.1; omega
      refine ⟨A, S, ?_, fun _ _ => rfl, fun _ q hq => ?_⟩
      · show X3_nameFrom_B52 _ _ _ _ _ _ _ _ _ _ _ _ _ = _
        unfold X3_nameFrom_B52
        rw [e2, e1, if_neg (nI_ge (by omega) (by omega)), ifb_t, if_neg (show ¬ nI 1 ≤ 0 by decide)]
      · rw [gg.2.2 sn]; exact hA sn q hq
    have s0 : o = true → s.1 = 0 := fun h => by
      rcases Nat.eq_zero_or_pos s.1 with z | z
      · exact z
      · exact absurd ⟨h, by omega⟩ stop
    have e78 : X3_nameFrom_L52 (X3_nameFrom d) (b2 o) (nI T.1) sq (nI T.1) sq2 (f + 1) (nI p) (nI k) (nI (gmo o s.1)) (nI M) A S = X3_nameFrom_J78 (X3_nameFrom d) (b2 o) (nI T.1) sq (nI T.1) sq2 (X3_nameFrom_L52 (X3_nameFrom d) (b2 o) (nI T.1) sq (nI T.1) sq2 f) (nI p) (nI k) (nI (gmo o s.1)) (nI M) A S := by
      show X3_nameFrom_B52 _ _ _ _ _ _ _ _ _ _ _ _ _ = _
      unfold X3_nameFrom_B52
      rw [if_neg (nI_ge (by omega) (by omega))]
      cases o with
      | false => rw [ifb_f]
      | true =>
        rw [ifb_t, if_pos]
        have : gmo true s.1 = 0 := by have := s0 rfl; omega
        rw [this]; decide
    have fc := fits_c hc hc2 ok ok2 p7 k7 hS (fun q hq => by have := ht q hq; omega) p 0 1000 (by omega) (by omega)
    have fc' : X3_fits (nI p) (nI k) sq sq2 S = some (b2 (fts T.2 T2.2 t p k)) := fc
    rw [e78]
    unfold X3_nameFrom_J78 X3_nameFrom_J138 lat
    dsimp only
    rw [hasBit_c hM.1 k7, hM.2 k k7, fc', bs, gd_in (by omega) (by decide), nI_clamp (by omega), shlI k (by omega), nI_or, nI_1, nI_1]
    show ∃ A' S', _ = some (nI (gmo o (nm (lv T.2 T2.2 T.1 m p t) r (k + 1) (lv T.2 T2.2 T.1 m p t k s)).1), _, _, _) ∧ _ ∧ eF T.1 (nm (lv T.2 T2.2 T.1 m p t) r (k + 1) (lv T.2 T2.2 T.1 m p t k s)) A'
    have rcc := nm_L ok ok2 hc hc2 o hp ih ht hM r (k + 1) f
    have skip : fitB T.2 T2.2 t p k = false → ∃ A' S', X3_nameFrom_L52 (X3_nameFrom d) (b2 o) (nI T.1) sq (nI T.1) sq2 f (nI p) (nI (k + 1)) (nI (gmo o s.1)) (nI M) A S = some (nI (gmo o (nm (lv T.2 T2.2 T.1 m p t) r (k + 1) (lv T.2 T2.2 T.1 m p t k s)).1), nI M, A', S') ∧ (∀ q, q < p → S' q = S q) ∧ eF T.1 (nm (lv T.2 T2.2 T.1 m p t) r (k + 1) (lv T.2 T2.2 T.1 m p t k s)) A' := fun h => by
      have e : lv T.2 T2.2 T.1 m p t k s = s := by unfold lv; rw [h]; rfl
      rw [e]
      exact rcc s A S (by omega) (by omega) hb1 hS hA
    cases hfr : fre t p k with
    | false =>
      rw [show (!false) = true from rfl, ifb_t]
      exact skip (by unfold fitB; rw [hfr]; rfl)
    | true =>
      rw [show (!true) = false from rfl, ifb_f]
      cases hft : fts T.2 T2.2 t p k with
      | false =>
        rw [ifb_f]
        exact skip (by unfold fitB; rw [hfr, hft]; rfl)
      | true =>
        rw [ifb_t]
        have e : lv T.2 T2.2 T.1 m p t k s = sr T.2 T2.2 T.1 m (p + 1) (up t p k) s := by
          unfold lv fitB; rw [hfr, hft]; rfl
        have hS2 : eS (p + 1) (up t p k) (upd S p (nI k)) := fun q hq => by
          unfold up upd
          by_cases z : q = p
          · rw [if_pos z, if_pos z]
          · rw [if_neg z, if_neg z]; exact hS q (by omega)
        obtain ⟨A1, S1, j1, j2, j3⟩ := ih (up t p k) s (M ||| 2 ^ k) A (upd S p (nI k)) s0 hb2 hS2 (fun q hq => by
          unfold up
          split
          · omega
          · exact ht q (by omega)) (uM_up hM k7) hA
        rw [j1, bs]
        dsimp only
        have bk : M.testBit k = false := by rw [hM.2 k k7, hfr]; rfl
        have ek := mk_c hM.1 k7 bk
        rw [shlI k (by omega)] at ek
        rw [ek, ← e]
        rw [← e] at j3
        have s1e : ∀ q, q < p → S1 q = S q := fun q hq => by rw [j2 q (by omega), upd_n _ _ (by omega)]
        obtain ⟨A', S', i1, i2, i3⟩ := rcc (lv T.2 T2.2 T.1 m p t k s) A1 S1 (by omega) (by omega) (hb3 _ gs.2.1) (fun q hq => by rw [s1e q hq]; exact hS q hq) j3
        exact ⟨A', S', i1, fun q hq => by rw [i2 q hq, s1e q hq], i3⟩
theorem nameFrom_c {T T2 : Tab} {pl pl2 : Int32} {sq sq2 : Nat → Int32} (ok : okT T) (ok2 : okT T2) (hc : cT T pl sq) (hc2 : cT T2 pl2 sq2) (o : Bool) : ∀ (m p d : Nat), p + m = T.1 → m + 1 ≤ d → NmS T T2 sq sq2 o d m p
  | 0, p, d + 1, hp, _ => by
    intro t s M A S s0 hb hS ht hM hA
    have h7 := ok.2.1
    have : p = T.1 := by omega
    subst this
    have gb := gmo_b o s.1
    have e0 : X3_nameFrom (d + 1) (nI T.1) (b2 o) (nI (gmo o s.1)) (nI M) A (nI T.1) sq (nI T.1) sq2 S = X3_nameFrom_J17 (nI (gmo o s.1)) (nI M) A S := by
      show X3_nameFrom_R _ _ _ _ _ _ _ _ _ _ _ = _
      unfold X3_nameFrom_R
      rw [if_pos (nI_le (Nat.le_refl _) (by omega))]
    have e1 : gmo o (sr T.2 T2.2 T.1 0 T.1 t s).1 = gmo o s.1 + 1 := by
      show gmo o (s.1 + 1) = _
      unfold gmo
      cases o with
      | false => rfl
      | true => rw [s0 rfl]; rfl
    have e2 : (nI (gmo o s.1) = 0) ↔ s.1 = 0 := by
      have h1 : s.1 + 1 ≤ 1000000 := hb
      show (nI (gmo o s.1) = nI 0) ↔ _
      rw [nI_eq (by omega) (by omega)]
      unfold gmo
      cases o with
      | false => exact Iff.rfl
      | true => rw [s0 rfl]; exact Iff.rfl
    rw [e0, e1, ← nI_1]
    unfold X3_nameFrom_J17 X3_nameFrom_J39 lat
    by_cases z : s.1 = 0
    · rw [if_pos (e2.mpr z)]
      refine ⟨_, S, rfl, fun _ _ => rfl, fun _ q hq => ?_⟩
      show va_cpy S A 0 0 7 q = nI ((if s.1 = 0 then t else s.2) q)
      rw [if_pos z, pk_cpy_in (by omega) (by omega), Nat.zero_add, Nat.sub_zero]
      exact hS q hq
    · rw [if_neg (fun y => z (e2.mp y))]
      refine ⟨A, S, rfl, fun _ _ => rfl, fun _ q hq => ?_⟩
      show A q = nI ((if s.1 = 0 then t else s.2) q)
      rw [if_neg z]; exact hA z q hq
  | m + 1, p, d + 1, hp, hd => by
    intro t s M A S s0 hb hS ht hM hA
    have h7 := ok.2.1
    have ih := nameFrom_c ok ok2 hc hc2 o m (p + 1) d (by omega) (by omega)
    have hb2 : s.1 + T.1 * 7 ^ m ≤ 1000000 := by
      rw [Nat.pow_succ, Nat.mul_comm] at hb
      exact Nat.le_trans (Nat.add_le_add_left (Nat.mul_le_mul_right _ h7) _) hb
    obtain ⟨A', S', i1, i2, i3⟩ := nm_L ok ok2 hc hc2 o hp ih ht hM T.1 0 1000 s A S (by omega) (by omega) hb2 hS hA
    refine ⟨A', S', ?_, i2, i3⟩
    rw [sr_s, ← i1]
    show X3_nameFrom_R _ _ _ _ _ _ _ _ _ _ _ = _
    unfold X3_nameFrom_R
    rw [if_neg (nI_ge (by omega) (by omega)), if_pos (show nI p < 7 from nI_lt (b := 7) (by omega) (by decide))]
    rfl
