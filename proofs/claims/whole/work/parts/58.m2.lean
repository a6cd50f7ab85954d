/-! maps: the reference's search -/
def mT2 (T2 : Tab) (st : Nat → Int32) (off : Nat) : Prop := ∀ k, k < 21 → st (off + k) = nI (T2.2 k)
theorem like_L {T T2 : Tab} {st : Nat → Int32} (ok : okT T) (ok2 : okT T2) (hm : mst T st) {off : Nat} (ho : off + 21 < 96) (hm2 : mT2 T2 st off) {t : Nat → Nat} {S : Nat → Int32} {p x : Nat} (hp : p < 7) (hx : x < 7) (hS : eS p t S) (hSp : S p = nI x) (ht : ∀ q, q < p → t q < 7) : ∀ (m q f : Nat), q + m = p → m + 1 ≤ f → X11_isLike_L2 S st f (nI off) (nI p) (nI q) = some (b2 (al (fun q => !(decide (t q = x)) && decide (tv T.2 p q = tv T2.2 x (t q))) m q))
  | 0, q, f + 1, hq, _ => by
    show X11_isLike_B2 _ _ _ _ _ _ = _
    unfold X11_isLike_B2
    rw [if_pos (nI_le (by omega) (by omega))]; rfl
  | m + 1, q, f + 1, hq, hf => by
    have ih := like_L ok ok2 hm ho hm2 hp hx hS hSp ht m (q + 1) f (by omega) (by omega)
    have tq := ht q (by omega)
    have q7 : q < 7 := by omega
    show X11_isLike_B2 _ _ _ _ _ _ = _
    unfold X11_isLike_B2 lat
    rw [if_neg (nI_ge (by omega) (by omega)), gd_in (by omega) (by decide), gd_in (by omega) (by decide), nI_clamp (by omega), nI_clamp (by omega), hS q (by omega), hSp, nI_1]
    show _ = some (b2 ((!(decide (t q = x)) && decide (tv T.2 p q = tv T2.2 x (t q))) && al (fun q => !(decide (t q = x)) && decide (tv T.2 p q = tv T2.2 x (t q))) m (q + 1)))
    have en : (nI (t q) = nI x) ↔ t q = x := nI_eq (by omega) (by omega)
    by_cases z : t q = x
    · rw [if_pos (en.mpr z), decide_eq_true z]; rfl
    · have l1 := pr_lt (t q) tq x hx z
      have qp : q ≠ p := by omega
      have l2 := pr_lt q q7 p hp qp
      have v1 : tv T.2 p q = T.2 (pr q p) := by rw [tv_symm]; unfold tv; rw [if_neg qp]
      have v2 : tv T2.2 x (t q) = T2.2 (pr (t q) x) := by rw [tv_symm]; unfold tv; rw [if_neg z]
      have b1 := ok.2.2.1 (pr q p)
      have b2' := ok2.2.2.1 (pr (t q) x)
      rw [if_neg (fun y => z (en.mp y)), decide_eq_false z, pairOf_m (t q) tq x hx, if_neg z, pairOf_m q q7 p hp, if_neg qp, nI_add, gd_in (by omega) (by decide), gd_in (by omega) (by decide), nI_clamp (by omega), nI_clamp (by omega), hm.2 _ l2, hm2 _ l1, v1, v2]
      have en2 : (nI (T2.2 (pr (t q) x)) = nI (T.2 (pr q p))) ↔ T2.2 (pr (t q) x) = T.2 (pr q p) := nI_eq (by omega) (by omega)
      by_cases y : T.2 (pr q p) = T2.2 (pr (t q) x)
      · rw [if_pos (en2.mpr y.symm), decide_eq_true y, Bool.not_false, Bool.true_and, Bool.true_and]; exact ih
      · rw [if_neg (fun w => y (en2.mp w).symm), decide_eq_false y]; rfl
theorem like_m {T T2 : Tab} {st : Nat → Int32} (ok : okT T) (ok2 : okT T2) (hm : mst T st) {off : Nat} (ho : off + 21 < 96) (hm2 : mT2 T2 st off) {t : Nat → Nat} {S : Nat → Int32} {p x : Nat} (hp : p < 7) (hx : x < 7) (hS : eS p t S) (hSp : S p = nI x) (ht : ∀ q, q < p → t q < 7) : X11_isLike (nI off) (nI p) S st = some (b2 (fitB T.2 T2.2 t p x)) := by
  have := like_L ok ok2 hm ho hm2 hp hx hS hSp ht p 0 1000 (by omega) (by omega)
  rw [al_and] at this
  exact this
abbrev LmR : Type := Option (Int32 × (Nat → Int32) × (Nat → Int32))
theorem cpy_L (k119 : Int32 → Int32 → Int32 → Int32 → (Nat → Int32) → (Nat → Int32) → LmR) (x1 x4 : Int32) {n : Nat} (hn : n ≤ 7) {t : Nat → Nat} {S : Nat → Int32} (hS : eS n t S) : ∀ (m q f : Nat) (A : Nat → Int32), q + m = n → m + 1 ≤ f → eS q t A → ∃ A', X11_layMaps_L89 k119 f x1 (nI n) 0 x4 (nI q) A S = k119 x1 (nI n) 0 x4 A' S ∧ eS n t A'
  | 0, q, f + 1, A, hq, _, hA => by
    refine ⟨A, ?_, by rw [show n = q by omega]; exact hA⟩
    show X11_layMaps_B89 _ _ _ _ _ _ _ _ _ = _
    unfold X11_layMaps_B89
    rw [if_pos (nI_le (by omega) (by omega))]
  | m + 1, q, f + 1, A, hq, hf, hA => by
    obtain ⟨A', i1, i2⟩ := cpy_L k119 x1 x4 hn hS m (q + 1) f (upd A q (nI (t q))) (by omega) (by omega) (eS_snoc hA)
    refine ⟨A', ?_, i2⟩
    rw [← i1]
    show X11_layMaps_B89 _ _ _ _ _ _ _ _ _ = _
    unfold X11_layMaps_B89 lat
    rw [if_neg (nI_ge (by omega) (by omega)), if_pos rfl, gd_in (by omega) (by decide), nI_clamp (by omega), hS q (by omega), nI_1]
theorem cpy_n (k119 : Int32 → Int32 → Int32 → Int32 → (Nat → Int32) → (Nat → Int32) → LmR) (x1 x3 x4 : Int32) (h : ¬ x3 = 0) {n : Nat} (A S : Nat → Int32) : ∀ f, 1 ≤ f → X11_layMaps_L89 k119 f x1 (nI n) x3 x4 0 A S = k119 x1 (nI n) x3 x4 A S
  | f + 1, _ => by
    show X11_layMaps_B89 _ _ _ _ _ _ _ _ _ = _
    unfold X11_layMaps_B89
    rw [if_neg h]
    split <;> rfl
def WW : Nat → Nat
  | 0 => 0
  | m + 1 => 7 * (1 + WW m) + 1
def LvS (T T2 : Tab) (st : Nat → Int32) (off m p : Nat) : Prop := ∀ (t : Nat → Nat), (∀ q, q < p → t q < T.1) → ∀ (r k : Nat) (s : Srs) (f : Nat) (A S : Nat → Int32), k + r = T.1 → r * (1 + WW m) + 1 ≤ f → s.1 + r * 7 ^ m ≤ 1000000 → eS p t S → S p + 1 = nI k → eF T.1 s A → ∃ A' S' f', f ≤ f' + (r * (1 + WW m) + 1) ∧ X11_layMaps_L35 st f (nI off) (nI T.1) (nI s.1) (nI p) A S = X11_layMaps_L35 st f' (nI off) (nI T.1) (nI (nm (lv T.2 T2.2 T.1 m p t) r k s).1) (nI p + -1) A' S' ∧ (∀ q, q < p → S' q = S q) ∧ eF T.1 (nm (lv T.2 T2.2 T.1 m p t) r k s) A'
/-- one level, once a fitting name can be gone through -/
theorem lvl_1 {T T2 : Tab} {st : Nat → Int32} (ok : okT T) (ok2 : okT T2) (hm : mst T st) {off : Nat} (ho : off + 21 < 96) (hm2 : mT2 T2 st off) {m p : Nat} (hp : p + (m + 1) = T.1)
    (fit : ∀ (t : Nat → Nat), (∀ q, q < p → t q < T.1) → ∀ (k : Nat) (s : Srs) (f : Nat) (A S : Nat → Int32), k < T.1 → WW m ≤ f → s.1 + 7 ^ m ≤ 1000000 → eS (p + 1) (up t p k) S → eF T.1 s A → ∃ A' S' f', f ≤ f' + WW m ∧ (if nI p = (nI T.1 - 1) then (X11_layMaps_L89 (X11_layMaps_J119 (X11_layMaps_L35 st f)) 2000000 (nI off) (nI T.1) (nI s.1) (nI p) (0 : Int32) A S) else (lat (nI p + (1 : Int32)) fun v8 => gd v8 7 <| lat (upd S v8.toNatClampNeg (-1 : Int32)) fun m10 => X11_layMaps_L35 st f (nI off) (nI T.1) (nI s.1) v8 A m10)) = X11_layMaps_L35 st f' (nI off) (nI T.1) (nI (sr T.2 T2.2 T.1 m (p + 1) (up t p k) s).1) (nI p) A' S' ∧ (∀ q, q < p + 1 → S' q = S q) ∧ eF T.1 (sr T.2 T2.2 T.1 m (p + 1) (up t p k) s) A') : LvS T T2 st off m p := by
  intro t ht r
  have h7 := ok.2.1
  induction r with
  | zero =>
    intro k s f A S hk hf hb hS hSp hA
    obtain ⟨f1, rfl⟩ : ∃ f1, f = f1 + 1 := ⟨f - 1, by omega⟩
    refine ⟨A, upd S p (nI k), f1, by omega, ?_, fun q hq => upd_n _ _ (by omega), hA⟩
    show X11_layMaps_B35 _ _ _ _ _ _ _ _ = _
    unfold X11_layMaps_B35 lat
    dsimp only
    rw [if_neg (nI_pos (by omega)), gd_in (by omega) (by decide), nI_clamp (by omega), hSp, upd_e, if_pos (by rw [show k = T.1 by omega])]
    rfl
  | succ r ih =>
    intro k s f A S hk hf hb hS hSp hA
    have ew : (r + 1) * (1 + WW m) = r * (1 + WW m) + (1 + WW m) := by rw [Nat.add_mul, Nat.one_mul]
    obtain ⟨hb1, hb2, hb3⟩ := bud hb
    rw [ew] at hf
    rw [ew]
    generalize r * (1 + WW m) = RW at *
    obtain ⟨f1, rfl⟩ : ∃ f1, f = f1 + 1 := ⟨f - 1, by omega⟩
    have k7 : k < 7 := by omega
    have gs := lv_g T.2 T2.2 h7 m p t k s
    have hS1 : eS p t (upd S p (nI k)) := fun q hq => by rw [upd_n _ _ (by omega)]; exact hS q hq
    have hS2 : eS (p + 1) (up t p k) (upd S p (nI k)) := fun q hq => by
      unfold up upd
      by_cases z : q = p
      · rw [if_pos z, if_pos z]
      · rw [if_neg z, if_neg z]; exact hS q (by omega)
    have lk := like_m ok ok2 hm ho hm2 (show p < 7 by omega) k7 hS1 (upd_e ..) (fun q hq => by have := ht q hq; omega)
    have st1 : X11_layMaps_L35 st (f1 + 1) (nI off) (nI T.1) (nI s.1) (nI p) A S = if b2 (fitB T.2 T2.2 t p k) = 0 then X11_layMaps_L35 st f1 (nI off) (nI T.1) (nI s.1) (nI p) A (upd S p (nI k)) else (if nI p = (nI T.1 - 1) then (X11_layMaps_L89 (X11_layMaps_J119 (X11_layMaps_L35 st f1)) 2000000 (nI off) (nI T.1) (nI s.1) (nI p) (0 : Int32) A (upd S p (nI k))) else (lat (nI p + (1 : Int32)) fun v8 => gd v8 7 <| lat (upd (upd S p (nI k)) v8.toNatClampNeg (-1 : Int32)) fun m10 => X11_layMaps_L35 st f1 (nI off) (nI T.1) (nI s.1) v8 A m10)) := by
      show X11_layMaps_B35 _ _ _ _ _ _ _ _ = _
      unfold X11_layMaps_B35
      rw [if_neg (nI_pos (by omega)), gd_in (by omega) (by decide), nI_clamp (by omega), hSp]
      have ne : ¬ nI k = nI T.1 := fun z => by have := (nI_eq (by omega) (by omega)).mp z; omega
      show (if upd S p (nI k) p = nI T.1 then _ else _) = _
      rw [upd_e, if_neg ne, lk, bs]
    rw [st1]
    show ∃ A' S' f', _ ∧ _ = X11_layMaps_L35 st f' (nI off) (nI T.1) (nI (nm (lv T.2 T2.2 T.1 m p t) r (k + 1) (lv T.2 T2.2 T.1 m p t k s)).1) (nI p + -1) A' S' ∧ _ ∧ eF T.1 (nm (lv T.2 T2.2 T.1 m p t) r (k + 1) (lv T.2 T2.2 T.1 m p t k s)) A'
    cases hf' : fitB T.2 T2.2 t p k with
    | false =>
      have e : lv T.2 T2.2 T.1 m p t k s = s := by unfold lv; rw [hf']; rfl
      rw [ifb_f, e]
      obtain ⟨A', S', f', i1, i2, i3, i4⟩ := ih (k + 1) s f1 A (upd S p (nI k)) (by omega) (by omega) hb1 hS1 (by rw [upd_e, nI_1]) hA
      exact ⟨A', S', f', by omega, i2, fun q hq => by rw [i3 q hq, upd_n _ _ (by omega)], i4⟩
    | true =>
      have e : lv T.2 T2.2 T.1 m p t k s = sr T.2 T2.2 T.1 m (p + 1) (up t p k) s := by unfold lv; rw [hf']; rfl
      rw [ifb_t]
      obtain ⟨A1, S1, f2, j1, j2, j3, j4⟩ := fit t ht k s f1 A (upd S p (nI k)) (by omega) (by omega) hb2 hS2 hA
      rw [j2, ← e]
      rw [← e] at j4
      have s1 : ∀ q, q < p → S1 q = S q := fun q hq => by rw [j3 q (by omega), upd_n _ _ (by omega)]
      obtain ⟨A', S', f', i1, i2, i3, i4⟩ := ih (k + 1) (lv T.2 T2.2 T.1 m p t k s) f2 A1 S1 (by omega) (by omega) (hb3 _ gs.2.1) (fun q hq => by rw [s1 q hq]; exact hS q hq) (by rw [j3 p (by omega), upd_e, nI_1]) j4
      exact ⟨A', S', f', by omega, i2, fun q hq => by rw [i3 q hq, s1 q hq], i4⟩
theorem lvl {T T2 : Tab} {st : Nat → Int32} (ok : okT T) (ok2 : okT T2) (hm : mst T st) {off : Nat} (ho : off + 21 < 96) (hm2 : mT2 T2 st off) : ∀ (m p : Nat), p + (m + 1) = T.1 → LvS T T2 st off m p
  | 0, p, hp => by
    have h7 := ok.2.1
    refine lvl_1 ok ok2 hm ho hm2 hp (fun t ht k s f A S hk hf hb hS hA => ?_)
    have ep : nI p = nI T.1 - 1 := by rw [← hp, nI_pred]
    rw [if_pos ep]
    have hSn : eS T.1 (up t p k) S := by rw [← hp]; exact hS
    by_cases z : s.1 = 0
    · obtain ⟨A', i1, i2⟩ := cpy_L (X11_layMaps_J119 (X11_layMaps_L35 st f)) (nI off) (nI p) h7 hSn T.1 0 2000000 A (by omega) (by omega) (fun q hq => by omega)
      have i1' : X11_layMaps_L89 (X11_layMaps_J119 (X11_layMaps_L35 st f)) 2000000 (nI off) (nI T.1) (nI s.1) (nI p) 0 A S = X11_layMaps_J119 (X11_layMaps_L35 st f) (nI off) (nI T.1) 0 (nI p) A' S := by rw [z]; exact i1
      refine ⟨A', S, f, by omega, ?_, fun _ _ => rfl, fun _ q hq => ?_⟩
      · rw [i1']
        unfold X11_layMaps_J119 lat
        show X11_layMaps_L35 st f (nI off) (nI T.1) (0 + 1) (nI p) A' S = X11_layMaps_L35 st f (nI off) (nI T.1) (nI (s.1 + 1)) (nI p) A' S
        rw [z]; rfl
      · show A' q = nI ((if s.1 = 0 then up t p k else s.2) q)
        rw [if_pos z]; exact i2 q hq
    · have n0 : ¬ nI s.1 = 0 := nI_ne0 (by omega) (by omega)
      refine ⟨A, S, f, by omega, ?_, fun _ _ => rfl, fun _ q hq => ?_⟩
      · rw [cpy_n _ _ _ _ n0 A S 2000000 (by omega)]
        unfold X11_layMaps_J119 lat
        rw [nI_1]
        rfl
      · show A q = nI ((if s.1 = 0 then up t p k else s.2) q)
        rw [if_neg z]; exact hA z q hq
  | m + 1, p, hp => by
    have h7 := ok.2.1
    have ih := lvl ok ok2 hm ho hm2 m (p + 1) (by omega)
    refine lvl_1 ok ok2 hm ho hm2 hp (fun t ht k s f A S hk hf hb hS hA => ?_)
    have ep : ¬ nI p = nI T.1 - 1 := by
      rw [show (1 : Int32) = nI 1 from rfl, nI_sub' (by omega)]
      intro z
      have := (nI_eq (by omega) (by omega)).mp z
      omega
    rw [if_neg ep]
    unfold lat
    dsimp only
    rw [nI_1, gd_in (by omega) (by decide), nI_clamp (by omega)]
    have hW : WW (m + 1) = 7 * (1 + WW m) + 1 := rfl
    have hW2 : T.1 * (1 + WW m) ≤ 7 * (1 + WW m) := Nat.mul_le_mul_right _ h7
    have hb2 : s.1 + T.1 * 7 ^ m ≤ 1000000 := by
      rw [Nat.pow_succ, Nat.mul_comm] at hb
      exact Nat.le_trans (Nat.add_le_add_left (Nat.mul_le_mul_right _ h7) _) hb
    have hS2 : eS (p + 1) (up t p k) (upd S (p + 1) (-1)) := fun q hq => by rw [upd_n _ _ (by omega)]; exact hS q hq
    obtain ⟨A', S', f', i1, i2, i3, i4⟩ := ih (up t p k) (fun q hq => by
      unfold up
      split
      · omega
      · exact ht q (by omega)) T.1 0 s f A (upd S (p + 1) (-1)) (by omega) (by omega) hb2 hS2 (by rw [upd_e]; rfl) hA
    refine ⟨A', S', f', by omega, ?_, fun q hq => by rw [i3 q hq, upd_n _ _ (by omega)], i4⟩
    rw [i2]
    show X11_layMaps_L35 st f' (nI off) (nI T.1) (nI (nm (lv T.2 T2.2 T.1 m (p + 1) (up t p k)) T.1 0 s).1) (nI (p + 1) + -1) A' S' = X11_layMaps_L35 st f' (nI off) (nI T.1) (nI (nm (lv T.2 T2.2 T.1 m (p + 1) (up t p k)) T.1 0 s).1) (nI p) A' S'
    rw [← nI_1, Int32.add_assoc, show (1 : Int32) + -1 = 0 by decide, Int32.add_zero]
theorem WW_b : ∀ n, n < 8 → n * (1 + WW (n - 1)) + 2 ≤ 2000000 := by decide +kernel
theorem p7b : ∀ n, n < 8 → n * 7 ^ (n - 1) ≤ 1000000 := by decide +kernel
theorem layMaps_u (off : Int32) (A S st : Nat → Int32) : X11_layMaps off A S st = gd (off + (21 : Int32)) 96 (if (st (off + (21 : Int32)).toNatClampNeg) = st 21 then X11_layMaps_L35 st 2000000 off (st 21) 0 0 A (upd S 0 (-1)) else (some (0, A, S))) := by
  have key : ∀ F : Int32 → Int32 → Int32 → Int32 → (Nat → Int32) → (Nat → Int32) → LmR, (lat (st 21) fun v12 => gd (off + (21 : Int32)) 96 <| if (st (off + (21 : Int32)).toNatClampNeg) = v12 then (lat (upd S 0 ((-1 : Int32))) fun m14 => F off v12 (0 : Int32) (0 : Int32) A m14) else (some ((0 : Int32), A, S))) = gd (off + (21 : Int32)) 96 (if (st (off + (21 : Int32)).toNatClampNeg) = st 21 then F off (st 21) 0 0 A (upd S 0 (-1)) else (some (0, A, S))) := fun F => rfl
  exact key (X11_layMaps_L35 st 2000000)
/-- the reference finds what the search finds -/
theorem layMaps_m {T T2 : Tab} {st : Nat → Int32} (ok : okT T) (ok2 : okT T2) (hm : mst T st) {off : Nat} (ho : off + 21 < 96) (hmo : st (off + 21) = nI T2.1) (hm2 : mT2 T2 st off) (A S : Nat → Int32) : ∃ A' S', (T2.1 = T.1 → X11_layMaps (nI off) A S st = some (nI (sr T.2 T2.2 T.1 T.1 0 id (0, id)).1, A', S') ∧ eF T.1 (sr T.2 T2.2 T.1 T.1 0 id (0, id)) A') ∧ (T2.1 ≠ T.1 → X11_layMaps (nI off) A S st = some (0, A', S')) := by
  have h7 := ok.2.1
  have h7' := ok2.2.1
  have h2 := ok.1
  have e0 := layMaps_u (nI off) A S st
  rw [show (21 : Int32) = nI 21 from rfl, nI_add, gd_in (by omega) (by decide), nI_clamp (by omega), hmo, hm.1] at e0
  have en : (nI T2.1 = nI T.1) ↔ T2.1 = T.1 := nI_eq (by omega) (by omega)
  by_cases z : T2.1 = T.1
  · rw [if_pos (en.mpr z)] at e0
    have hw := WW_b T.1 (by omega)
    have hb := p7b T.1 (by omega)
    obtain ⟨A', S', f', i1, i2, i3, i4⟩ := lvl ok ok2 hm ho hm2 (T.1 - 1) 0 (by omega) id (fun q hq => by omega) T.1 0 (0, id) 2000000 A (upd S 0 (-1)) (by omega) (by omega) (by omega) (fun q hq => by omega) (by rw [upd_e]; rfl) (fun h => absurd rfl h)
    have es : nm (lv T.2 T2.2 T.1 (T.1 - 1) 0 id) T.1 0 (0, id) = sr T.2 T2.2 T.1 T.1 0 id (0, id) := by
      rw [← sr_s, show T.1 - 1 + 1 = T.1 by omega]
    rw [es] at i2 i4
    obtain ⟨f2, rfl⟩ : ∃ f2, f' = f2 + 1 := ⟨f' - 1, by omega⟩
    refine ⟨A', S', fun _ => ⟨?_, i4⟩, fun h => absurd z h⟩
    have i2' : X11_layMaps_L35 st 2000000 (nI off) (nI T.1) 0 0 A (upd S 0 (-1)) = X11_layMaps_L35 st (f2 + 1) (nI off) (nI T.1) (nI (sr T.2 T2.2 T.1 T.1 0 id (0, id)).1) (nI 0 + -1) A' S' := i2
    rw [e0, i2']
    show X11_layMaps_B35 _ _ _ _ _ _ _ _ = _
    unfold X11_layMaps_B35
    rw [if_pos (show nI 0 + -1 < 0 by decide)]
  · rw [if_neg (fun y => z (en.mp y))] at e0
    exact ⟨A, S, fun h => absurd h z, fun _ => e0⟩
/-- so does the class -/
theorem compare_c {T T2 : Tab} {pl pl2 : Int32} {sq sq2 : Nat → Int32} (ok : okT T) (ok2 : okT T2) (hc : cT T pl sq) (hc2 : cT T2 pl2 sq2) (o : Bool) (g1 g2 : Int32) (g3 : Nat) (g4 : Int32) (A S : Nat → Int32) (ad : Nat) : ∃ x A' S', X3_compare (b2 o) g1 g2 g3 g4 A pl sq S pl2 sq2 ad = some (b2 o, nI x, ad, 0, A', S') ∧ (T2.1 = T.1 → x = gmo o (sr T.2 T2.2 T.1 T.1 0 id (0, id)).1 ∧ eF T.1 (sr T.2 T2.2 T.1 T.1 0 id (0, id)) A') ∧ (T2.1 ≠ T.1 → x = 0) := by
  have h7 := ok.2.1
  have h7' := ok2.2.1
  unfold X3_compare
  rw [gz_b2, hc.1, hc2.1]
  have en : (nI T.1 = nI T2.1) ↔ T.1 = T2.1 := nI_eq (by omega) (by omega)
  by_cases z : T.1 = T2.1
  · have hp7 : ∀ n, n < 8 → 7 ^ n ≤ 1000000 := by decide +kernel
    obtain ⟨A', S', i1, i2, i3⟩ := nameFrom_c ok ok2 hc hc2 o T.1 0 8 (by omega) (by omega) id (0, id) 0 A S (fun _ => rfl) (by have := hp7 T.1 (by omega); omega) (fun q hq => by omega) (fun q hq => by omega) ⟨by decide, fun j _ => by rw [Nat.zero_testBit]; rfl⟩ (fun h => absurd rfl h)
    rw [if_pos (en.mpr z), ← z]
    have g0 : gmo o 0 = 0 := by unfold gmo; split <;> rfl
    have i1' : X3_nameFrom 8 0 (b2 o) 0 0 A (nI T.1) sq (nI T.1) sq2 S = some (nI (gmo o (sr T.2 T2.2 T.1 T.1 0 id (0, id)).1), nI 0, A', S') := by
      have := i1
      rw [show gmo o ((0, id) : Srs).1 = 0 from g0] at this
      exact this
    rw [i1', bs]
    exact ⟨_, A', S', rfl, fun _ => ⟨rfl, i3⟩, fun h => absurd rfl h⟩
  · rw [if_neg (fun y => z (en.mp y))]
    exact ⟨0, A, S, rfl, fun h => absurd h.symm z, fun _ => rfl⟩
