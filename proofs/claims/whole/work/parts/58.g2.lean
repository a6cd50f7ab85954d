/-! the fewest false: the reference's search -/
def wo (e : Nat → Nat) (M k : Nat) : Nat := if M.testBit k = true then 0 else e k
theorem wo_0 (e : Nat → Nat) : wo e 0 = e := by funext k; unfold wo; rw [Nat.zero_testBit, if_neg (by decide)]
theorem wo_or (e : Nat → Nat) (M k : Nat) : wo e (M ||| 2 ^ k) = up (wo e M) k 0 := by
  funext j
  unfold wo up
  rw [Nat.testBit_or, Nat.testBit_two_pow]
  by_cases z : j = k
  · subst z; simp
  · rw [if_neg z, decide_eq_false (fun y => z y.symm), Bool.or_false]
def woW (e : Nat → Nat) (n M : Nat) : Prop := ∀ i ∈ items n, isFl (wo e M) i = (isFl e i && decide (mkI i &&& M = 0))
theorem and_or2 (a M k : Nat) : (a &&& (M ||| 2 ^ k) = 0) ↔ (a &&& M = 0 ∧ a.testBit k = false) := by
  constructor
  · intro h
    refine ⟨?_, ?_⟩
    · apply Nat.eq_of_testBit_eq
      intro j
      have := congrArg (fun x => x.testBit j) h
      simp only [Nat.testBit_and, Nat.testBit_or, Nat.zero_testBit] at this ⊢
      revert this
      cases a.testBit j <;> cases M.testBit j <;> simp
    · have := congrArg (fun x => x.testBit k) h
      simp only [Nat.testBit_and, Nat.testBit_or, Nat.zero_testBit, Nat.testBit_two_pow_self] at this
      revert this
      cases a.testBit k <;> simp
  · intro ⟨h1, h2⟩
    apply Nat.eq_of_testBit_eq
    intro j
    have := congrArg (fun x => x.testBit j) h1
    simp only [Nat.testBit_and, Nat.testBit_or, Nat.zero_testBit, Nat.testBit_two_pow] at this ⊢
    by_cases z : k = j
    · subst z; rw [h2]; rfl
    · rw [decide_eq_false z, Bool.or_false]; exact this
theorem woW_or {e : Nat → Nat} {n M : Nat} (hn : n < 8) (h : woW e n M) (k : Nat) : woW e n (M ||| 2 ^ k) := by
  intro i hi
  have e2 : decide (mkI i &&& (M ||| 2 ^ k) = 0) = (decide (mkI i &&& M = 0) && !((mkI i).testBit k)) := by
    by_cases y : mkI i &&& (M ||| 2 ^ k) = 0
    · obtain ⟨y1, y2⟩ := (and_or2 _ _ _).mp y
      rw [decide_eq_true y, decide_eq_true y1, y2]; rfl
    · rw [decide_eq_false y]
      by_cases z : mkI i &&& M = 0
      · cases w : (mkI i).testBit k with
        | false => exact absurd ((and_or2 _ _ _).mpr ⟨z, w⟩) y
        | true => rw [decide_eq_true z]; rfl
      · rw [decide_eq_false z]; rfl
  rw [wo_or, isFl_u0 hn hi k, h i hi, Bool.and_assoc, e2]
theorem woW_0 (e : Nat → Nat) (n : Nat) : woW e n 0 := fun i _ => by rw [wo_0, Nat.and_zero, decide_eq_true rfl, Bool.and_true]
theorem woW_all {e : Nat → Nat} {n : Nat} (hn : n < 8) {M : Nat} (hM : M < 2 ^ 21) (h : pcn M ≤ 3) : woW e n M := by
  rcases forms hM h with ⟨rfl, -⟩ | ⟨a, -, rfl, -⟩ | ⟨a, b, -, -, rfl, -⟩ | ⟨a, b, c, -, -, -, rfl, -⟩
  · exact woW_0 e n
  · have := woW_or hn (woW_0 e n) a; rwa [Nat.zero_or] at this
  · have := woW_or hn (woW_or hn (woW_0 e n) a) b; rwa [Nat.zero_or] at this
  · have := woW_or hn (woW_or hn (woW_or hn (woW_0 e n) a) b) c; rwa [Nat.zero_or] at this
theorem right_hits {e : Nat → Nat} {n : Nat} (hn : n < 8) {M : Nat} (hM : M < 2 ^ 21) (h : pcn M ≤ 3) : ((items n).countP (isFl (wo e M)) = 0) ↔ hits e n M := by
  rw [List.countP_eq_zero]
  constructor
  · intro h2 i hi hfl z
    apply h2 i hi
    rw [woW_all hn hM h i hi, hfl, decide_eq_true z]; rfl
  · intro h2 i hi hfl
    rw [woW_all hn hM h i hi, Bool.and_eq_true, decide_eq_true_eq] at hfl
    exact h2 i hi hfl.1 hfl.2
theorem okT_wo {T : Tab} (ok : okT T) (M : Nat) : okT (T.1, wo T.2 M) := by
  refine ⟨ok.1, ok.2.1, fun j => ?_, fun j hj => ?_⟩
  · show (if _ then 0 else T.2 j) ≤ 9999
    split
    · omega
    · exact ok.2.2.1 j
  · show (if _ then 0 else T.2 j) = 0
    split
    · rfl
    · exact ok.2.2.2 j hj
def ws (st : Nat → Int32) (M k : Nat) : Nat → Int32 := fun j => if j < k ∧ M.testBit j = true then 0 else st j
def rs (st : Nat → Int32) (M k : Nat) : Nat → Int32 := fun j => if j < k then st j else ws st M 21 j
theorem ws_0 (st : Nat → Int32) (M : Nat) : ws st M 0 = st := by funext j; unfold ws; rw [if_neg (by omega)]
theorem ws_k (st : Nat → Int32) (M k : Nat) : ws st M k k = st k := by unfold ws; rw [if_neg (by omega)]
theorem ws_s (st : Nat → Int32) (M k : Nat) : upd (ws st M k) k (if M.testBit k = true then 0 else st k) = ws st M (k + 1) := by
  funext j
  unfold upd ws
  by_cases z : j = k
  · subst z; rw [if_pos rfl]
    by_cases y : M.testBit j = true
    · rw [if_pos y, if_pos ⟨by omega, y⟩]
    · rw [if_neg y, if_neg (fun q => y q.2)]
  · rw [if_neg z]
    by_cases y : j < k ∧ M.testBit j = true
    · rw [if_pos y, if_pos ⟨by omega, y.2⟩]
    · rw [if_neg y, if_neg (fun q => y ⟨by omega, q.2⟩)]
theorem rs_0 (st : Nat → Int32) (M : Nat) : rs st M 0 = ws st M 21 := by funext j; unfold rs; rw [if_neg (by omega)]
theorem rs_s (st : Nat → Int32) (M k : Nat) : upd (rs st M k) k (st k) = rs st M (k + 1) := by
  funext j
  unfold upd rs
  by_cases z : j = k
  · subst z; rw [if_pos rfl, if_pos (by omega)]
  · rw [if_neg z]
    by_cases y : j < k
    · rw [if_pos y, if_pos (by omega)]
    · rw [if_neg y, if_neg (by omega)]
theorem rs_21 (st : Nat → Int32) (M : Nat) : rs st M 21 = st := by
  funext j; unfold rs ws
  by_cases z : j < 21
  · rw [if_pos z]
  · rw [if_neg z, if_neg (fun q => z q.1)]
theorem put_L {st : Nat → Int32} {M : Nat} {x1 x2 x3 : Int32} (hM : ∀ k, k < 21 → ((nI k = x1 ∨ nI k = x2 ∨ nI k = x3) ↔ M.testBit k = true)) (sums : Nat → Int32) : ∀ (m k f : Nat) (as : Nat → Int32), k + m = 21 → m + 1 ≤ f → (∀ j, j < k → as j = st j) → ∃ as', X11_isRightWithout_L3 X11_isRightWithout_J66 f x1 x2 x3 (nI k) as (ws st M k) sums = X11_isRightWithout_J66 as' (ws st M 21) sums ∧ ∀ j, j < 21 → as' j = st j
  | 0, k, f + 1, as, hk, _, ha => by
    have k21 : k = 21 := by omega
    subst k21
    refine ⟨as, ?_, ha⟩
    show X11_isRightWithout_B3 _ _ _ _ _ _ _ _ _ = _
    unfold X11_isRightWithout_B3
    rw [if_pos (show (21 : Int32) ≤ nI 21 by decide)]
  | m + 1, k, f + 1, as, hk, hf, ha => by
    obtain ⟨as', h1, h2⟩ := put_L hM sums m (k + 1) f (upd as k (st k)) (by omega) (by omega) (fun j hj => by
      by_cases z : j = k
      · subst z; exact upd_e ..
      · rw [upd_n _ _ z]; exact ha j (by omega))
    refine ⟨as', ?_, h2⟩
    rw [← h1]
    show X11_isRightWithout_B3 _ _ _ _ _ _ _ _ _ = _
    unfold X11_isRightWithout_B3 X11_isRightWithout_J48 X11_isRightWithout_J59 lat
    rw [if_neg (show ¬ (21 : Int32) ≤ nI k from nI_ge (b := 21) (by omega) (by decide)), gd_in (by omega) (by decide), gd_in (by omega) (by decide)]
    dsimp only
    rw [gd_in (by omega) (by decide), gd_in (by omega) (by decide), nI_clamp (by omega), nI_1, ws_k, ← ws_s]
    have := hM k (by omega)
    by_cases z1 : nI k = x1
    · rw [if_pos z1, if_pos (this.mp (Or.inl z1))]
    · rw [if_neg z1]
      by_cases z2 : nI k = x2
      · rw [if_pos z2, if_pos (this.mp (Or.inr (Or.inl z2)))]
      · rw [if_neg z2]
        by_cases z3 : nI k = x3
        · rw [if_pos z3, if_pos (this.mp (Or.inr (Or.inr z3)))]
        · rw [if_neg z3, if_neg (fun q => by rcases this.mpr q with y | y | y; exact z1 y; exact z2 y; exact z3 y)]
theorem bk_L {st as : Nat → Int32} {M : Nat} (b : Bool) (sums : Nat → Int32) (ha : ∀ j, j < 21 → as j = st j) : ∀ (m k f : Nat), k + m = 21 → m + 1 ≤ f → X11_isRightWithout_L75 f (b2 b) (nI k) as (rs st M k) sums = some (b2 b, as, st, sums)
  | 0, k, f + 1, hk, _ => by
    have k21 : k = 21 := by omega
    subst k21
    show X11_isRightWithout_B75 _ _ _ _ _ _ = _
    unfold X11_isRightWithout_B75
    rw [if_pos (show (21 : Int32) ≤ nI 21 by decide), gz_b2, rs_21]
  | m + 1, k, f + 1, hk, hf => by
    rw [← bk_L b sums ha m (k + 1) f (by omega) (by omega)]
    show X11_isRightWithout_B75 _ _ _ _ _ _ = _
    unfold X11_isRightWithout_B75 lat
    rw [if_neg (show ¬ (21 : Int32) ≤ nI k from nI_ge (b := 21) (by omega) (by decide)), gd_in (by omega) (by decide), gd_in (by omega) (by decide), nI_clamp (by omega), nI_1, ha k (by omega), rs_s]
theorem right_m {T : Tab} {st : Nat → Int32} (ok : okT T) (hm : mst T st) {M : Nat} {x1 x2 x3 : Int32} (hM : ∀ k, k < 21 → ((nI k = x1 ∨ nI k = x2 ∨ nI k = x3) ↔ M.testBit k = true)) (as sums : Nat → Int32) : ∃ as' sums', X11_isRightWithout x1 x2 x3 as st sums = some (b2 (decide ((items T.1).countP (isFl (wo T.2 M)) = 0)), as', st, sums') := by
  obtain ⟨as', h1, h2⟩ := put_L (st := st) hM sums 21 0 1000 as (by omega) (by omega) (fun j hj => by omega)
  have hm2 : mst (T.1, wo T.2 M) (ws st M 21) := by
    refine ⟨?_, fun j hj => ?_⟩
    · unfold ws; rw [if_neg (by omega)]; exact hm.1
    · show (if j < 21 ∧ _ then 0 else st j) = nI (if _ then 0 else T.2 j)
      by_cases z : M.testBit j = true
      · rw [if_pos ⟨hj, z⟩, if_pos z]; exact nI_0.symm
      · rw [if_neg (fun q => z q.2), if_neg z]; exact hm.2 j hj
  obtain ⟨s1, w1, w2⟩ := layWrong_m (okT_wo ok M) hm2 sums
  refine ⟨as', s1, ?_⟩
  have es : s1 0 + s1 1 = nI ((items T.1).countP (isFl (wo T.2 M))) := by rw [w2.1, w2.2.1, nI_add, cnt_B]
  have t70 := tot_le (wo T.2 M) (n := T.1) (by have := ok.2.1; omega)
  have h1' : X11_isRightWithout x1 x2 x3 as st sums = X11_isRightWithout_J66 as' (ws st M 21) sums := by
    rw [← h1, ws_0]; rfl
  rw [h1']
  have ar : X11_areRight (ws st M 21) sums = some (b2 (decide ((items T.1).countP (isFl (wo T.2 M)) = 0)), s1) := by
    unfold X11_areRight
    rw [w1, bs, es]
    by_cases z : (items T.1).countP (isFl (wo T.2 M)) = 0
    · rw [z, if_pos nI_0]; rfl
    · rw [if_neg (nI_ne0 (by omega) (by omega)), decide_eq_false z]; rfl
  unfold X11_isRightWithout_J66
  rw [ar, bs]
  have := bk_L (st := st) (as := as') (M := M) (decide ((items T.1).countP (isFl (wo T.2 M)) = 0)) s1 h2 21 0 1000 (by omega) (by omega)
  rw [rs_0] at this
  exact this
-- pairs, or none
def pm (p : Option Nat) : Nat := match p with | none => 0 | some k => 2 ^ k
def nx (p : Option Nat) : Nat := match p with | none => 0 | some k => k + 1
def p21 (p : Option Nat) : Prop := ∀ k, p = some k → k < 21
def tld (e : Nat → Nat) (p : Option Nat) : Bool := match p with | none => true | some k => decide (0 < e k)
theorem bC_sh {p : Option Nat} (h : p21 p) : (if 0 ≤ bC p then (1 : Int32) <<< (bC p &&& 31) else 0) = nI (pm p) := by
  cases p with
  | none => rfl
  | some k =>
    have := h k rfl
    rw [show bC (some k) = nI k from rfl, if_pos (nI_pos' (by omega)), shlk k this]; rfl
theorem bC_bit {p : Option Nat} (h : p21 p) {k : Nat} (hk : k < 21) : (nI k = bC p) ↔ (pm p).testBit k = true := by
  cases p with
  | none =>
    refine ⟨fun z => ?_, fun z => ?_⟩
    · have := nI_pos (n := k) (by omega); rw [z] at this; exact absurd (show bC none < 0 by decide) this
    · rw [show pm none = 0 from rfl, Nat.zero_testBit] at z; exact absurd z (by decide)
  | some j =>
    have := h j rfl
    rw [show bC (some j) = nI j from rfl, nI_eq (by omega) (by omega), show pm (some j) = 2 ^ j from rfl, Nat.testBit_two_pow, decide_eq_true_eq]
    exact eq_comm
theorem isSet_m {T : Tab} {st : Nat → Int32} (ok : okT T) (hm : mst T st) {p : Option Nat} (h : p21 p) : X11_isSet (bC p) st = some (b2 (tld T.2 p)) := by
  unfold X11_isSet
  cases p with
  | none => rfl
  | some k =>
    have := h k rfl
    have e9 := ok.2.2.1 k
    rw [show bC (some k) = nI k from rfl, if_neg (nI_pos (by omega)), gd_in (by omega) (by decide), nI_clamp (by omega), hm.2 k this]
    show _ = some (b2 (decide (0 < T.2 k)))
    by_cases z : 0 < T.2 k
    · rw [if_neg (nI_nle z (by omega)), decide_eq_true z]; rfl
    · rw [if_pos (by rw [show T.2 k = 0 by omega]; decide), decide_eq_false z]; rfl
def leF (o : Option Nat) (H : Nat) : Prop := ∃ m, o = some m ∧ m ≤ H
def okF (e : Nat → Nat) (n c : Nat) (o : Option Nat) : Prop := ∀ m, o = some m → m < 2 ^ 21 ∧ pcn m = c ∧ hits e n m
def good (e : Nat → Nat) (n H : Nat) : Prop := hits e n H ∧ ∀ k, H.testBit k = true → 0 < e k
theorem pm_lt {p : Option Nat} (h : p21 p) : pm p < 2 ^ 21 := by
  cases p with
  | none => exact Nat.two_pow_pos 21
  | some k => exact Nat.pow_lt_pow_right (by decide) (h k rfl)
theorem tld_pm {e : Nat → Nat} {p : Option Nat} : tld e p = true ↔ ∀ k, (pm p).testBit k = true → 0 < e k := by
  cases p with
  | none => exact ⟨fun _ k hk => by rw [show pm none = 0 from rfl, Nat.zero_testBit] at hk; exact absurd hk (by decide), fun _ => rfl⟩
  | some j =>
    show decide (0 < e j) = true ↔ _
    rw [decide_eq_true_eq]
    refine ⟨fun h k hk => ?_, fun h => h j (Nat.testBit_two_pow_self)⟩
    rw [show pm (some j) = 2 ^ j from rfl, Nat.testBit_two_pow, decide_eq_true_eq] at hk
    subst hk; exact h
theorem one_m {T : Tab} {st : Nat → Int32} (ok : okT T) (hm : mst T st) {p q r o : Option Nat} (hp : p21 p) (hq : p21 q) (hr : p21 r) {c : Nat} (h3 : c ≤ 3) (hc : pcn (pm p ||| pm q ||| pm r) = c) (ho : okF T.2 T.1 c o) (again : Int32 → Int32 → Int32 → Int32 → Int32 → (Nat → Int32) → (Nat → Int32) → (Nat → Int32) → Option (Int32 × (Nat → Int32) × (Nat → Int32) × (Nat → Int32))) (k206 : Int32 → Int32 → Int32 → Int32 → (Nat → Int32) → (Nat → Int32) → (Nat → Int32) → Option (Int32 × (Nat → Int32) × (Nat → Int32) × (Nat → Int32))) (as sums : Nat → Int32) : ∃ o' as' sums', (if 0 ≤ bC p then (X11_falseBits_J101 again k206 (nI c) (bM o) (bC p) (bC q) (bC r) ((1 : Int32) <<< (bC p &&& 31)) as st sums) else (X11_falseBits_J101 again k206 (nI c) (bM o) (bC p) (bC q) (bC r) 0 as st sums)) = again (nI c) (bM o') (bC p) (bC q) (bC r + 1) as' st sums' ∧ okF T.2 T.1 c o' ∧ (∀ H, leF o H → leF o' H) ∧ (good T.2 T.1 (pm p ||| pm q ||| pm r) → leF o' (pm p ||| pm q ||| pm r)) := by
  have h8 : T.1 < 8 := by have := ok.2.1; omega
  have e1 : (if 0 ≤ bC p then (X11_falseBits_J101 again k206 (nI c) (bM o) (bC p) (bC q) (bC r) ((1 : Int32) <<< (bC p &&& 31)) as st sums) else (X11_falseBits_J101 again k206 (nI c) (bM o) (bC p) (bC q) (bC r) 0 as st sums)) = X11_falseBits_J101 again k206 (nI c) (bM o) (bC p) (bC q) (bC r) (if 0 ≤ bC p then (1 : Int32) <<< (bC p &&& 31) else 0) as st sums := by split <;> rfl
  have e2 : ∀ s0, X11_falseBits_J101 again k206 (nI c) (bM o) (bC p) (bC q) (bC r) s0 as st sums = X11_falseBits_J114 again k206 (nI c) (bM o) (bC p) (bC q) (bC r) s0 (if 0 ≤ bC q then (1 : Int32) <<< (bC q &&& 31) else 0) as st sums := fun s0 => by unfold X11_falseBits_J101; split <;> rfl
  have e3 : ∀ s0 s1, X11_falseBits_J114 again k206 (nI c) (bM o) (bC p) (bC q) (bC r) s0 s1 as st sums = X11_falseBits_J128 again k206 (nI c) (bM o) (bC p) (bC q) (bC r) (s0 ||| s1) (if 0 ≤ bC r then (1 : Int32) <<< (bC r &&& 31) else 0) as st sums := fun s0 s1 => by unfold X11_falseBits_J114; split <;> rfl
  have hMl : pm p ||| pm q ||| pm r < 2 ^ 21 := Nat.or_lt_two_pow (Nat.or_lt_two_pow (pm_lt hp) (pm_lt hq)) (pm_lt hr)
  have hbit : ∀ k, k < 21 → ((nI k = bC p ∨ nI k = bC q ∨ nI k = bC r) ↔ (pm p ||| pm q ||| pm r).testBit k = true) := fun k hk => by
    rw [bC_bit hp hk, bC_bit hq hk, bC_bit hr hk, Nat.testBit_or, Nat.testBit_or, Bool.or_eq_true, Bool.or_eq_true, or_assoc]
  obtain ⟨as', sums', hR⟩ := right_m ok hm hbit as sums
  rw [e1, bC_sh hp, e2, bC_sh hq, e3, bC_sh hr, nI_or]
  unfold X11_falseBits_J128 lat
  dsimp only
  rw [isSet_m ok hm hp, bs, isSet_m ok hm hq, bs, isSet_m ok hm hr, bs, nI_or]
  have gt : good T.2 T.1 (pm p ||| pm q ||| pm r) → tld T.2 p = true ∧ tld T.2 q = true ∧ tld T.2 r = true := fun g => by
    refine ⟨tld_pm.mpr fun k hk => g.2 k ?_, tld_pm.mpr fun k hk => g.2 k ?_, tld_pm.mpr fun k hk => g.2 k ?_⟩
    · rw [Nat.testBit_or, Nat.testBit_or, hk]; simp
    · rw [Nat.testBit_or, Nat.testBit_or, hk]; simp
    · rw [Nat.testBit_or, Nat.testBit_or, hk]; simp
  generalize pm p ||| pm q ||| pm r = M at *
  have skip : ∀ v, (good T.2 T.1 M → leF o M) → ∃ o' as' sums', X11_falseBits_J173 again k206 (nI c) (bM o) (bC p) (bC q) (bC r) v as st sums = again (nI c) (bM o') (bC p) (bC q) (bC r + 1) as' st sums' ∧ okF T.2 T.1 c o' ∧ (∀ H, leF o H → leF o' H) ∧ (good T.2 T.1 M → leF o' M) := fun v g => by
    refine ⟨o, as, sums, ?_, ho, fun H h => h, g⟩
    unfold X11_falseBits_J173 X11_falseBits_J174 X11_falseBits_J198 X11_falseBits_J199 lat
    rw [if_pos rfl]
  have go : (∀ m, o = some m → M < m) → ∃ o' as' sums', X11_falseBits_J169 again k206 (nI c) (bM o) (bC p) (bC q) (bC r) (nI M) as st sums = again (nI c) (bM o') (bC p) (bC q) (bC r + 1) as' st sums' ∧ okF T.2 T.1 c o' ∧ (∀ H, leF o H → leF o' H) ∧ (good T.2 T.1 M → leF o' M) := fun hlt => by
    unfold X11_falseBits_J169 X11_falseBits_J174 X11_falseBits_J198 X11_falseBits_J199 lat
    rw [if_neg (by decide), hR, bs]
    dsimp only
    by_cases z : hits T.2 T.1 M
    · rw [decide_eq_true ((right_hits h8 hMl (by omega)).mpr z), ifb_t]
      refine ⟨some M, as', sums', rfl, fun m hm' => ?_, fun H ⟨m, h1, h2⟩ => ⟨M, rfl, ?_⟩, fun _ => ⟨M, rfl, Nat.le_refl M⟩⟩
      · injection hm' with hm'; subst hm'; exact ⟨hMl, hc, z⟩
      · have := hlt m h1; omega
    · rw [decide_eq_false (fun q => z ((right_hits h8 hMl (by omega)).mp q)), ifb_f]
      exact ⟨o, as', sums', rfl, ho, fun H h => h, fun g => absurd g.1 z⟩
  cases t1 : tld T.2 p with
  | false => rw [ifb_f]; exact skip _ (fun g => by have := (gt g).1; rw [t1] at this; exact absurd this (by decide))
  | true =>
    rw [ifb_t]
    cases t2 : tld T.2 q with
    | false => rw [ifb_f]; exact skip _ (fun g => by have := (gt g).2.1; rw [t2] at this; exact absurd this (by decide))
    | true =>
      rw [ifb_t]
      cases t3 : tld T.2 r with
      | false => rw [ifb_f]; exact skip _ (fun g => by have := (gt g).2.2; rw [t3] at this; exact absurd this (by decide))
      | true =>
        rw [ifb_t]
        cases o with
        | none =>
          rw [show bM none = -4 from rfl, if_pos rfl]
          exact go (fun m hm => by cases hm)
        | some m =>
          obtain ⟨m1, m2, m3⟩ := ho m rfl
          have n4 : ¬ nI m = -4 := fun z => by have := nI_pos (n := m) (by omega); rw [z] at this; exact this (by decide)
          rw [show bM (some m) = nI m from rfl, if_neg n4]
          by_cases z : m ≤ M
          · rw [if_pos (nI_le z (by omega))]
            exact skip _ (fun _ => ⟨m, rfl, z⟩)
          · rw [if_neg (nI_ge (by omega) (by omega))]
            exact go (fun m' hm' => by injection hm' with hm'; omega)
