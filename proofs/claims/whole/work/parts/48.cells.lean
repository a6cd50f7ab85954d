/-! cells changed: the table -/
theorem gd_in {α : Type} {j n : Nat} (h : j < n) (hn : n < 2 ^ 31) (o : Option α) : gd (nI j) n o = o := by
  unfold gd; rw [if_neg (nI_in h hn)]
theorem nI_mul (a b : Nat) : nI a * nI b = nI (a * b) := (Int32.ofNat_mul a b).symm
def up (e : Nat → Nat) (k v : Nat) : Nat → Nat := fun j => if j = k then v else e j
def prI (a b c d : Nat) : Bool := decide (a = b) || (decide (c = d) || (decide (¬ pr a b = pr c d) || (decide (c = a ∧ d = b) || decide (c = b ∧ d = a))))
theorem pr_inj0 : ∀ a, a < 7 → ∀ b, b < 7 → ∀ c, c < 7 → ∀ d, d < 7 → prI a b c d = true := by decide +kernel
theorem pr_inj {a b c d : Nat} (ha : a < 7) (hb : b < 7) (hc : c < 7) (hd : d < 7) (h1 : a ≠ b) (h2 : c ≠ d) (h3 : pr a b = pr c d) : (c = a ∧ d = b) ∨ (c = b ∧ d = a) := by
  have h := pr_inj0 a ha b hb c hc d hd
  unfold prI at h
  simp only [Bool.or_eq_true, decide_eq_true_eq] at h
  rcases h with h | h | h | h
  · exact absurd h h1
  · exact absurd h h2
  · exact absurd h3 h
  · exact h
theorem pr_symm {a b : Nat} (h : a ≠ b) : pr a b = pr b a := by
  unfold pr
  by_cases q : a < b
  · rw [if_pos q, if_neg (by omega)]
  · rw [if_neg q, if_pos (by omega)]
theorem pr_bound : ∀ n, n < 8 → ∀ a, a < n → ∀ b, b < n → a ≠ b → pr a b < n * (n - 1) / 2 := by decide +kernel
theorem tv_up {e : Nat → Nat} {a b c d v : Nat} (ha : a < 7) (hb : b < 7) (hc : c < 7) (hd : d < 7) (hab : a ≠ b) : tv (up e (pr a b) v) c d = if (c = a ∧ d = b) ∨ (c = b ∧ d = a) then v else tv e c d := by
  unfold tv up
  by_cases h : c = d
  · subst h; rw [if_pos rfl, if_pos rfl, if_neg (by omega)]
  · rw [if_neg h, if_neg h]
    by_cases h2 : (c = a ∧ d = b) ∨ (c = b ∧ d = a)
    · rw [if_pos h2]
      rcases h2 with ⟨rfl, rfl⟩ | ⟨rfl, rfl⟩
      · rw [if_pos rfl]
      · rw [if_pos (pr_symm h)]
    · rw [if_neg h2, if_neg (fun q => h2 (pr_inj ha hb hc hd hab h q.symm))]
theorem okT_up {T : Tab} (ok : okT T) {a b v : Nat} (ha : a < T.1) (hb : b < T.1) (hab : a ≠ b) (hv : v ≤ 9999) : okT (T.1, up T.2 (pr a b) v) := by
  refine ⟨ok.1, ok.2.1, fun k => ?_, fun k hk => ?_⟩
  · show (if k = pr a b then v else T.2 k) ≤ 9999
    split
    · exact hv
    · exact ok.2.2.1 k
  · show (if k = pr a b then v else T.2 k) = 0
    have := pr_bound T.1 (by have := ok.2.1; omega) a ha b hb hab
    rw [if_neg (by show ¬ k = pr a b; have h2 : T.1 * (T.1 - 1) / 2 ≤ k := hk; omega)]
    exact ok.2.2.2 k hk
theorem put_c {T : Tab} {pl : Int32} {sq : Nat → Int32} (h : cT T pl sq) {a b : Nat} (ha : a < 7) (hb : b < 7) (hab : a ≠ b) (v : Nat) : ∃ sq', X8_put (nI a) (nI b) (nI v) sq = some sq' ∧ cT (T.1, up T.2 (pr a b) v) pl sq' := by
  unfold X8_put lat
  rw [show (7 : Int32) = nI 7 from rfl, if_neg (nI_pos (by omega)), if_neg (nI_ge (a := a) (b := 7) (by omega) (by decide)), if_neg (nI_pos (by omega)), if_neg (nI_ge (a := b) (b := 7) (by omega) (by decide)), if_neg (fun z => hab ((nI_eq (by omega) (by omega)).mp z))]
  rw [nI_mul, nI_mul, nI_add, nI_add, gd_in (by omega) (by decide)]
  dsimp only
  rw [gd_in (by omega) (by decide), nI_clamp (by omega), nI_clamp (by omega)]
  refine ⟨_, rfl, h.1, fun c d hc hd => ?_⟩
  rw [tv_up ha hb hc hd hab]
  unfold upd
  by_cases h1 : c = a ∧ d = b
  · obtain ⟨rfl, rfl⟩ := h1
    rw [if_neg (by omega), if_pos rfl, if_pos (Or.inl ⟨rfl, rfl⟩)]
  · by_cases h2 : c = b ∧ d = a
    · obtain ⟨rfl, rfl⟩ := h2
      rw [if_pos rfl, if_pos (Or.inr ⟨rfl, rfl⟩)]
    · rw [if_neg (by omega), if_neg (by omega), if_neg (by omega)]
      exact h.2 c d hc hd
theorem put_m {T : Tab} {st : Nat → Int32} (h : mst T st) {a b : Nat} (v : Nat) (ha : a < 7) (hb : b < 7) (hab : a ≠ b) : mst (T.1, up T.2 (pr a b) v) (upd st (pr a b) (nI v)) := by
  have p := pr_lt a ha b hb hab
  refine ⟨?_, fun k hk => ?_⟩
  · unfold upd; rw [if_neg (by omega)]; exact h.1
  · show (if k = pr a b then nI v else st k) = nI (if k = pr a b then v else T.2 k)
    split
    · rfl
    · exact h.2 k hk
/-- a length told or untold: the table after it -/
def tl (T : Tab) (x y z : Int32) : Tab := if two T.1 x y = true ∧ (z = -4 ∨ rng 1 9999 z = true) then (T.1, up T.2 (pr x.toNatClampNeg y.toNatClampNeg) (if z = -4 then 0 else z.toNatClampNeg)) else T
theorem tl_ok {T : Tab} (ok : okT T) (x y z : Int32) : okT (tl T x y z) := by
  unfold tl
  split
  · rename_i h
    obtain ⟨a, b, ha, hb, hab, rfl, rfl⟩ := two_of (by have := ok.2.1; omega) h.1
    rw [nI_clamp (by have := ok.2.1; omega), nI_clamp (by have := ok.2.1; omega)]
    refine okT_up ok ha hb hab ?_
    split
    · omega
    · rcases h.2 with h2 | h2
      · contradiction
      · obtain ⟨j, h3, h4, rfl⟩ := rng_of (by decide) (by decide) h2
        rw [nI_clamp (by omega)]; exact h4
  · exact ok
theorem tl_c {T : Tab} {pl : Int32} {sq : Nat → Int32} (ok : okT T) (hc : cT T pl sq) (x y z : Int32) : ((two T.1 x y && (decide (z = -4) || rng 1 9999 z)) = false ∧ tl T x y z = T) ∨ ∃ a b v, a < T.1 ∧ b < T.1 ∧ a ≠ b ∧ x = nI a ∧ y = nI b ∧ v ≤ 9999 ∧ two T.1 x y = true ∧ (z = -4 ∧ v = 0 ∧ rng 1 9999 z = false ∨ ¬ z = -4 ∧ z = nI v ∧ rng 1 9999 z = true) ∧ tl T x y z = (T.1, up T.2 (pr a b) v) := by
  have h7 := ok.2.1
  unfold tl
  cases h : two T.1 x y with
  | false => left; exact ⟨rfl, if_neg (fun q => by simp at q)⟩
  | true =>
    obtain ⟨a, b, ha, hb, hab, rfl, rfl⟩ := two_of (by omega) h
    by_cases e : z = -4
    · right
      refine ⟨a, b, 0, ha, hb, hab, rfl, rfl, by omega, rfl, Or.inl ⟨e, rfl, by rw [e]; decide⟩, ?_⟩
      rw [if_pos ⟨rfl, Or.inl e⟩, if_pos e, nI_clamp (by omega), nI_clamp (by omega)]
    · cases r : rng 1 9999 z with
      | false => left; exact ⟨by simp [e], if_neg (fun q => by simp [e] at q)⟩
      | true =>
        right
        obtain ⟨v, h3, h4, rfl⟩ := rng_of (by decide) (by decide) r
        refine ⟨a, b, v, ha, hb, hab, rfl, rfl, h4, rfl, Or.inr ⟨e, rfl, rfl⟩, ?_⟩
        rw [if_pos ⟨rfl, Or.inr rfl⟩, if_neg e, nI_clamp (by omega), nI_clamp (by omega), nI_clamp (by omega)]
def tlr (T : Tab) (x y z : Int32) : Int32 := if two T.1 x y = true ∧ (z = -4 ∨ rng 1 9999 z = true) then (if t2 T.2 x.toNatClampNeg y.toNatClampNeg = false then -4 else nI (tv T.2 x.toNatClampNeg y.toNatClampNeg)) else -1
theorem q_tell {T : Tab} {pl aw : Int32} {sq st : Nat → Int32} (ok : okT T) (hc : cT T pl sq) (hm : mQ T aw st) (x y z : Int32) : ∃ r sq' st', X10_tell x y z pl sq = some (r, sq') ∧ X11_tells2 x y z aw st = some (r, 1, st') ∧ cT (tl T x y z) pl sq' ∧ mst (tl T x y z) st' ∧ (∀ k, 21 < k → st' k = st k) ∧ (r = -1 → (two T.1 x y && (decide (z = -4) || rng 1 9999 z)) = false ∧ tl T x y z = T ∧ sq' = sq ∧ st' = awk aw st) := by
  have h7 := ok.2.1
  have hp := hc.1; subst hp
  unfold X10_tell X11_tells2 X10_tell_J27 X11_tells2_J29 X8_toldOrNone X10_tell_J55 X11_tells2_J52 lat
  rw [areTwo_c, areTwo_m ok hm, isSq_c]
  simp only [bs, in_sq]
  rcases tl_c ok hc x y z with ⟨h, e⟩ | ⟨a, b, v, ha, hb, hab, rfl, rfl, hv, h, h2, e⟩
  · rw [e]
    refine ⟨-1, sq, awk aw st, ?_, ?_, hc, hm.st, fun k hk => awk_ne (by omega), fun _ => ⟨h, rfl, rfl, rfl⟩⟩
    · cases h1 : two T.1 x y with
      | false => rw [ifb_f]
      | true =>
        rw [h1] at h; simp at h
        rw [ifb_t, if_neg h.1, h.2, ifb_f]
    · cases h1 : two T.1 x y with
      | false => rw [ifb_f]
      | true =>
        rw [h1] at h; simp at h
        rw [ifb_t, if_neg h.1, h.2, ifb_f]
  · have p := pr_lt a (by omega) b (by omega) hab
    rw [e, h, ifb_t, ifb_t, square_c hc (by omega) (by omega), sq_m ok hm.st.2 (by omega) (by omega), pairOf_m a (by omega) b (by omega), if_neg hab, gd_in (by omega) (by decide), gd_in (by omega) (by decide), nI_clamp (by omega)]
    simp only [bs, eq0_c ok, eq0_m ok]
    obtain ⟨sq', e1, e2⟩ := put_c hc (a := a) (b := b) (by omega) (by omega) hab v
    have hl := tv_le ok a b
    have em : (q6 T.2 a b).toInt32 = nI (tv T.2 a b) := lN_i _
    refine ⟨if t2 T.2 a b = false then -4 else nI (tv T.2 a b), sq', upd (awk aw st) (pr a b) (nI v), ?_, ?_, e2, put_m hm.st v (by omega) (by omega) hab, ?_, ?_⟩
    · rcases h2 with ⟨rfl, rfl, h3⟩ | ⟨h4, rfl, h3⟩
      · rw [if_pos rfl]
        rw [nI_0] at e1
        split
        · rw [bs, if_pos rfl, e1, bs]
        · rw [bs, if_pos rfl, e1, bs]
      · rw [if_neg h4, h3, ifb_t]
        split
        · rw [bs, e1, bs]
        · rw [bs, e1, bs]
    · rcases h2 with ⟨rfl, rfl, h3⟩ | ⟨h4, rfl, h3⟩
      · rw [h3, ifb_f, if_pos rfl, nI_0]
        split
        · rw [if_pos rfl]
        · rw [if_pos rfl, em, gd_in (by omega) (by decide)]
      · rw [h3, ifb_t]
        split
        · rfl
        · rw [em, gd_in (by omega) (by decide)]
    · intro k hk; unfold upd; rw [if_neg (by omega)]; exact awk_ne (by omega)
    · intro h3
      split at h3
      · exact absurd h3 (by decide)
      · exact absurd h3 (fun z => by have := nI_pos (n := tv T.2 a b) (by omega); rw [z] at this; exact this (by decide))
