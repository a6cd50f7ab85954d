/-! the same, counted by the reference -/
def mW (e : Nat → Nat) (P : List It) (s : Nat → Int32) : Prop := s 0 = nI (P.countP (isB3 e)) ∧ s 1 = nI (P.countP (isB4 e)) ∧ s 2 = nI (P.countP (isF3 e)) ∧ s 3 = nI (P.countP (isT3 e))
theorem mW_go {e : Nat → Nat} {P : List It} {s s' : Nat → Int32} (h : mW e P s) (i : It) (h0 : s' 0 = s 0 + b2 (isB3 e i)) (h1 : s' 1 = s 1 + b2 (isB4 e i)) (h2 : s' 2 = s 2 + b2 (isF3 e i)) (h3 : s' 3 = s 3 + b2 (isT3 e i)) : mW e (P ++ [i]) s' := by
  obtain ⟨g0, g1, g2, g3⟩ := h
  refine ⟨?_, ?_, ?_, ?_⟩
  · rw [cnt_1, h0, g0, b2_nI, nI_add]
  · rw [cnt_1, h1, g1, b2_nI, nI_add]
  · rw [cnt_1, h2, g2, b2_nI, nI_add]
  · rw [cnt_1, h3, g3, b2_nI, nI_add]
theorem mW_cong {e : Nat → Nat} {P : List It} {s s' : Nat → Int32} (h : mW e P s) (h0 : ∀ k, k < 4 → s' k = s k) : mW e P s' := ⟨by rw [h0 0 (by omega)]; exact h.1, by rw [h0 1 (by omega)]; exact h.2.1, by rw [h0 2 (by omega)]; exact h.2.2.1, by rw [h0 3 (by omega)]; exact h.2.2.2⟩
theorem upd_e (f : Nat → Int32) (k : Nat) (x : Int32) : upd f k x k = x := by unfold upd; rw [if_pos rfl]
theorem upd_n (f : Nat → Int32) {k j : Nat} (x : Int32) (h : j ≠ k) : upd f k x j = f j := by unfold upd; rw [if_neg h]
theorem four_mL {T : Tab} {st : Nat → Int32} (ok : okT T) (hm : ∀ k, k < 21 → st k = nI (T.2 k)) (kk : Int32 → Int32 → Int32 → Int32 → (Nat → Int32) → Option (Nat → Int32)) {a b c : Nat} (hab : a < b) (hbc : b < c) (hcn : c < T.1) : ∀ (m d n : Nat) (P : List It) (s : Nat → Int32), d + m = T.1 → c < d → m + 1 ≤ n → mW T.2 P s → ∃ s', X11_layWrong_L134 st kk n (nI T.1) (nI a) (nI b) (nI c) (nI d) s = kk (nI T.1) (nI a) (nI b) (nI c) s' ∧ mW T.2 (P ++ qd a b c m d) s'
  | 0, d, n + 1, P, s, hd, _, _, hW => by
    have h7 := ok.2.1
    refine ⟨s, ?_, by rw [show qd a b c 0 d = [] from rfl, List.append_nil]; exact hW⟩
    show X11_layWrong_B134 _ _ _ _ _ _ _ _ _ = _
    unfold X11_layWrong_B134
    rw [if_pos (nI_le (by omega) (by omega))]
  | m + 1, d, n + 1, P, s, hd, hcd, hn, hW => by
    have h7 := ok.2.1
    have d7 : ¬ d = 7 := by omega
    have n3 : isB3 T.2 (a, b, c, d) = false := by unfold isB3; rw [decide_eq_false d7]; rfl
    have nf : isF3 T.2 (a, b, c, d) = false := by unfold isF3; rw [decide_eq_false d7]; rfl
    have nt : isT3 T.2 (a, b, c, d) = false := by unfold isT3; rw [decide_eq_false d7]; rfl
    have e4 : isB4 T.2 (a, b, c, d) = (t4 T.2 a b c d && !(c4 T.2 a b c d)) := by unfold isB4; rw [decide_eq_false d7]; rfl
    have step : ∃ s', X11_layWrong_L134 st kk n (nI T.1) (nI a) (nI b) (nI c) (nI (d + 1)) (upd s 1 (s 1 + b2 (isB4 T.2 (a, b, c, d)))) = kk (nI T.1) (nI a) (nI b) (nI c) s' ∧ mW T.2 (P ++ qd a b c (m + 1) d) s' := by
      obtain ⟨s', g1, g2⟩ := four_mL ok hm kk hab hbc hcn m (d + 1) n (P ++ [(a, b, c, d)]) (upd s 1 (s 1 + b2 (isB4 T.2 (a, b, c, d)))) (by omega) (by omega) (by omega) (mW_go hW _ (by rw [n3, a0, upd_n _ _ (by decide)]) (by rw [upd_e]) (by rw [nf, a0, upd_n _ _ (by decide)]) (by rw [nt, a0, upd_n _ _ (by decide)]))
      refine ⟨s', g1, ?_⟩
      rw [List.append_assoc] at g2; exact g2
    show ∃ s', X11_layWrong_B134 _ _ _ _ _ _ _ _ _ = _ ∧ _
    unfold X11_layWrong_B134 X11_layWrong_J177 X11_layWrong_J178 lat
    rw [if_neg (nI_ge (by omega) (by omega)), allTold_m ok hm (by omega) (by omega) (by omega) (by omega), canFour_m ok hm (by omega) (by omega) (by omega) (by omega)]
    simp only [bs, nI_1]
    rw [show gd (1 : Int32) 4 = fun (o : Option (Nat → Int32)) => o from funext fun o => gd_in (j := 1) (by decide) (by decide) o]
    rw [show (1 : Int32).toNatClampNeg = 1 from rfl]
    cases q1 : t4 T.2 a b c d with
    | false =>
      rw [e4, q1] at step
      rw [ifb_f]; exact step
    | true =>
      rw [ifb_t]
      rw [e4, q1] at step
      cases q2 : c4 T.2 a b c d with
      | true => rw [q2] at step; rw [ifb_t]; exact step
      | false => rw [q2] at step; rw [ifb_f]; exact step
theorem mW_none {e : Nat → Nat} {s : Nat → Int32} : ∀ (X P : List It), (∀ i ∈ X, isB4 e i = false ∧ isB3 e i = false ∧ isF3 e i = false ∧ isT3 e i = false) → mW e P s → mW e (P ++ X) s
  | [], P, _, h => by rw [List.append_nil]; exact h
  | i :: X, P, hX, h => by
    obtain ⟨z1, z2, z3, z4⟩ := hX i (List.mem_cons_self ..)
    have h2 := mW_go h i (s' := s) (by rw [z2, a0]) (by rw [z1, a0]) (by rw [z3, a0]) (by rw [z4, a0])
    have h3 := mW_none X (P ++ [i]) (fun j hj => hX j (List.mem_cons_of_mem _ hj)) h2
    rw [List.append_assoc] at h3
    exact h3
theorem three_mL {T : Tab} {st : Nat → Int32} (ok : okT T) (hm : ∀ k, k < 21 → st k = nI (T.2 k)) (kk : Int32 → Int32 → Int32 → (Nat → Int32) → Option (Nat → Int32)) {a b : Nat} (hab : a < b) (hbn : b < T.1) : ∀ (m c n : Nat) (P : List It) (s : Nat → Int32), c + m = T.1 → b < c → m + 1 ≤ n → mW T.2 P s → ∃ s', X11_layWrong_L49 st kk n (nI T.1) (nI a) (nI b) (nI c) s = kk (nI T.1) (nI a) (nI b) s' ∧ mW T.2 (P ++ lC T.1 a b m c) s'
  | 0, c, n + 1, P, s, hd, _, _, hW => by
    have h7 := ok.2.1
    refine ⟨s, ?_, by rw [show lC T.1 a b 0 c = [] from rfl, List.append_nil]; exact hW⟩
    show X11_layWrong_B49 _ _ _ _ _ _ _ _ = _
    unfold X11_layWrong_B49
    rw [if_pos (nI_le (by omega) (by omega))]
  | m + 1, c, n + 1, P, s, hd, hbc, hn, hW => by
    have h7 := ok.2.1
    have n4 : isB4 T.2 (a, b, c, 7) = false := by unfold isB4; rw [decide_eq_true rfl]; rfl
    have e3 : isB3 T.2 (a, b, c, 7) = (t3 T.2 a b c && !(c3 T.2 a b c)) := by unfold isB3; rw [decide_eq_true rfl]; rfl
    have ef3 : isF3 T.2 (a, b, c, 7) = (t3 T.2 a b c && decide (w3 T.2 a b c = 0)) := by unfold isF3; rw [decide_eq_true rfl]; rfl
    have et3 : isT3 T.2 (a, b, c, 7) = t3 T.2 a b c := by unfold isT3; rw [decide_eq_true rfl]; rfl
    have eL : lC T.1 a b (m + 1) c = l3 T.1 a b c ++ lC T.1 a b m (c + 1) := rfl
    have step : ∀ s1, mW T.2 (P ++ l3 T.1 a b c) s1 → ∃ s', X11_layWrong_J186 (X11_layWrong_L49 st kk n) kk (nI T.1) (nI a) (nI b) (nI c) s1 = kk (nI T.1) (nI a) (nI b) s' ∧ mW T.2 (P ++ lC T.1 a b (m + 1) c) s' := fun s1 h1 => by
      obtain ⟨s', g1, g2⟩ := three_mL ok hm kk hab hbn m (c + 1) n (P ++ l3 T.1 a b c) s1 (by omega) (by omega) (by omega) h1
      refine ⟨s', ?_, by rw [eL, ← List.append_assoc]; exact g2⟩
      unfold X11_layWrong_J186 lat
      rw [nI_1]; exact g1
    have fours : ∀ s1, mW T.2 (P ++ [(a, b, c, 7)]) s1 → ∃ s', X11_layWrong_L134 st (X11_layWrong_J186 (X11_layWrong_L49 st kk n) kk) 1000 (nI T.1) (nI a) (nI b) (nI c) (nI (c + 1)) s1 = kk (nI T.1) (nI a) (nI b) s' ∧ mW T.2 (P ++ lC T.1 a b (m + 1) c) s' := fun s1 h1 => by
      obtain ⟨s2, g1, g2⟩ := four_mL ok hm (X11_layWrong_J186 (X11_layWrong_L49 st kk n) kk) hab hbc (show c < T.1 by omega) (T.1 - (c + 1)) (c + 1) 1000 (P ++ [(a, b, c, 7)]) s1 (by omega) (by omega) (by omega) h1
      rw [List.append_assoc] at g2
      rw [g1]
      exact step s2 g2
    show ∃ s', X11_layWrong_B49 _ _ _ _ _ _ _ _ = _ ∧ _
    unfold X11_layWrong_B49 X11_layWrong_J99 X11_layWrong_J126 X11_layWrong_J128 lat
    rw [if_neg (nI_ge (by omega) (by omega)), areTold_m ok hm (by omega) (by omega) (by omega), canBe_m ok hm (by omega) (by omega) (by omega), wideOf_m ok hm (by omega) (by omega) (by omega)]
    simp only [bs, nI_1]
    rw [show gd (0 : Int32) 4 = fun (o : Option (Nat → Int32)) => o from funext fun o => gd_in (j := 0) (by decide) (by decide) o, show gd (2 : Int32) 4 = fun (o : Option (Nat → Int32)) => o from funext fun o => gd_in (j := 2) (by decide) (by decide) o]
    rw [show (0 : Int32).toNatClampNeg = 0 from rfl, show (2 : Int32).toNatClampNeg = 2 from rfl]
    cases q1 : t3 T.2 a b c with
    | false =>
      rw [ifb_f]
      obtain ⟨s2, g1, g2⟩ := four_mL ok hm (X11_layWrong_J186 (X11_layWrong_L49 st kk n) kk) hab hbc (show c < T.1 by omega) (T.1 - (c + 1)) (c + 1) 1000 (P ++ [(a, b, c, 7)]) s (by omega) (by omega) (by omega) (mW_go hW _ (by rw [e3, q1]; exact (a0 _).symm) (by rw [n4, a0]) (by rw [ef3, q1]; exact (a0 _).symm) (by rw [et3, q1, a0]))
      rw [List.append_assoc] at g2
      rw [g1]
      exact step s2 g2
    | true =>
      rw [ifb_t]
      rw [q1] at e3 ef3 et3
      have fin : ∀ (x z : Int32), x = b2 (isB3 T.2 (a, b, c, 7)) → z = b2 (isF3 T.2 (a, b, c, 7)) → mW T.2 (P ++ [(a, b, c, 7)]) (upd (upd (upd s 3 (s 3 + 1)) 0 (upd s 3 (s 3 + 1) 0 + x)) 2 (upd (upd s 3 (s 3 + 1)) 0 (upd s 3 (s 3 + 1) 0 + x) 2 + z)) := fun x z hx hz => by
        refine mW_go hW _ ?_ ?_ ?_ ?_
        · rw [upd_n _ _ (by decide), upd_e, upd_n _ _ (by decide), hx]
        · rw [upd_n _ _ (by decide), upd_n _ _ (by decide), upd_n _ _ (by decide), n4, a0]
        · rw [upd_e, upd_n _ _ (by decide), upd_n _ _ (by decide), hz]
        · rw [upd_n _ _ (by decide), upd_n _ _ (by decide), upd_e, et3, a1]
      cases q2 : c3 T.2 a b c with
      | true =>
        rw [ifb_t]
        rw [q2] at e3
        by_cases q3 : w3 T.2 a b c = 0
        · rw [decide_eq_true q3] at ef3
          rw [if_pos q3]
          exact fours _ (fin 0 1 (by rw [e3]; rfl) (by rw [ef3]; rfl))
        · rw [decide_eq_false q3] at ef3
          rw [if_neg q3]
          exact fours _ (fin 0 0 (by rw [e3]; rfl) (by rw [ef3]; rfl))
      | false =>
        rw [ifb_f]
        rw [q2] at e3
        by_cases q3 : w3 T.2 a b c = 0
        · rw [decide_eq_true q3] at ef3
          rw [if_pos q3]
          exact fours _ (fin 1 1 (by rw [e3]; rfl) (by rw [ef3]; rfl))
        · rw [decide_eq_false q3] at ef3
          rw [if_neg q3]
          exact fours _ (fin 1 0 (by rw [e3]; rfl) (by rw [ef3]; rfl))
theorem two_mL {T : Tab} {st : Nat → Int32} (ok : okT T) (hm : ∀ k, k < 21 → st k = nI (T.2 k)) (kk : Int32 → Int32 → (Nat → Int32) → Option (Nat → Int32)) {a : Nat} (han : a < T.1) : ∀ (m b n : Nat) (P : List It) (s : Nat → Int32), b + m = T.1 → a < b → m + 1 ≤ n → mW T.2 P s → ∃ s', X11_layWrong_L39 st kk n (nI T.1) (nI a) (nI b) s = kk (nI T.1) (nI a) s' ∧ mW T.2 (P ++ lB T.1 a m b) s'
  | 0, b, n + 1, P, s, hd, _, _, hW => by
    have h7 := ok.2.1
    refine ⟨s, ?_, by rw [show lB T.1 a 0 b = [] from rfl, List.append_nil]; exact hW⟩
    show X11_layWrong_B39 _ _ _ _ _ _ _ = _
    unfold X11_layWrong_B39
    rw [if_pos (nI_le (by omega) (by omega))]
  | m + 1, b, n + 1, P, s, hd, hab, hn, hW => by
    have h7 := ok.2.1
    have eL : lB T.1 a (m + 1) b = lC T.1 a b (T.1 - (b + 1)) (b + 1) ++ lB T.1 a m (b + 1) := rfl
    obtain ⟨s1, g1, g2⟩ := three_mL ok hm (X11_layWrong_J192 (X11_layWrong_L39 st kk n) kk) hab (show b < T.1 by omega) (T.1 - (b + 1)) (b + 1) 1000 P s (by omega) (by omega) (by omega) hW
    obtain ⟨s2, k1, k2⟩ := two_mL ok hm kk han m (b + 1) n (P ++ lC T.1 a b (T.1 - (b + 1)) (b + 1)) s1 (by omega) (by omega) (by omega) g2
    refine ⟨s2, ?_, by rw [eL, ← List.append_assoc]; exact k2⟩
    show X11_layWrong_B39 _ _ _ _ _ _ _ = _
    unfold X11_layWrong_B39 lat
    rw [if_neg (nI_ge (by omega) (by omega)), nI_1]
    dsimp only
    rw [g1]
    unfold X11_layWrong_J192 lat
    rw [nI_1]; exact k1
theorem one_mL {T : Tab} {st : Nat → Int32} (ok : okT T) (hm : ∀ k, k < 21 → st k = nI (T.2 k)) : ∀ (m a n : Nat) (P : List It) (s : Nat → Int32), a + m = T.1 → m + 1 ≤ n → mW T.2 P s → ∃ s', X11_layWrong_L30 st n (nI T.1) (nI a) s = some s' ∧ mW T.2 (P ++ lA T.1 m a) s'
  | 0, a, n + 1, P, s, hd, _, hW => by
    have h7 := ok.2.1
    refine ⟨s, ?_, by rw [show lA T.1 0 a = [] from rfl, List.append_nil]; exact hW⟩
    show X11_layWrong_B30 _ _ _ _ _ = _
    unfold X11_layWrong_B30
    rw [if_pos (nI_le (by omega) (by omega))]
  | m + 1, a, n + 1, P, s, hd, hn, hW => by
    have h7 := ok.2.1
    have eL : lA T.1 (m + 1) a = lB T.1 a (T.1 - (a + 1)) (a + 1) ++ lA T.1 m (a + 1) := rfl
    obtain ⟨s1, g1, g2⟩ := two_mL ok hm (X11_layWrong_J198 (X11_layWrong_L30 st n)) (show a < T.1 by omega) (T.1 - (a + 1)) (a + 1) 1000 P s (by omega) (by omega) (by omega) hW
    obtain ⟨s2, k1, k2⟩ := one_mL ok hm m (a + 1) n (P ++ lB T.1 a (T.1 - (a + 1)) (a + 1)) s1 (by omega) (by omega) g2
    refine ⟨s2, ?_, by rw [eL, ← List.append_assoc]; exact k2⟩
    show X11_layWrong_B30 _ _ _ _ _ = _
    unfold X11_layWrong_B30 lat
    rw [if_neg (nI_ge (by omega) (by omega)), nI_1]
    dsimp only
    rw [g1]
    unfold X11_layWrong_J198 lat
    rw [nI_1]; exact k1
theorem zero_mL (kk : (Nat → Int32) → Option (Nat → Int32)) : ∀ (m i n : Nat) (s : Nat → Int32), i + m = 4 → m + 1 ≤ n → (∀ k, k < i → s k = 0) → ∃ s', X11_layWrong_L2 kk n (nI i) s = kk s' ∧ ∀ k, k < 4 → s' k = 0
  | 0, i, n + 1, s, hi, _, h => by
    refine ⟨s, ?_, by rw [show i = 4 by omega] at h; exact h⟩
    show X11_layWrong_B2 _ _ _ _ = _
    unfold X11_layWrong_B2
    rw [if_pos (show (4 : Int32) ≤ nI i from nI_le (a := 4) (by omega) (by omega))]
  | m + 1, i, n + 1, s, hi, hn, h => by
    obtain ⟨s', h1, h2⟩ := zero_mL kk m (i + 1) n (upd s i 0) (by omega) (by omega) (fun k hk => by
      unfold upd
      split
      · rfl
      · exact h k (by omega))
    refine ⟨s', ?_, h2⟩
    show X11_layWrong_B2 _ _ _ _ = _
    unfold X11_layWrong_B2 lat
    rw [if_neg (show ¬ (4 : Int32) ≤ nI i from nI_ge (b := 4) (by omega) (by omega)), gd_in (by omega) (by decide), nI_clamp (by omega), nI_1]
    exact h1
theorem mW_perm {e : Nat → Nat} {P Q : List It} (h : P.Perm Q) {s : Nat → Int32} (hw : mW e Q s) : mW e P s := by
  obtain ⟨h0, h1, h2, h3⟩ := hw
  exact ⟨by rw [h.countP_eq]; exact h0, by rw [h.countP_eq]; exact h1, by rw [h.countP_eq]; exact h2, by rw [h.countP_eq]; exact h3⟩
theorem layWrong_m {T : Tab} {st : Nat → Int32} (ok : okT T) (hm : mst T st) (s : Nat → Int32) : ∃ s', X11_layWrong st s = some s' ∧ mW T.2 (items T.1) s' := by
  have h7 := ok.2.1
  obtain ⟨s1, h1, h2⟩ := zero_mL (X11_layWrong_J20 st) 4 0 1000 s (by omega) (by omega) (fun k h => absurd h (Nat.not_lt_zero k))
  obtain ⟨s2, g1, g2⟩ := one_mL ok hm.2 T.1 0 1000 [] s1 (by omega) (by omega) ⟨h2 0 (by omega), h2 1 (by omega), h2 2 (by omega), h2 3 (by omega)⟩
  refine ⟨s2, ?_, mW_perm (items_perm (by omega)) g2⟩
  unfold X11_layWrong
  rw [nI_0] at h1 g1
  rw [h1]
  unfold X11_layWrong_J20 lat
  rw [hm.1]; exact g1
theorem q_wrong {T : Tab} {pl aw : Int32} {sq st : Nat → Int32} (ok : okT T) (hc : cT T pl sq) (hm : mQ T aw st) (x : Int32) (g1 g2 g3 g4 g5 : Int32) (g6 sums : Nat → Int32) : ∃ u um, X10_wrong x g1 g2 g3 g4 g5 g6 pl sq = some u ∧ X11_wrong x aw st sums = some um ∧ u.1 = um.1 ∧ um.2.1 = 1 ∧ um.2.2.1 = awk aw st := by
  unfold X10_wrong X11_wrong lat
  rw [awake_m hm, in_03]
  dsimp only
  obtain ⟨b4, b3, f3, sz, t3, fl, e1, e2⟩ := lookAt_c ok hc g1 g2 g3 g4 g5 g6
  obtain ⟨s', e3, e4⟩ := layWrong_m ok hm.st sums
  rw [e1, e3]
  simp only [bs]
  cases h : rng 0 3 x with
  | false =>
    rw [ifb_f]
    refine ⟨(-1, g1, g2, g3, g4, g5, g6), _, ?_, rfl, rfl, rfl, rfl⟩
    unfold rng at h
    rw [nI_0, show nI 3 = 3 from rfl] at h
    by_cases q : x < 0
    · rw [if_pos q]
    · rw [if_neg q, if_neg (fun z => by simp [q, z] at h)]
  | true =>
    rw [ifb_t]
    obtain ⟨j, _, hj, rfl⟩ := rng_of (by decide) (by decide) h
    rw [if_neg (nI_pos (by omega)), if_pos (show nI j ≤ 3 from nI_le (b := 3) hj (by decide)), gd_in (by omega) (by decide), nI_clamp (by omega)]
    obtain ⟨c1, c2, c3, c4, c5, c6⟩ := e2
    obtain ⟨d1, d2, d3, d4⟩ := e4
    rcases (show j = 0 ∨ j = 1 ∨ j = 2 ∨ j = 3 by omega) with rfl | rfl | rfl | rfl
    · exact ⟨_, _, rfl, rfl, by show b3 = s' 0; rw [c2, d1], rfl, rfl⟩
    · exact ⟨_, _, rfl, rfl, by show b4 = s' 1; rw [c1, d2], rfl, rfl⟩
    · exact ⟨_, _, rfl, rfl, by show f3 = s' 2; rw [c3, d3], rfl, rfl⟩
    · exact ⟨_, _, rfl, rfl, by show t3 = s' 3; rw [c5, d4], rfl, rfl⟩
