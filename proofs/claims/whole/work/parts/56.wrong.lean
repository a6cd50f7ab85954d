/-! the same, counted by the reference -/
def mW (e : Nat → Nat) (P : List It) (s : Nat → Int32) : Prop := s 0 = nI (P.countP (isB3 e)) ∧ s 1 = nI (P.countP (isB4 e)) ∧ s 2 = nI (P.countP (isF3 e)) ∧ s 3 = nI (P.countP (isT3 e))
theorem mW_go {e : Nat → Nat} {P : List It} {s s' : Nat → Int32} (h : mW e P s) (i : It) (h0 : s' 0 = s 0 + b2 (isB3 e i)) (h1 : s' 1 = s 1 + b2 (isB4 e i)) (h2 : s' 2 = s 2 + b2 (isF3 e i)) (h3 : s' 3 = s 3 + b2 (isT3 e i)) : mW e (P ++ [i]) s' := by
  obtain ⟨g0, g1, g2, g3⟩ := h
  refine ⟨?_, ?_, ?_, ?_⟩
  · rw [cnt_1, h0, g0, b2_nI, nI_add]
  · rw [cnt_1, h1, g1, b2_nI, nI_add]
  · rw [cnt_1, h2, g2, b2_nI, nI_add]
  · rw [cnt_1, h3, g3, b2_nI, nI_add]
theorem mW_cong {e : Nat → Nat} {P : List It} {s s' : Nat → Int32} (h : mW e P s) (h0 : ∀ k, k < 4 → s' k = s k) : mW e P s' := ⟨by rw [h0 0 (by omega)]; exact h.1, by rw [h0 1 (by omega)]; exact h.2.1, by rw [h0 2 (by omega)]; exact h.2.2.1, by rw [h0 3 (by omega)]; exact h.2.2.2⟩
theorem upd_e (f : Nat → Int32) (k : Nat) (x : Int32) : upd f k x k = x := by unfold upd; rw [if_pos rfl]
theorem upd_n (f : Nat → Int32) {k j : Nat} (x : Int32) (h : j ≠ k) : upd f k x j = f j := by unfold upd; rw [if_neg h]
theorem four_mL {T : Tab} {st : Nat → Int32} (ok : okT T) (hm : ∀ k, k < 21 → st k = nI (T.2 k)) (kk : Int32 → Int32 → Int32 → Int32 → (Nat → Int32) → Option (Nat → Int32)) {a b c : Nat} (hab : a < b) (hbc : b < c) (hcn : c < T.1) : ∀ (m d n : Nat) (P : List It) (s : Nat → Int32), d + m = T.1 → c < d → m + 1 ≤ n → mW T.2 P s → ∃ s', X11_layWrong_L134 st kk n (nI T.1) (nI a) (nI b) (nI c) (nI d) s = kk (nI T.1) (nI a) (nI b) (nI c) s' ∧ mW T.2 (P ++ qd a b c m d) s'
  | 0, d, n + 1, P, s, hd, _, _, hW => by
    have h7 := ok.2.1
    refine ⟨s, ?_, by rw [show qd a b c 0 d = [] from rfl, List.append_nil]; exact hW⟩
    show X11_layWrong_B134 _ _ _ _ _ _ _ _ _ = _
    unfold X11_layWrong_B134
    rw [if_pos (nI_le (by omega) (by omega))]
  | m + 1, d, n + 1, P, s, hd, hcd, hn, hW => by
    have h7 := ok.2.1
    have d7 : ¬ d = 7 := by omega
    have n3 : isB3 T.2 (a, b, c, d) = false := by unfold isB3; rw [decide_eq_false d7]; rfl
    have nf : isF3 T.2 (a, b, c, d) = false := by unfold isF3; rw [decide_eq_false d7]; rfl
    have nt : isT3 T.2 (a, b, c, d) = false := by unfold isT3; rw [decide_eq_false d7]; rfl
    have e4 : isB4 T.2 (a, b, c, d) = (t4 T.2 a b c d && !(c4 T.2 a b c d)) := by unfold isB4; rw [decide_eq_false d7]; rfl
    have step : ∃ s', X11_layWrong_L134 st kk n (nI T.1) (nI a) (nI b) (nI c) (nI (d + 1)) (upd s 1 (s 1 + b2 (isB4 T.2 (a, b, c, d)))) = kk (nI T.1) (nI a) (nI b) (nI c) s' ∧ mW T.2 (P ++ qd a b c (m + 1) d) s' := by
      obtain ⟨s', g1, g2⟩ := four_mL ok hm kk hab hbc hcn m (d + 1) n (P ++ [(a, b, c, d)]) (upd s 1 (s 1 + b2 (isB4 T.2 (a, b, c, d)))) (by omega) (by omega) (by omega) (mW_go hW _ (by rw [n3, a0, upd_n _ _ (by decide)]) (by rw [upd_e]) (by rw [nf, a0, upd_n _ _ (by decide)]) (by rw [nt, a0, upd_n _ _ (by decide)]))
      refine ⟨s', g1, ?_⟩
      rw [List.append_assoc] at g2; exact g2
    show ∃ s', X11_layWrong_B134 _ _ _ _ _ _ _ _ _ = _ ∧ _
    unfold X11_layWrong_B134 X11_layWrong_J177 X11_layWrong_J178 lat
    rw [if_neg (nI_ge (by omega) (by omega)), allTold_m ok hm (by omega) (by omega) (by omega) (by omega), canFour_m ok hm (by omega) (by omega) (by omega) (by omega)]
    simp only [bs, nI_1]
    rw [show gd (1 : Int32) 4 = fun (o : Option (Nat → Int32)) => o from funext fun o => gd_in (j := 1) (by decide) (by decide) o]
    rw [show (1 : Int32).toNatClampNeg = 1 from rfl]
    cases q1 : t4 T.2 a b c d with
    | false =>
      rw [e4, q1] at step
      rw [ifb_f]; exact step
    | true =>
      rw [ifb_t]
      rw [e4, q1] at step
      cases q2 : c4 T.2 a b c d with
      | true => rw [q2] at step; rw [ifb_t]; exact step
      | false => rw [q2] at step; rw [ifb_f]; exact step
