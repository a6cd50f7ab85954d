/-! the length most doubted -/
def itB (n : Nat) (i : It) : Bool := decide (i.1 < i.2.1) && (decide (i.2.1 < i.2.2.1) && (decide (i.2.2.1 < n) && (decide (i.2.2.2 = 7) || (decide (i.2.2.1 < i.2.2.2) && decide (i.2.2.2 < n)))))
theorem items_b0 : ∀ n, n < 8 → (items n).all (itB n) = true := by decide +kernel
theorem items_b {n : Nat} (hn : n < 8) {i : It} (hi : i ∈ items n) : i.1 < i.2.1 ∧ i.2.1 < i.2.2.1 ∧ i.2.2.1 < n ∧ (i.2.2.2 = 7 ∨ (i.2.2.1 < i.2.2.2 ∧ i.2.2.2 < n)) := by
  have h := List.all_eq_true.mp (items_b0 n hn) i hi
  unfold itB at h
  simpa using h
theorem items_7 : ∀ n, n < 8 → (items n).all (fun i => (items 7).contains i) = true := by decide +kernel
theorem mask_b0 : (items 7).all (fun i => (List.range 21).all (fun k => decide (X10_hasBit (nI (mkI i)) (nI k) = b2 ((mkI i).testBit k)))) = true := by decide +kernel
theorem mask_b {n : Nat} (hn : n < 8) {i : It} (hi : i ∈ items n) {k : Nat} (hk : k < 21) : X10_hasBit (nI (mkI i)) (nI k) = b2 ((mkI i).testBit k) := by
  have h1 := List.all_eq_true.mp (items_7 n hn) i hi
  have h2 := List.all_eq_true.mp mask_b0 i (List.contains_iff_mem.mp h1)
  have h3 := List.all_eq_true.mp h2 k (List.mem_range.mpr hk)
  exact of_decide_eq_true h3
theorem sm_0 (f : Nat → Nat) : ∀ n, sm f (n + 1) = f 0 + sm (fun j => f (j + 1)) n
  | 0 => by show 0 + f 0 = f 0 + 0; omega
  | n + 1 => by
    have h := sm_0 f n
    show sm f (n + 1) + f (n + 1) = f 0 + (sm (fun j => f (j + 1)) n + f (n + 1))
    omega
theorem sm_cnt (p : It → Bool) (d : It) : ∀ F : List It, sm (fun j => if p (F.getD j d) = true then 1 else 0) F.length = F.countP p
  | [] => rfl
  | i :: F => by
    have h := sm_cnt p d F
    rw [List.length_cons, sm_0, List.countP_cons]
    show (if p i = true then 1 else 0) + sm (fun j => if p (F.getD j d) = true then 1 else 0) F.length = _
    rw [h]; omega
theorem sm_le1 (f : Nat → Nat) (h : ∀ j, f j ≤ 1) : ∀ n, sm f n ≤ n
  | 0 => Nat.le_refl 0
  | n + 1 => by have := sm_le1 f h n; have := h n; show sm f n + f n ≤ _; omega
/-- the flaws with a bit -/
def fw (e : Nat → Nat) (n k : Nat) : Nat := ((items n).filter (isFl e)).countP (fun i => (mkI i).testBit k)
theorem fw_cL {e : Nat → Nat} {n : Nat} (hn : n < 8) {fl : Nat → Int32} (hf : ∀ i, i < (items n).countP (isFl e) → fl i = nI (mkI (((items n).filter (isFl e)).getD i (0, 0, 0, 0)))) {k : Nat} (hk : k < 21) : ∀ (m i f : Nat), i + m = (items n).countP (isFl e) → m + 1 ≤ f → X1_flawsWith_L4 (nI ((items n).countP (isFl e))) fl f (nI k) (nI (sm (fun j => if (mkI (((items n).filter (isFl e)).getD j (0, 0, 0, 0))).testBit k = true then 1 else 0) i)) (nI i) = some (nI (fw e n k))
  | 0, i, f + 1, hi, _ => by
    have h1 := items_len n hn
    have h2 := List.countP_le_length (p := isFl e) (l := items n)
    show X1_flawsWith_B4 _ _ _ _ _ _ = _
    unfold X1_flawsWith_B4
    rw [if_pos (nI_le (by omega) (by omega)), show i = (items n).countP (isFl e) by omega, cnt_fil, sm_cnt (fun i => (mkI i).testBit k)]
    rfl
  | m + 1, i, f + 1, hi, hf' => by
    have h1 := items_len n hn
    have h2 := List.countP_le_length (p := isFl e) (l := items n)
    have h3 := fw_cL hn hf hk m (i + 1) f (by omega) (by omega)
    have hl : i < ((items n).filter (isFl e)).length := by rw [← cnt_fil]; omega
    have hmem : ((items n).filter (isFl e)).getD i (0, 0, 0, 0) ∈ items n := by
      rw [List.getD_eq_getElem?_getD, List.getElem?_eq_getElem hl]
      exact (List.mem_filter.mp (List.getElem_mem hl)).1
    show X1_flawsWith_B4 _ _ _ _ _ _ = _
    unfold X1_flawsWith_B4 lat
    rw [if_neg (nI_ge (by omega) (by omega)), if_neg (show ¬ (70 : Int32) ≤ nI i from nI_ge (b := 70) (by omega) (by decide)), gd_in (by omega) (by decide), nI_clamp (by omega), hf i (by omega), mask_b hn hmem hk, nI_1]
    have eb : X10_bit (b2 ((mkI (((items n).filter (isFl e)).getD i (0, 0, 0, 0))).testBit k)) = nI (if (mkI (((items n).filter (isFl e)).getD i (0, 0, 0, 0))).testBit k = true then 1 else 0) := by
      cases (mkI (((items n).filter (isFl e)).getD i (0, 0, 0, 0))).testBit k <;> rfl
    rw [eb, nI_add]
    exact h3
theorem fw_c {e : Nat → Nat} {n : Nat} (hn : n < 8) {fl : Nat → Int32} (hf : ∀ i, i < (items n).countP (isFl e) → fl i = nI (mkI (((items n).filter (isFl e)).getD i (0, 0, 0, 0)))) {k : Nat} (hk : k < 21) : X1_flawsWith (nI k) (nI ((items n).countP (isFl e))) fl = some (nI (fw e n k)) := by
  have h1 := items_len n hn
  have h2 := List.countP_le_length (p := isFl e) (l := items n)
  have := fw_cL hn hf hk ((items n).countP (isFl e)) 0 1000 (by omega) (by omega)
  exact this
theorem tv_u0 {e : Nat → Nat} {k a b : Nat} (h : a ≠ b) : tv (up e k 0) a b = if pr a b = k then 0 else tv e a b := by
  unfold tv up
  rw [if_neg h, if_neg h]
theorem t2_u0 {e : Nat → Nat} {k a b : Nat} (h : a ≠ b) : t2 (up e k 0) a b = (t2 e a b && !(decide (pr a b = k))) := by
  unfold t2
  rw [tv_u0 h]
  by_cases q : pr a b = k
  · rw [if_pos q, decide_eq_true q, Bool.not_true, Bool.and_false]; rfl
  · rw [if_neg q, decide_eq_false q, Bool.not_false, Bool.and_true]
theorem bit_mk3 (a b c k : Nat) : (mk3 a b c).testBit k = (decide (pr a b = k) || (decide (pr a c = k) || decide (pr b c = k))) := by
  unfold mk3
  rw [Nat.testBit_or, Nat.testBit_or, Nat.testBit_two_pow, Nat.testBit_two_pow, Nat.testBit_two_pow, Bool.or_assoc]
theorem isFl_u0 {e : Nat → Nat} {n : Nat} (hn : n < 8) {i : It} (hi : i ∈ items n) (k : Nat) : isFl (up e k 0) i = (isFl e i && !((mkI i).testBit k)) := by
  obtain ⟨h1, h2, h3, h4⟩ := items_b hn hi
  obtain ⟨a, b, c, d⟩ := i
  dsimp only at h1 h2 h3 h4
  have ab := t2_u0 (e := e) (k := k) (show a ≠ b by omega)
  have ac := t2_u0 (e := e) (k := k) (show a ≠ c by omega)
  have bc := t2_u0 (e := e) (k := k) (show b ≠ c by omega)
  have vab := tv_u0 (e := e) (k := k) (show a ≠ b by omega)
  have vac := tv_u0 (e := e) (k := k) (show a ≠ c by omega)
  have vbc := tv_u0 (e := e) (k := k) (show b ≠ c by omega)
  rcases h4 with h4 | ⟨h4, h5⟩
  · subst h4
    unfold isFl isB3 isB4 mkI
    dsimp only
    rw [decide_eq_true (show 7 = 7 from rfl), if_pos rfl, bit_mk3]
    unfold t3
    rw [ab, ac, bc]
    by_cases q1 : pr a b = k
    · simp [q1]
    by_cases q2 : pr a c = k
    · simp [q2]
    by_cases q3 : pr b c = k
    · simp [q3]
    rw [if_neg q1] at vab; rw [if_neg q2] at vac; rw [if_neg q3] at vbc
    have ec : c3 (up e k 0) a b c = c3 e a b c := by unfold c3 w3 q6; rw [vab, vac, vbc]
    rw [ec, decide_eq_false q1, decide_eq_false q2, decide_eq_false q3]
    simp
  · have d7 : ¬ d = 7 := by omega
    have ad := t2_u0 (e := e) (k := k) (show a ≠ d by omega)
    have bd := t2_u0 (e := e) (k := k) (show b ≠ d by omega)
    have cd := t2_u0 (e := e) (k := k) (show c ≠ d by omega)
    have vad := tv_u0 (e := e) (k := k) (show a ≠ d by omega)
    have vbd := tv_u0 (e := e) (k := k) (show b ≠ d by omega)
    have vcd := tv_u0 (e := e) (k := k) (show c ≠ d by omega)
    unfold isFl isB3 isB4 mkI
    dsimp only
    rw [decide_eq_false d7, if_neg d7, Nat.testBit_or, Nat.testBit_or, bit_mk3, bit_mk3, Nat.testBit_two_pow]
    unfold t4 t3
    rw [ab, ac, bc, ad, bd, cd]
    by_cases q1 : pr a b = k
    · simp [q1]
    by_cases q2 : pr a c = k
    · simp [q2]
    by_cases q3 : pr b c = k
    · simp [q3]
    by_cases q4 : pr a d = k
    · simp [q4]
    by_cases q5 : pr b d = k
    · simp [q5]
    by_cases q6' : pr c d = k
    · simp [q6']
    rw [if_neg q1] at vab; rw [if_neg q2] at vac; rw [if_neg q3] at vbc; rw [if_neg q4] at vad; rw [if_neg q5] at vbd; rw [if_neg q6'] at vcd
    have ec : c4 (up e k 0) a b c d = c4 e a b c d := by unfold c4 det dt c3 w3 q6; rw [vab, vac, vbc, vad, vbd, vcd]
    rw [ec, decide_eq_false q1, decide_eq_false q2, decide_eq_false q3, decide_eq_false q4, decide_eq_false q5, decide_eq_false q6']
    simp
theorem cnt_split (p q : It → Bool) : ∀ L : List It, L.countP (fun i => p i && !(q i)) + (L.filter p).countP q = L.countP p
  | [] => rfl
  | i :: L => by
    have h := cnt_split p q L
    rw [List.countP_cons, List.countP_cons]
    cases hp : p i with
    | false => rw [List.filter_cons_of_neg (by rw [hp]; decide)]; simp; omega
    | true =>
      rw [List.filter_cons_of_pos hp, List.countP_cons]
      cases hq : q i <;> simp <;> omega
theorem cnt_cong {p q : It → Bool} : ∀ L : List It, (∀ i ∈ L, p i = q i) → L.countP p = L.countP q
  | [], _ => rfl
  | i :: L, h => by
    rw [List.countP_cons, List.countP_cons, h i (List.mem_cons_self ..), cnt_cong L (fun j hj => h j (List.mem_cons_of_mem _ hj))]
theorem fw_u0 (e : Nat → Nat) {n : Nat} (hn : n < 8) (k : Nat) : (items n).countP (isFl (up e k 0)) + fw e n k = (items n).countP (isFl e) := by
  rw [cnt_cong (items n) (fun i hi => isFl_u0 (e := e) hn hi k)]
  exact cnt_split (isFl e) (fun i => (mkI i).testBit k) (items n)
theorem cnt_B (e : Nat → Nat) : ∀ L : List It, L.countP (isB3 e) + L.countP (isB4 e) = L.countP (isFl e)
  | [] => rfl
  | i :: L => by
    have h := cnt_B e L
    rw [List.countP_cons, List.countP_cons, List.countP_cons]
    unfold isFl isB3 isB4 at *
    by_cases q : i.2.2.2 = 7
    · simp [q]; split <;> omega
    · simp [q]; split <;> omega
def bC (o : Option Nat) : Int32 := match o with | none => -1 | some k => nI k
def bM (o : Option Nat) : Int32 := match o with | none => -4 | some k => nI k
def bN (e : Nat → Nat) (n : Nat) (o : Option Nat) : Nat := match o with | none => 0 | some k => fw e n k
theorem okT_u0 {T : Tab} (ok : okT T) (k : Nat) : okT (T.1, up T.2 k 0) := by
  refine ⟨ok.1, ok.2.1, fun j => ?_, fun j hj => ?_⟩
  · show (if j = k then 0 else T.2 j) ≤ 9999
    split
    · omega
    · exact ok.2.2.1 j
  · show (if j = k then 0 else T.2 j) = 0
    split
    · rfl
    · exact ok.2.2.2 j hj
theorem mst_u0 {T : Tab} {st : Nat → Int32} (h : mst T st) {k : Nat} (hk : k < 21) : mst (T.1, up T.2 k 0) (upd st k 0) := by
  refine ⟨?_, fun j hj => ?_⟩
  · unfold upd; rw [if_neg (by omega)]; exact h.1
  · show (if j = k then 0 else st j) = nI (if j = k then 0 else T.2 j)
    split
    · exact nI_0.symm
    · exact h.2 j hj
theorem up_id {e : Nat → Nat} {k : Nat} (h : e k = 0) : up e k 0 = e := by
  funext j; unfold up; split
  · rename_i z; rw [z, h]
  · rfl
theorem upd_id (st : Nat → Int32) (k : Nat) (x : Int32) : upd (upd st k x) k (st k) = st := by
  funext j; unfold upd; split
  · rename_i z; rw [z]
  · rfl
theorem fw_le (e : Nat → Nat) {n : Nat} (hn : n < 8) (k : Nat) : fw e n k ≤ (items n).countP (isFl e) := by have := fw_u0 e hn k; omega
theorem bN_le (e : Nat → Nat) {n : Nat} (hn : n < 8) (o : Option Nat) : bN e n o ≤ (items n).countP (isFl e) := by
  cases o with
  | none => exact Nat.zero_le _
  | some k => exact fw_le e hn k
theorem tot_le (e : Nat → Nat) {n : Nat} (hn : n < 8) : (items n).countP (isFl e) ≤ 70 := Nat.le_trans List.countP_le_length (items_len n hn)
theorem doubt_L {T : Tab} {st : Nat → Int32} (ok : okT T) (hm : mst T st) {fl : Nat → Int32} (hf : ∀ i, i < (items T.1).countP (isFl T.2) → fl i = nI (mkI (((items T.1).filter (isFl T.2)).getD i (0, 0, 0, 0)))) (x : Int32) : ∀ (m k n1 n2 : Nat) (o : Option Nat) (s : Nat → Int32), k + m = 21 → m + 1 ≤ n1 → m + 1 ≤ n2 → (∀ j, o = some j → j < k) → ∃ o' s', (∀ j, o' = some j → j < 21) ∧ X1_mostDoubted_L6 (nI ((items T.1).countP (isFl T.2))) fl n1 (bC o) (nI (bN T.2 T.1 o)) (nI k) = some (bC o') ∧ X11_doubt_L43 X11_doubt_J152 n2 x (nI ((items T.1).countP (isFl T.2))) (nI ((items T.1).countP (isFl T.2) - bN T.2 T.1 o)) (bM o) (nI k) 1 st s = X11_doubt_J152 x (nI ((items T.1).countP (isFl T.2))) (nI ((items T.1).countP (isFl T.2) - bN T.2 T.1 o')) (bM o') 1 st s'
  | 0, k, n1 + 1, n2 + 1, o, s, hk, _, _, ho => by
    refine ⟨o, s, fun j hj => by have := ho j hj; omega, ?_, ?_⟩
    · show X1_mostDoubted_B6 _ _ _ _ _ _ = _
      unfold X1_mostDoubted_B6
      rw [if_pos (show (21 : Int32) ≤ nI k from nI_le (a := 21) (by omega) (by omega))]
    · show X11_doubt_B43 _ _ _ _ _ _ _ _ _ _ = _
      unfold X11_doubt_B43
      rw [if_pos (show (21 : Int32) ≤ nI k from nI_le (a := 21) (by omega) (by omega))]
  | m + 1, k, n1 + 1, n2 + 1, o, s, hk, hn1, hn2, ho => by
    have h7 := ok.2.1
    have h8 : T.1 < 8 := by omega
    have t70 := tot_le T.2 h8
    have f1 := fw_le T.2 h8 k
    have f2 := bN_le T.2 h8 o
    have f3 := fw_u0 T.2 h8 k
    have keep := fun s => doubt_L ok hm hf x m (k + 1) n1 n2 o s (by omega) (by omega) (by omega) (fun j hj => by have := ho j hj; omega)
    have take := fun s => doubt_L ok hm hf x m (k + 1) n1 n2 (some k) s (by omega) (by omega) (by omega) (fun j hj => by injection hj; omega)
    have e9 := ok.2.2.1 k
    have g21 : ¬ (21 : Int32) ≤ nI k := nI_ge (b := 21) (by omega) (by omega)
    have cls : ∀ r, X1_mostDoubted_L6 (nI ((items T.1).countP (isFl T.2))) fl (n1 + 1) (bC o) (nI (bN T.2 T.1 o)) (nI k) = r ↔ (if nI (fw T.2 T.1 k) ≤ nI (bN T.2 T.1 o) then X1_mostDoubted_L6 (nI ((items T.1).countP (isFl T.2))) fl n1 (bC o) (nI (bN T.2 T.1 o)) (nI (k + 1)) else X1_mostDoubted_L6 (nI ((items T.1).countP (isFl T.2))) fl n1 (nI k) (nI (fw T.2 T.1 k)) (nI (k + 1))) = r := fun r => by
      have : X1_mostDoubted_L6 (nI ((items T.1).countP (isFl T.2))) fl (n1 + 1) (bC o) (nI (bN T.2 T.1 o)) (nI k) = X1_mostDoubted_B6 (nI ((items T.1).countP (isFl T.2))) fl (X1_mostDoubted_L6 (nI ((items T.1).countP (isFl T.2))) fl n1) (bC o) (nI (bN T.2 T.1 o)) (nI k) := rfl
      rw [this]
      unfold X1_mostDoubted_B6 X1_mostDoubted_J30 lat
      rw [if_neg g21, fw_c h8 hf (show k < 21 by omega), bs, nI_1]
    obtain ⟨s1, w1, w2⟩ := layWrong_m (okT_u0 ok k) (mst_u0 hm (show k < 21 by omega)) s
    have es : s1 0 + s1 1 = nI ((items T.1).countP (isFl T.2) - fw T.2 T.1 k) := by
      rw [w2.1, w2.2.1, nI_add, cnt_B]
      congr 1
      show (items T.1).countP (isFl (up T.2 k 0)) = _
      omega
    have mdl : ∀ r, X11_doubt_L43 X11_doubt_J152 (n2 + 1) x (nI ((items T.1).countP (isFl T.2))) (nI ((items T.1).countP (isFl T.2) - bN T.2 T.1 o)) (bM o) (nI k) 1 st s = r ↔ (if T.2 k = 0 then X11_doubt_L43 X11_doubt_J152 n2 x (nI ((items T.1).countP (isFl T.2))) (nI ((items T.1).countP (isFl T.2) - bN T.2 T.1 o)) (bM o) (nI (k + 1)) 1 st s else if (items T.1).countP (isFl T.2) - bN T.2 T.1 o ≤ (items T.1).countP (isFl T.2) - fw T.2 T.1 k then X11_doubt_L43 X11_doubt_J152 n2 x (nI ((items T.1).countP (isFl T.2))) (nI ((items T.1).countP (isFl T.2) - bN T.2 T.1 o)) (bM o) (nI (k + 1)) 1 st s1 else X11_doubt_L43 X11_doubt_J152 n2 x (nI ((items T.1).countP (isFl T.2))) (nI ((items T.1).countP (isFl T.2) - fw T.2 T.1 k)) (nI k) (nI (k + 1)) 1 st s1) = r := fun r => by
      have : X11_doubt_L43 X11_doubt_J152 (n2 + 1) x (nI ((items T.1).countP (isFl T.2))) (nI ((items T.1).countP (isFl T.2) - bN T.2 T.1 o)) (bM o) (nI k) 1 st s = X11_doubt_B43 (X11_doubt_L43 X11_doubt_J152 n2) X11_doubt_J152 x (nI ((items T.1).countP (isFl T.2))) (nI ((items T.1).countP (isFl T.2) - bN T.2 T.1 o)) (bM o) (nI k) 1 st s := rfl
      rw [this]
      unfold X11_doubt_B43 X11_doubt_J146 X11_doubt_J109 X11_doubt_J145 X11_doubt_J146 lat
      rw [if_neg g21, gd_in (by omega) (by decide), nI_clamp (by omega)]
      dsimp only
      rw [w1, bs, es, nI_1, upd_id, hm.2 k (by omega)]
      by_cases z : T.2 k = 0
      · rw [if_pos z, if_pos (by rw [z]; decide)]
      · rw [if_neg z, if_neg (nI_nle (by omega) (by omega))]
        by_cases y : (items T.1).countP (isFl T.2) - bN T.2 T.1 o ≤ (items T.1).countP (isFl T.2) - fw T.2 T.1 k
        · have y2 : nI ((items T.1).countP (isFl T.2) - bN T.2 T.1 o) ≤ nI ((items T.1).countP (isFl T.2) - fw T.2 T.1 k) := nI_le y (by omega)
          rw [if_pos y, if_pos y2, if_pos y2]
        · have y2 : ¬ nI ((items T.1).countP (isFl T.2) - bN T.2 T.1 o) ≤ nI ((items T.1).countP (isFl T.2) - fw T.2 T.1 k) := nI_ge (by omega) (by omega)
          rw [if_neg y, if_neg y2, if_neg y2]
    simp only [cls, mdl]
    by_cases z : T.2 k = 0
    · have f0 : fw T.2 T.1 k = 0 := by
        rw [up_id z] at f3; omega
      rw [if_pos z, if_pos (nI_le (by omega) (by omega))]
      exact keep s
    · rw [if_neg z]
      by_cases y : fw T.2 T.1 k ≤ bN T.2 T.1 o
      · rw [if_pos (nI_le y (by omega)), if_pos (by omega)]
        exact keep s1
      · rw [if_neg (nI_ge (by omega) (by omega)), if_neg (by omega)]
        exact take s1
theorem b0C : bC none = -1 := rfl
theorem b0M : bM none = -4 := rfl
theorem b0N (e : Nat → Nat) (n : Nat) : bN e n none = 0 := rfl
theorem doubt_0 {T : Tab} {st : Nat → Int32} (ok : okT T) (hm : mst T st) {fl : Nat → Int32} (hf : ∀ i, i < (items T.1).countP (isFl T.2) → fl i = nI (mkI (((items T.1).filter (isFl T.2)).getD i (0, 0, 0, 0)))) (x : Int32) (s : Nat → Int32) : ∃ o' s', (∀ j, o' = some j → j < 21) ∧ X1_mostDoubted (nI ((items T.1).countP (isFl T.2))) fl = some (bC o') ∧ X11_doubt_L43 X11_doubt_J152 1000 x (nI ((items T.1).countP (isFl T.2))) (nI ((items T.1).countP (isFl T.2))) (-4) 0 1 st s = X11_doubt_J152 x (nI ((items T.1).countP (isFl T.2))) (nI ((items T.1).countP (isFl T.2) - bN T.2 T.1 o')) (bM o') 1 st s' := by
  have h := doubt_L ok hm hf x 21 0 1000 1000 none s (by omega) (by omega) (by omega) (fun j hj => by cases hj)
  rw [b0C, b0M, b0N, Nat.sub_zero, nI_0] at h
  unfold X1_mostDoubted
  exact h
theorem doubt_m {T : Tab} {aw : Int32} {st : Nat → Int32} (hm : mQ T aw st) (x : Int32) {sums s' : Nat → Int32} (e3 : X11_layWrong (awk aw st) sums = some s') : X11_doubt x aw st sums = if b2 (rng 0 1 x) = 0 then some (-1, 1, awk aw st, sums) else X11_doubt_L43 X11_doubt_J152 1000 x (s' 0 + s' 1) (s' 0 + s' 1) (-4) 0 1 (awk aw st) s' := by
  have key : ∀ (F : Int32 → Int32 → Int32 → Int32 → Int32 → Int32 → (Nat → Int32) → (Nat → Int32) → Option (Int32 × Int32 × (Nat → Int32) × (Nat → Int32))), (lat (X11_awake aw st) fun u7 => if (X11_in x.toInt64 (0 : Int64) (1 : Int64)) = 0 then (some ((-1 : Int32), u7.1, u7.2, sums)) else ((X11_layWrong u7.2 sums).bind fun u8 => lat ((u8 0) + (u8 1)) fun v9 => F x v9 v9 (-4 : Int32) (0 : Int32) u7.1 u7.2 u8)) = if b2 (rng 0 1 x) = 0 then some (-1, 1, awk aw st, sums) else F x (s' 0 + s' 1) (s' 0 + s' 1) (-4) 0 1 (awk aw st) s' := by
    intro F
    rw [awake_m hm, in_01]
    unfold lat
    dsimp only
    rw [e3, bs]
  exact key (X11_doubt_L43 X11_doubt_J152 1000)
theorem q_doubt {T : Tab} {pl aw : Int32} {sq st : Nat → Int32} (ok : okT T) (hc : cT T pl sq) (hm : mQ T aw st) (x : Int32) (g1 g2 g3 g4 g5 : Int32) (g6 sums : Nat → Int32) : ∃ u um, X10_doubt x g1 g2 g3 g4 g5 g6 pl sq = some u ∧ X11_doubt x aw st sums = some um ∧ u.1 = um.1 ∧ um.2.1 = 1 ∧ um.2.2.1 = awk aw st := by
  have h7 := ok.2.1
  have h8 : T.1 < 8 := by omega
  obtain ⟨b4, b3, f3, sz, t3, fl, e1, e2⟩ := lookAt_c ok hc g1 g2 g3 g4 g5 g6
  obtain ⟨s', e3, e4⟩ := layWrong_m ok hm.st sums
  rw [doubt_m hm x e3]
  unfold X10_doubt
  rw [e1, bs]
  dsimp only
  cases h : rng 0 1 x with
  | false =>
    rw [ifb_f]
    refine ⟨(-1, g1, g2, g3, g4, g5, g6), _, ?_, rfl, rfl, rfl, rfl⟩
    unfold rng at h
    rw [nI_0, show nI 1 = 1 from rfl] at h
    by_cases q : x < 0
    · rw [if_pos q]
    · rw [if_neg q, if_neg (fun z => by simp [q, z] at h)]
  | true =>
    rw [ifb_t]
    have h2 := h
    unfold rng at h2
    rw [nI_0, show nI 1 = 1 from rfl] at h2
    simp only [Bool.and_eq_true, Bool.not_eq_true', decide_eq_false_iff_not, decide_eq_true_eq] at h2
    rw [if_neg h2.1, if_pos h2.2]
    obtain ⟨c1, c2, c3, c4, c5, c6⟩ := e2
    have es : s' 0 + s' 1 = nI ((items T.1).countP (isFl T.2)) := by rw [e4.1, e4.2.1, nI_add, cnt_B]
    have t70 := tot_le T.2 h8
    obtain ⟨o, s2, k1, k2, k3⟩ := doubt_0 ok hm.st c6 x s'
    have k2' : X1_mostDoubted sz fl = some (bC o) := by rw [c4]; exact k2
    rw [es, k2', bs, k3]
    unfold X11_doubt_J152
    cases o with
    | none =>
      rw [show bC none = -1 from rfl, show bM none = -4 from rfl, if_pos rfl, if_pos rfl]
      exact ⟨_, _, rfl, rfl, rfl, rfl, rfl⟩
    | some k =>
      have hk := k1 k rfl
      have n1 : ¬ nI k = -1 := fun z => by have := nI_pos (n := k) (by omega); rw [z] at this; exact this (by decide)
      have n4 : ¬ nI k = -4 := fun z => by have := nI_pos (n := k) (by omega); rw [z] at this; exact this (by decide)
      rw [show bC (some k) = nI k from rfl, show bM (some k) = nI k from rfl, if_neg n1, if_neg n4]
      by_cases x0 : x = 0
      · rw [if_pos x0, if_pos x0]; exact ⟨_, _, rfl, rfl, rfl, rfl, rfl⟩
      · have f1 := fw_le T.2 h8 k
        rw [if_neg x0, if_neg x0, c4, fw_c h8 c6 hk, bs]
        refine ⟨_, _, rfl, rfl, ?_, rfl, rfl⟩
        show nI (fw T.2 T.1 k) = nI _ - nI (_ - fw T.2 T.1 k)
        rw [nI_sub' (by omega)]
        congr 1; omega
