/-- the length of text k, and its sign at j -/
def sLenN (k : Nat) : Nat := sxL.getD k 0
def sLen (k : Nat) : Int32 := Int32.ofNat (sLenN k)
def sChr (k j : Nat) : Int32 := (sxB.getD k []).getD j 0
theorem sChr_c : ∀ k, k < 2 → ∀ j, j < sLenN k → (((sxB.getD k []).getD j 0 &&& 255).toUInt32 % 65536).toInt32 = sChr k j := by decide
theorem sChr_n : ∀ k, k < 2 → ∀ j, j < sLenN k → narrow .char (.int (sChr k j)) = .int (sChr k j) := by decide
theorem sLen_s : ∀ k, k < 2 → (sLen k >>> ((0 : Int32) &&& 31)) = sLen k := by decide
theorem sLen_lt {k : Nat} (hk : k < 2) {x : Int32} (h0 : ¬ x < 0) (h1 : x.toNatClampNeg < sLenN k) : x < sLen k := by
  have hx : x = Int32.ofNat x.toNatClampNeg := by
    have h := Int32.not_lt.mp h0
    have h2 : (0 : Int) ≤ x.toInt := by simpa using Int32.le_iff_toInt_le.mp h
    apply Int32.toInt_inj.mp
    rw [Int32.toInt_ofNat_of_lt (by have : x.toNatClampNeg = x.toInt.toNat := rfl; have := Int32.toInt_lt x; omega)]
    show x.toInt = ((x.toInt.toNat : Nat) : Int)
    omega
  rw [hx]
  have key : ∀ k, k < 2 → ∀ j, j < sLenN k → Int32.ofNat j < sLen k := by decide
  exact key k hk _ h1
section STR
variable {Z : RZ} {cc : ByteArray} {own : String} {Ts : List Cond} {nL : Nat} {rm : Room} {β : Type} {E : β → Option (Option Value × va_W)} {kc ks pc : Nat} {L : List (Nat × Value)} {S : List Value} {w : va_W} {o : β}
theorem rn_gets (hX : Cx Z cc own Ts nL rm) {C n d : String} {v : Value} {index : Nat} (hZ : va_Z C n d v (zA Z) (zs Z) (zs Z).heap) (hlink : (Cond.fieldLink own index C n d).before (za Z) (zs Z) = true) (hdg : decode cc pc = .ok (.getstatic index, 3)) (q : Nat) (hq : pc + 3 = q) (k : Rn Z nL E kc ks q L (v :: S) w o) : Rn Z nL E kc ks pc L S w o := by
  subst hq; intro rv w' hE H locs ls hP hD hS hl
  exact va_gets hX.1.1 hX.1.2.1 hZ hS hX.1.2.2.2.1 hlink (fun _ h => h) hdg (k rv w' hE H locs ls hP hD hS hl)
theorem rn_getk (hX : Cx Z cc own Ts nL rm) {C n d : String} {v : Value} {index a : Nat} (hF : va_OF C n d v a (zA Z) (zs Z) (zs Z).heap) (hlink : (Cond.fieldLink own index C n d).before (za Z) (zs Z) = true) (hdg : decode cc pc = .ok (.getfield index, 3)) (q : Nat) (hq : pc + 3 = q) (k : Rn Z nL E kc ks q L (v :: S) w o) : Rn Z nL E kc ks pc L (.ref a :: S) w o := by
  subst hq; intro rv w' hE H locs ls hP hD hS hl
  exact vk_getf hX.1.1 hX.1.2.1 hF hS hX.1.2.2.2.1 hlink (fun _ h => h) hdg (k rv w' hE H locs ls hP hD hS hl)
theorem rn_tlen (hX : Cx Z cc own Ts nL rm) {a N : Nat} {f : Nat → Value} (hT : va_T .byte a N f (zA Z) (zs Z) (zs Z).heap) (hdg : decode cc pc = .ok (.arraylength, 1)) (q : Nat) (hq : pc + 1 = q) (k : Rn Z nL E kc ks q L (.int (Int32.ofNat N) :: S) w o) : Rn Z nL E kc ks pc L (.ref a :: S) w o := by
  subst hq; intro rv w' hE H locs ls hP hD hS hl
  exact va_tlen hX.1.1 hX.1.2.1 hT hS rfl hdg (k rv w' hE H locs ls hP hD hS hl)
theorem rn_tb (hX : Cx Z cc own Ts nL rm) {a N : Nat} {f : Nat → Value} (hT : va_T .byte a N f (zA Z) (zs Z) (zs Z).heap) {i : Int32} (hi : vp_in i N) {v : Value} (hv : f i.toNatClampNeg = v) (hdg : decode cc pc = .ok (.baload, 1)) (q : Nat) (hq : pc + 1 = q) (k : Rn Z nL E kc ks q L (v :: S) w o) : Rn Z nL E kc ks pc L (.int i :: .ref a :: S) w o := by
  subst hq; intro rv w' hE H locs ls hP hD hS hl
  exact va_tb hX.1.1 hX.1.2.1 hT hS hi hv hdg (k rv w' hE H locs ls hP hD hS hl)
theorem rn_i2c (hX : Cx Z cc own Ts nL rm) {x v : Int32} (hv : (x.toUInt32 % 65536).toInt32 = v) (hdg : decode cc pc = .ok (.i2c, 1)) (q : Nat) (hq : pc + 1 = q) (k : Rn Z nL E kc ks q L (.int v :: S) w o) : Rn Z nL E kc ks pc L (.int x :: S) w o := by
  subst hq; intro rv w' hE H locs ls hP hD hS hl
  exact lv_i2c hX.1.1 hX.1.2.1 hdg hv (k rv w' hE H locs ls hP hD hS hl)
theorem rn_anull_n (hX : Cx Z cc own Ts nL rm) (hdg : decode cc pc = .ok (.pop, 1)) {x : Int32} (q : Nat) (hq : pc + 1 = q) (k : Rn Z nL E kc ks q L S w o) : Rn Z nL E kc ks pc L (.int x :: S) w o := rn_pop hX hdg q hq rfl k
theorem rn_callVS (hX : Cx Z cc own Ts nL rm) {y : MethodName} {ws ws1 : List Cond} {rmc : Room} {index maxL n : Nat} {bytes : ByteArray} {ret : Option FieldType} (hGd : GoodIn Ts (wsV own index "java/lang/String" y ws)) (hw : ws = Cond.code y bytes maxL ret :: ws1) (hd : y.cls = "java/lang/String" ∧ y.cls ≠ "java/lang/invoke/MethodHandle" ∧ y.cls ≠ "java/lang/invoke/VarHandle" ∧ (parseMethodDescriptor y.desc).map (fun d => d.parameters.length) = some n) (hrc : rmc.cells = 0) (hrs : rmc.slots = 0) (hRm : rmc.frames + 1 ≤ rm.frames ∧ 8 + (maxL + 11) + rmc.locals ≤ rm.locals) {kx : Nat} (hkx : kx < 2) {As : List Value} {wc : va_W} {rv : Option Value} (hM : Ctr (zl Z) (zG Z) y ws rmc (.ref ((zG Z).2.2.1 kx) :: As) wc rv wc) (hn : As.length = n) (isC : List Nat) (hC : isC.map (fun i => w[i]?) = wc.map some) (hnd : va_nd isC = true) {st S' : List Value} (hst : st = As.reverse ++ .ref ((zG Z).2.2.1 kx) :: S) (hsum : (S.map fun v => v.category).sum ≤ 8) (hdg : decode cc pc = .ok (.invokevirtual index, 3)) (q : Nat) (hq : pc + 3 = q) (hS' : rv.toList ++ S = S') (hkc : kc ≤ rm.cells ∧ ks ≤ rm.slots) (k : Rn Z nL E kc ks q L S' w o) : Rn Z nL E kc ks pc L st w o := by
  subst hq; subst hst; subst hS'
  intro rv0 w0 hE H locs ls hP hD hS hl
  have hR := hX.2.2.2.2.2
  have hCf : isC.filterMap (fun i => w[i]?) = wc := by
    have h1 : isC.filterMap (fun i => w[i]?) = (isC.map (fun i => w[i]?)).filterMap id := by rw [List.filterMap_map]; rfl
    rw [h1, hC, List.filterMap_map]
    exact List.filterMap_some
  have hPc : va_P (zG Z).1 vwCl wc H := hP.sub isC hCf
  have hFc := va_free hD hS hX.2.2.2.2.1 isC hC
  have hDc : va_D (fun _ => True) wc := (hD.sub isC hnd hC).weaken (fun _ _ _ _ => trivial)
  have hpre : ∀ U : State, U.heap = H → (zs Z).WarmedH U.vm → va_Pc (Value.ref ((zG Z).2.2.1 kx) :: As) (Pm (zG Z) wc H.size) (Value.ref ((zG Z).2.2.1 kx) :: As).toArray U := fun U hU hW => ⟨rfl, by rw [hU], by rw [hU]; exact hPc, hDc, va_K.moved hW.alike hX.2.1, hX.2.2.1.warm hW, by rw [hU]; exact hX.2.2.2.1.move hW hFc hS.2.1⟩
  intro T hT X
  obtain ⟨v, st₀, t, T', L', h0, X', hL, e1, e2, ⟨⟨hv, hP1⟩, hz, hk⟩, st⟩ := (va_runV (g := F0 (zm Z) pc ls (As.reverse ++ .ref ((zG Z).2.2.1 kx) :: S)) (below := zb Z) (meth := zh Z) (e := ze Z) (locs := locs) (cells := kc) (slots := ks) hX.1 (hM H.size) (cwV n hX.1.2.2.2.2 hGd hw hrc hrs hd (by rw [hR]; exact hRm)) ⟨Pm.blind, vk_recv hX.2.2.2.1.1 hkx hS, hpre⟩ rfl hn hl.1 rfl (by show 2 * 0 + _ ≤ 8; omega) hdg (by rw [hR]; exact hkc)) T hT X
  cases hv
  rw [h0] at hz hk
  obtain ⟨hP2, hD2⟩ := put_join (H1 := T'.heap) hP hD isC hC rfl (fun q h1 h2 => by rw [e1]; exact hk q h1 h2) (by rw [e1]; exact hP1)
  rw [putAll_same isC w wc hC] at hP2 hD2
  obtain ⟨t2, a1, b1⟩ := k rv0 w0 hE T'.heap (locs ++ L') ls hP2 hD2
    ⟨Nat.le_trans hS.1 (by rw [e1]; exact hz), fun q h1 h2 => by rw [e1, hk q (Nat.lt_of_lt_of_le h1 hS.1) (fun z => h2 (hFc q z))]; exact hS.2.1 q h1 h2, fun q hq => by
      rcases List.mem_append.mp hq with h | h
      · exact hS.2.2 q h
      · exact hFc _ (hL q h)⟩ hl T' rfl X'
  exact ⟨t2, st t2 a1, b1⟩
end STR
abbrev rmJ0_coder_7d493 : Room := { frames := 0, cells := 0, slots := 0, locals := 0 }
theorem hdV_J0_coder_7d493 : yJ0_coder_7d493.cls = "java/lang/String" ∧ yJ0_coder_7d493.cls ≠ "java/lang/invoke/MethodHandle" ∧ yJ0_coder_7d493.cls ≠ "java/lang/invoke/VarHandle" ∧ (parseMethodDescriptor yJ0_coder_7d493.desc).map (fun d => d.parameters.length) = some 0 := by decide +kernel
set_option maxHeartbeats 4000000 in
set_option maxRecDepth 100000 in
theorem c_J0_coder_7d493 (l : Launch) (G : GT) (kx : Nat) (hk : kx < 2) : Ctr l G yJ0_coder_7d493 wsJ0_coder_7d493 rmJ0_coder_7d493 [.ref (G.2.2.1 kx)] [] (some (.int 0)) [] := by
  obtain ⟨enc, henc⟩ : ∃ enc : Int32 → Option Value × va_W, enc = fun u => (some (.int u), []) := ⟨_, rfl⟩
  refine ctr_of (cc := cJ0_coder_7d493) (own := RJ0) (E := fun o => some (enc o)) (o := (0 : Int32)) (by decide) rfl rfl (L := [(0, .ref (G.2.2.1 kx))]) rfl (Nat.le_of_ble_eq_true rfl) (by rw [henc]) ?_
  intro Z hX hl hG hr
  subst hl; subst hG
  have fl38 : (Cond.fieldLink RJ0 38 "java/lang/String" "COMPACT_STRINGS" "Z").before (za Z) (zs Z) = true := hX.wd (mcC _ wd_454)
  have fl15 : (Cond.fieldLink RJ0 15 "java/lang/String" "coder" "B").before (za Z) (zs Z) = true := hX.wd (mcC _ wd_1457)
  refine rn_gets hX hX.2.2.2.1.2.1 fl38 dJ0_coder_7d493_0 3 rfl ?_
  refine rn_hif_eq hX dJ0_coder_7d493_3 13 (by decide) 6 rfl (fun h => absurd h (by decide)) (fun _ => ?_)
  refine rn_aload_n hX dJ0_coder_7d493_6 0 rfl 7 rfl ?_
  refine rn_getk hX (hX.2.2.2.1.1.1 kx hk).2.1 fl15 dJ0_coder_7d493_7 10 rfl ?_
  refine rn_goto hX dJ0_coder_7d493_10 14 (by decide) ?_
  exact rn_zret hX rfl hr (by rw [henc]) dJ0_coder_7d493_14
abbrev rmJ0_isLatin1_aae02 : Room := { frames := 0, cells := 0, slots := 0, locals := 0 }
theorem hdV_J0_isLatin1_aae02 : yJ0_isLatin1_aae02.cls = "java/lang/String" ∧ yJ0_isLatin1_aae02.cls ≠ "java/lang/invoke/MethodHandle" ∧ yJ0_isLatin1_aae02.cls ≠ "java/lang/invoke/VarHandle" ∧ (parseMethodDescriptor yJ0_isLatin1_aae02.desc).map (fun d => d.parameters.length) = some 0 := by decide +kernel
set_option maxHeartbeats 4000000 in
set_option maxRecDepth 100000 in
theorem c_J0_isLatin1_aae02 (l : Launch) (G : GT) (kx : Nat) (hk : kx < 2) : Ctr l G yJ0_isLatin1_aae02 wsJ0_isLatin1_aae02 rmJ0_isLatin1_aae02 [.ref (G.2.2.1 kx)] [] (some (.int 1)) [] := by
  obtain ⟨enc, henc⟩ : ∃ enc : Int32 → Option Value × va_W, enc = fun u => (some (.int u), []) := ⟨_, rfl⟩
  refine ctr_of (cc := cJ0_isLatin1_aae02) (own := RJ0) (E := fun o => some (enc o)) (o := (1 : Int32)) (by decide) rfl rfl (L := [(0, .ref (G.2.2.1 kx))]) rfl (Nat.le_of_ble_eq_true rfl) (by rw [henc]) ?_
  intro Z hX hl hG hr
  subst hl; subst hG
  have fl38 : (Cond.fieldLink RJ0 38 "java/lang/String" "COMPACT_STRINGS" "Z").before (za Z) (zs Z) = true := hX.wd (mcC _ wd_454)
  have fl15 : (Cond.fieldLink RJ0 15 "java/lang/String" "coder" "B").before (za Z) (zs Z) = true := hX.wd (mcC _ wd_1457)
  refine rn_gets hX hX.2.2.2.1.2.1 fl38 dJ0_isLatin1_aae02_0 3 rfl ?_
  refine rn_hif_eq hX dJ0_isLatin1_aae02_3 17 (by decide) 6 rfl (fun h => absurd h (by decide)) (fun _ => ?_)
  refine rn_aload_n hX dJ0_isLatin1_aae02_6 0 rfl 7 rfl ?_
  refine rn_getk hX (hX.2.2.2.1.1.1 kx hk).2.1 fl15 dJ0_isLatin1_aae02_7 10 rfl ?_
  refine rn_hif_ne hX dJ0_isLatin1_aae02_10 17 (by decide) 13 rfl (fun h => absurd rfl h) (fun _ => ?_)
  refine rn_iconst hX dJ0_isLatin1_aae02_13 14 rfl ic_1 ?_
  refine rn_goto hX dJ0_isLatin1_aae02_14 18 (by decide) ?_
  exact rn_zret hX rfl hr (by rw [henc]) dJ0_isLatin1_aae02_18
abbrev rmJ0_length_8abf5 : Room := { frames := 1, cells := 0, slots := 0, locals := 20 }
theorem hdV_J0_length_8abf5 : yJ0_length_8abf5.cls = "java/lang/String" ∧ yJ0_length_8abf5.cls ≠ "java/lang/invoke/MethodHandle" ∧ yJ0_length_8abf5.cls ≠ "java/lang/invoke/VarHandle" ∧ (parseMethodDescriptor yJ0_length_8abf5.desc).map (fun d => d.parameters.length) = some 0 := by decide +kernel
set_option maxHeartbeats 4000000 in
set_option maxRecDepth 100000 in
theorem c_J0_length_8abf5 (l : Launch) (G : GT) (kx : Nat) (hk : kx < 2) : Ctr l G yJ0_length_8abf5 wsJ0_length_8abf5 rmJ0_length_8abf5 [.ref (G.2.2.1 kx)] [] (some (.int (sLen kx))) [] := by
  obtain ⟨enc, henc⟩ : ∃ enc : Int32 → Option Value × va_W, enc = fun u => (some (.int u), []) := ⟨_, rfl⟩
  refine ctr_of (cc := cJ0_length_8abf5) (own := RJ0) (E := fun o => some (enc o)) (o := sLen kx) (by decide) rfl rfl (L := [(0, .ref (G.2.2.1 kx))]) rfl (Nat.le_of_ble_eq_true rfl) (by rw [henc]) ?_
  intro Z hX hl hG hr
  subst hl; subst hG
  have fl9 : (Cond.fieldLink RJ0 9 "java/lang/String" "value" "[B").before (za Z) (zs Z) = true := hX.wd (mcC _ wd_1456)
  refine rn_aload_n hX dJ0_length_8abf5_0 0 rfl 1 rfl ?_
  refine rn_getk hX (hX.2.2.2.1.1.1 kx hk).2.2.1 fl9 dJ0_length_8abf5_1 4 rfl ?_
  refine rn_tlen hX (hX.2.2.2.1.1.1 kx hk).2.2.2 dJ0_length_8abf5_4 5 rfl ?_
  refine rn_aload_n hX dJ0_length_8abf5_5 0 rfl 6 rfl ?_
  refine rn_callVS hX (gV mcC wd_450 wd_451 wd_452 wd_83 wd_453) rfl hdV_J0_coder_7d493 rfl rfl ⟨Nat.le_of_ble_eq_true rfl, Nat.le_of_ble_eq_true rfl⟩ hk (c_J0_coder_7d493 (zl Z) (zG Z) kx hk) rfl [] rfl rfl rfl (Nat.le_of_ble_eq_true rfl) dJ0_length_8abf5_6 9 rfl (S' := [.int 0, .int (Int32.ofNat (sxL.getD kx 0))]) rfl ⟨Nat.zero_le _, Nat.zero_le _⟩ ?_
  refine rn_ishr hX dJ0_length_8abf5_9 10 rfl ?_
  exact rn_iret hX hr (by rw [henc]; show some (some (Value.int (sLen kx)), ([] : va_W)) = some (some (Value.int (sLen kx >>> ((0 : Int32) &&& 31))), []); rw [sLen_s kx hk]) dJ0_length_8abf5_10
abbrev rmJ3_checkIndex_8e157 : Room := { frames := 0, cells := 0, slots := 0, locals := 0 }
theorem hdS_J3_checkIndex_8e157 : yJ3_checkIndex_8e157.cls ≠ "java/lang/invoke/MethodHandle" ∧ yJ3_checkIndex_8e157.cls ≠ "java/lang/invoke/VarHandle" ∧ (parseMethodDescriptor yJ3_checkIndex_8e157.desc).map (fun d => d.parameters.length) = some 3 := by decide +kernel
set_option maxHeartbeats 4000000 in
set_option maxRecDepth 100000 in
theorem c_J3_checkIndex_8e157_n (l : Launch) (G : GT) (x y : Int32) (h0 : ¬ x < 0) (h1 : x < y) : Ctr l G yJ3_checkIndex_8e157 wsJ3_checkIndex_8e157 rmJ3_checkIndex_8e157 [.int x, .int y, .null] [] (some (.int x)) [] := by
  obtain ⟨enc, henc⟩ : ∃ enc : Int32 → Option Value × va_W, enc = fun u => (some (.int u), []) := ⟨_, rfl⟩
  refine ctr_of (cc := cJ3_checkIndex_8e157) (own := RJ3) (E := fun o => some (enc o)) (o := x) (by decide) rfl rfl (L := [(0, .int x), (1, .int y), (2, .null)]) rfl (Nat.le_of_ble_eq_true rfl) (by rw [henc]) ?_
  intro Z hX hl hG hr
  subst hl; subst hG
  refine rn_iload_n hX dJ3_checkIndex_8e157_0 0 rfl 1 rfl ?_
  refine rn_hif_lt hX dJ3_checkIndex_8e157_1 9 (by decide) 4 rfl (fun h => absurd h h0) (fun _ => ?_)
  refine rn_iload_n hX dJ3_checkIndex_8e157_4 0 rfl 5 rfl ?_
  refine rn_iload_n hX dJ3_checkIndex_8e157_5 1 rfl 6 rfl ?_
  refine rn_hicmp_lt hX dJ3_checkIndex_8e157_6 16 (by decide) 9 rfl (fun _ => ?_) (fun h => absurd h1 h)
  refine rn_iload_n hX dJ3_checkIndex_8e157_16 0 rfl 17 rfl ?_
  exact rn_iret hX hr (by rw [henc]) dJ3_checkIndex_8e157_17
set_option maxHeartbeats 4000000 in
set_option maxRecDepth 100000 in
theorem c_J3_checkIndex_8e157_r (l : Launch) (G : GT) (t : Nat) (x y : Int32) (h0 : ¬ x < 0) (h1 : x < y) : Ctr l G yJ3_checkIndex_8e157 wsJ3_checkIndex_8e157 rmJ3_checkIndex_8e157 [.int x, .int y, .ref t] [] (some (.int x)) [] := by
  obtain ⟨enc, henc⟩ : ∃ enc : Int32 → Option Value × va_W, enc = fun u => (some (.int u), []) := ⟨_, rfl⟩
  refine ctr_of (cc := cJ3_checkIndex_8e157) (own := RJ3) (E := fun o => some (enc o)) (o := x) (by decide) rfl rfl (L := [(0, .int x), (1, .int y), (2, .ref t)]) rfl (Nat.le_of_ble_eq_true rfl) (by rw [henc]) ?_
  intro Z hX hl hG hr
  subst hl; subst hG
  refine rn_iload_n hX dJ3_checkIndex_8e157_0 0 rfl 1 rfl ?_
  refine rn_hif_lt hX dJ3_checkIndex_8e157_1 9 (by decide) 4 rfl (fun h => absurd h h0) (fun _ => ?_)
  refine rn_iload_n hX dJ3_checkIndex_8e157_4 0 rfl 5 rfl ?_
  refine rn_iload_n hX dJ3_checkIndex_8e157_5 1 rfl 6 rfl ?_
  refine rn_hicmp_lt hX dJ3_checkIndex_8e157_6 16 (by decide) 9 rfl (fun _ => ?_) (fun h => absurd h1 h)
  refine rn_iload_n hX dJ3_checkIndex_8e157_16 0 rfl 17 rfl ?_
  exact rn_iret hX hr (by rw [henc]) dJ3_checkIndex_8e157_17
abbrev rmJ0_checkIndex_df160 : Room := { frames := 1, cells := 0, slots := 0, locals := 22 }
theorem hdS_J0_checkIndex_df160 : yJ0_checkIndex_df160.cls ≠ "java/lang/invoke/MethodHandle" ∧ yJ0_checkIndex_df160.cls ≠ "java/lang/invoke/VarHandle" ∧ (parseMethodDescriptor yJ0_checkIndex_df160.desc).map (fun d => d.parameters.length) = some 2 := by decide +kernel
set_option maxHeartbeats 4000000 in
set_option maxRecDepth 100000 in
theorem c_J0_checkIndex_df160 (l : Launch) (G : GT) (x y : Int32) (h0 : ¬ x < 0) (h1 : x < y) : Ctr l G yJ0_checkIndex_df160 wsJ0_checkIndex_df160 rmJ0_checkIndex_df160 [.int x, .int y] [] none [] := by
  obtain ⟨enc, henc⟩ : ∃ enc : Unit → Option Value × va_W, enc = fun u => (none, []) := ⟨_, rfl⟩
  refine ctr_of (cc := cJ0_checkIndex_df160) (own := RJ0) (E := fun o => some (enc o)) (o := ()) (by decide) rfl rfl (L := [(0, .int x), (1, .int y)]) rfl (Nat.le_of_ble_eq_true rfl) (by rw [henc]) ?_
  intro Z hX hl hG hr
  subst hl; subst hG
  have flf : (Cond.fieldLink RJ0 1053 "jdk/internal/util/Preconditions" "SIOOBE_FORMATTER" "Ljava/util/function/BiFunction;").before (za Z) (zs Z) = true := hX.wd (mcC _ wd_470)
  refine rn_iload_n hX dJ0_checkIndex_df160_0 0 rfl 1 rfl ?_
  refine rn_iload_n hX dJ0_checkIndex_df160_1 1 rfl 2 rfl ?_
  rcases hX.2.2.2.1.2.2.2.2 with hZ | ⟨t, hZ⟩
  · refine rn_gets hX hZ flf dJ0_checkIndex_df160_2 5 rfl ?_
    refine rn_callS0 hX (gS mcC wd_472 wd_473 wd_85 wd_474) rfl hdS_J3_checkIndex_8e157 rfl rfl ⟨Nat.le_of_ble_eq_true rfl, Nat.le_of_ble_eq_true rfl⟩ (c_J3_checkIndex_8e157_n (zl Z) (zG Z) x y h0 h1) rfl [] rfl rfl rfl (Nat.le_of_ble_eq_true rfl) dJ0_checkIndex_df160_5 8 rfl (S' := [.int x]) rfl ⟨Nat.zero_le _, Nat.zero_le _⟩ ?_
    refine rn_pop hX dJ0_checkIndex_df160_8 9 rfl rfl ?_
    exact rn_vret hX hr (by rw [henc]) dJ0_checkIndex_df160_9
  · refine rn_gets hX hZ flf dJ0_checkIndex_df160_2 5 rfl ?_
    refine rn_callS0 hX (gS mcC wd_472 wd_473 wd_85 wd_474) rfl hdS_J3_checkIndex_8e157 rfl rfl ⟨Nat.le_of_ble_eq_true rfl, Nat.le_of_ble_eq_true rfl⟩ (c_J3_checkIndex_8e157_r (zl Z) (zG Z) t x y h0 h1) rfl [] rfl rfl rfl (Nat.le_of_ble_eq_true rfl) dJ0_checkIndex_df160_5 8 rfl (S' := [.int x]) rfl ⟨Nat.zero_le _, Nat.zero_le _⟩ ?_
    refine rn_pop hX dJ0_checkIndex_df160_8 9 rfl rfl ?_
    exact rn_vret hX hr (by rw [henc]) dJ0_checkIndex_df160_9
abbrev rmJ1_charAt_3b067 : Room := { frames := 2, cells := 0, slots := 0, locals := 43 }
theorem hdS_J1_charAt_3b067 : yJ1_charAt_3b067.cls ≠ "java/lang/invoke/MethodHandle" ∧ yJ1_charAt_3b067.cls ≠ "java/lang/invoke/VarHandle" ∧ (parseMethodDescriptor yJ1_charAt_3b067.desc).map (fun d => d.parameters.length) = some 2 := by decide +kernel
set_option maxHeartbeats 4000000 in
set_option maxRecDepth 100000 in
theorem c_J1_charAt_3b067 (l : Launch) (G : GT) (kx : Nat) (hk : kx < 2) (x : Int32) (h0 : ¬ x < 0) (h1 : x.toNatClampNeg < sLenN kx) : Ctr l G yJ1_charAt_3b067 wsJ1_charAt_3b067 rmJ1_charAt_3b067 [.ref (G.2.2.2 kx), .int x] [] (some (.int (sChr kx x.toNatClampNeg))) [] := by
  obtain ⟨enc, henc⟩ : ∃ enc : Int32 → Option Value × va_W, enc = fun u => (some (.int u), []) := ⟨_, rfl⟩
  refine ctr_of (cc := cJ1_charAt_3b067) (own := RJ1) (E := fun o => some (enc o)) (o := sChr kx x.toNatClampNeg) (by decide) rfl rfl (L := [(0, .ref (G.2.2.2 kx)), (1, .int x)]) rfl (Nat.le_of_ble_eq_true rfl) (by rw [henc]) ?_
  intro Z hX hl hG hr
  subst hl; subst hG
  refine rn_iload_n hX dJ1_charAt_3b067_0 1 rfl 1 rfl ?_
  refine rn_aload_n hX dJ1_charAt_3b067_1 0 rfl 2 rfl ?_
  refine rn_tlen hX (hX.2.2.2.1.1.1 kx hk).2.2.2 dJ1_charAt_3b067_2 3 rfl ?_
  refine rn_callS0 hX (gS mcC wd_467 wd_468 wd_83 wd_469) rfl hdS_J0_checkIndex_df160 rfl rfl ⟨Nat.le_of_ble_eq_true rfl, Nat.le_of_ble_eq_true rfl⟩ (c_J0_checkIndex_df160 (zl Z) (zG Z) x (sLen kx) h0 (sLen_lt hk h0 h1)) rfl [] rfl rfl rfl (Nat.le_of_ble_eq_true rfl) dJ1_charAt_3b067_3 6 rfl (S' := []) rfl ⟨Nat.zero_le _, Nat.zero_le _⟩ ?_
  refine rn_aload_n hX dJ1_charAt_3b067_6 0 rfl 7 rfl ?_
  refine rn_iload_n hX dJ1_charAt_3b067_7 1 rfl 8 rfl ?_
  refine rn_tb hX (hX.2.2.2.1.1.1 kx hk).2.2.2 (fun z => z.elim h0 (fun z => absurd h1 (Nat.not_lt.mpr z))) rfl dJ1_charAt_3b067_8 9 rfl ?_
  refine rn_sipush hX dJ1_charAt_3b067_9 12 rfl sp_255 ?_
  refine rn_iand hX dJ1_charAt_3b067_12 13 rfl ?_
  refine rn_i2c hX (sChr_c kx hk _ h1) dJ1_charAt_3b067_13 14 rfl ?_
  exact rn_zret hX (sChr_n kx hk _ h1) hr (by rw [henc]) dJ1_charAt_3b067_14
def J0_charAt_5068e (kx : Nat) (x : Int32) : Option Int32 := gd x (sLenN kx) (some (sChr kx x.toNatClampNeg))
abbrev rmJ0_charAt_5068e : Room := { frames := 3, cells := 0, slots := 0, locals := 64 }
theorem hdV_J0_charAt_5068e : yJ0_charAt_5068e.cls = "java/lang/String" ∧ yJ0_charAt_5068e.cls ≠ "java/lang/invoke/MethodHandle" ∧ yJ0_charAt_5068e.cls ≠ "java/lang/invoke/VarHandle" ∧ (parseMethodDescriptor yJ0_charAt_5068e.desc).map (fun d => d.parameters.length) = some 1 := by decide +kernel
set_option maxHeartbeats 4000000 in
set_option maxRecDepth 100000 in
theorem c_J0_charAt_5068e (l : Launch) (G : GT) (kx : Nat) (hk : kx < 2) (x : Int32) {u : Int32} (hu : J0_charAt_5068e kx x = some u) : Ctr l G yJ0_charAt_5068e wsJ0_charAt_5068e rmJ0_charAt_5068e [.ref (G.2.2.1 kx), .int x] [] (some (.int u)) [] := by
  have hin : ¬ (x < 0 ∨ sLenN kx ≤ x.toNatClampNeg) ∧ sChr kx x.toNatClampNeg = u := by
    unfold J0_charAt_5068e gd at hu
    split at hu
    · cases hu
    · rename_i h; exact ⟨h, Option.some.inj hu⟩
  obtain ⟨hin, hv⟩ := hin
  have h0 : ¬ x < 0 := fun z => hin (Or.inl z)
  have h1 : x.toNatClampNeg < sLenN kx := Nat.not_le.mp (fun z => hin (Or.inr z))
  subst hv
  obtain ⟨enc, henc⟩ : ∃ enc : Int32 → Option Value × va_W, enc = fun u => (some (.int u), []) := ⟨_, rfl⟩
  refine ctr_of (cc := cJ0_charAt_5068e) (own := RJ0) (E := fun o => some (enc o)) (o := sChr kx x.toNatClampNeg) (by decide) rfl rfl (L := [(0, .ref (G.2.2.1 kx)), (1, .int x)]) rfl (Nat.le_of_ble_eq_true rfl) (by rw [henc]) ?_
  intro Z hX hl hG hr
  subst hl; subst hG
  have fl9 : (Cond.fieldLink RJ0 9 "java/lang/String" "value" "[B").before (za Z) (zs Z) = true := hX.wd (mcC _ wd_1456)
  refine rn_aload_n hX dJ0_charAt_5068e_0 0 rfl 1 rfl ?_
  refine rn_callVS hX (gV mcC wd_460 wd_461 wd_462 wd_83 wd_463) rfl hdV_J0_isLatin1_aae02 rfl rfl ⟨Nat.le_of_ble_eq_true rfl, Nat.le_of_ble_eq_true rfl⟩ hk (c_J0_isLatin1_aae02 (zl Z) (zG Z) kx hk) rfl [] rfl rfl rfl (Nat.le_of_ble_eq_true rfl) dJ0_charAt_5068e_1 4 rfl (S' := [.int 1]) rfl ⟨Nat.zero_le _, Nat.zero_le _⟩ ?_
  refine rn_hif_eq hX dJ0_charAt_5068e_4 16 (by decide) 7 rfl (fun h => absurd h (by decide)) (fun _ => ?_)
  refine rn_aload_n hX dJ0_charAt_5068e_7 0 rfl 8 rfl ?_
  refine rn_getk hX (hX.2.2.2.1.1.1 kx hk).2.2.1 fl9 dJ0_charAt_5068e_8 11 rfl ?_
  refine rn_iload_n hX dJ0_charAt_5068e_11 1 rfl 12 rfl ?_
  refine rn_callS0 hX (gS mcC wd_464 wd_465 wd_84 wd_466) rfl hdS_J1_charAt_3b067 rfl rfl ⟨Nat.le_of_ble_eq_true rfl, Nat.le_of_ble_eq_true rfl⟩ (c_J1_charAt_3b067 (zl Z) (zG Z) kx hk x h0 h1) rfl [] rfl rfl rfl (Nat.le_of_ble_eq_true rfl) dJ0_charAt_5068e_12 15 rfl (S' := [.int (sChr kx x.toNatClampNeg)]) rfl ⟨Nat.zero_le _, Nat.zero_le _⟩ ?_
  exact rn_zret hX (sChr_n kx hk _ h1) hr (by rw [henc]) dJ0_charAt_5068e_15
