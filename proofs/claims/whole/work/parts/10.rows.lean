/-! ===== ONE JUDGEMENT FOR ALL METHODS ===== -/
abbrev RZ : Type := (Program × Launch × Env × Room × State × MethodId × Array Value × List Frame × Method × Code) × (va_G × (Nat → ClassId) × (Nat → Nat) × (Nat → Nat)) × (Nat → Prop) × (Option Value → va_W → State → Prop)
abbrev GT : Type := va_G × (Nat → ClassId) × (Nat → Nat) × (Nat → Nat)
abbrev zp (Z : RZ) : Program := Z.1.1
abbrev zl (Z : RZ) : Launch := Z.1.2.1
abbrev ze (Z : RZ) : Env := Z.1.2.2.1
abbrev zR (Z : RZ) : Room := Z.1.2.2.2.1
abbrev zs (Z : RZ) : State := Z.1.2.2.2.2.1
abbrev zm (Z : RZ) : MethodId := Z.1.2.2.2.2.2.1
abbrev za (Z : RZ) : Array Value := Z.1.2.2.2.2.2.2.1
abbrev zb (Z : RZ) : List Frame := Z.1.2.2.2.2.2.2.2.1
abbrev zh (Z : RZ) : Method := Z.1.2.2.2.2.2.2.2.2.1
abbrev zc (Z : RZ) : Code := Z.1.2.2.2.2.2.2.2.2.2
abbrev zG (Z : RZ) : GT := Z.2.1
abbrev zA (Z : RZ) : Nat → Prop := Z.2.2.1
abbrev zQ (Z : RZ) : Option Value → va_W → State → Prop := Z.2.2.2
/-- the classes of the arrays: bytes, ints, booleans, images, sheets -/
def tyL (t : Nat → ClassId) : List (ClassId × FieldType) := [(t 0, .byte), (t 1, .int), (t 2, .boolean), (t 3, .object "OnlyFar$Image"), (t 4, .object "OnlyFar$Sheet")]
/-- the links of nest mates -/
def nsL : List (String × Nat × MethodName × String) := [("OnlyFar", 62, ⟨"OnlyFar$Sixth", "<init>", "()V"⟩, "OnlyFar"), ("OnlyFar$Drawing", 17, ⟨"OnlyFar$Sixth", "<init>", "()V"⟩, "OnlyFar"), ("OnlyFar$Drawing", 43, ⟨"OnlyFar", "pairOf", "(II)I"⟩, "OnlyFar"), ("OnlyFar$Drawing", 68, ⟨"OnlyFar", "hasBit", "(II)Z"⟩, "OnlyFar"), ("OnlyFar$Flaws", 63, ⟨"OnlyFar", "pairOf", "(II)I"⟩, "OnlyFar"), ("OnlyFar$Flaws", 67, ⟨"OnlyFar", "hasBit", "(II)Z"⟩, "OnlyFar"), ("OnlyFar$Flaws", 71, ⟨"OnlyFar", "bit", "(Z)I"⟩, "OnlyFar"), ("OnlyFar$Naming", 51, ⟨"OnlyFar", "hasBit", "(II)Z"⟩, "OnlyFar"), ("OnlyFar$Sixth", 36, ⟨"OnlyFar", "rootOf", "(J)J"⟩, "OnlyFar"), ("OnlyFar$Table", 47, ⟨"OnlyFar", "bit", "(Z)I"⟩, "OnlyFar"), ("OnlyFar$Table", 54, ⟨"OnlyFar", "wideOfSquares", "(JJJ)J"⟩, "OnlyFar"), ("OnlyFar$Table", 80, ⟨"OnlyFar", "hasBit", "(II)Z"⟩, "OnlyFar")]
def Nst (U : State) : Prop := (∀ q ∈ nsL, va_Nw (.methodLinkNest q.1 q.2.1 q.2.2.1 q.2.2.2) U) ∧ va_AO "OnlyFar$Image" U ∧ va_AO "OnlyFar$Sheet" U
def sxL : List Nat := [6, 3]
def sxB : List (List Int32) := [[112, 108, 97, 99, 101, 115], [102, 97, 114]]
/-- the two texts that the reader compares with -/
def Str (kv : (Nat → Nat) × (Nat → Nat)) (A : Nat → Prop) (U : State) (H : Heap) : Prop := vk_S 2 sxL sxB kv.1 kv.2 A U H ∧ va_Z "java/lang/String" "COMPACT_STRINGS" "Z" (.int 1) A U H ∧ vk_R "OnlyFar$Reader" 67 "places" (kv.1 0) U ∧ vk_R "OnlyFar$Reader" 78 "far" (kv.1 1) U ∧ va_Zq "jdk/internal/util/Preconditions" "SIOOBE_FORMATTER" "Ljava/util/function/BiFunction;" A U H
theorem Nst.warm {s U : State} (hW : s.WarmedH U.vm) (h : Nst s) : Nst U := ⟨fun q hq => va_Nw.warmM hW (h.1 q hq), h.2.1.moved hW.alike, h.2.2.moved hW.alike⟩
theorem Nst.same {u U : State} (hv : u.vm = U.vm) (h : Nst u) : Nst U := ⟨fun q hq => va_Nw.same rfl hv (h.1 q hq), h.2.1.moved (hv ▸ Vm.Alike.refl u.vm), h.2.2.moved (hv ▸ Vm.Alike.refl u.vm)⟩
theorem Str.move {kv : (Nat → Nat) × (Nat → Nat)} {A B : Nat → Prop} {s U : State} {H H1 : Heap} (h : Str kv A s H) (hW : s.WarmedH U.vm) (hAB : ∀ q, B q → A q) (hq : ∀ a : Nat, a < H.size → ¬ A a → H1[a]? = H[a]?) : Str kv B U H1 :=
  ⟨((h.1.kept hq).narrow hAB).moved hW.alike, ((h.2.1.kept hq).narrow hAB).moved hW.alike, h.2.2.1.warm hW, h.2.2.2.1.warm hW, ((h.2.2.2.2.kept hq).narrow hAB).moved hW.alike⟩
theorem Str.same {kv : (Nat → Nat) × (Nat → Nat)} {A : Nat → Prop} {u U : State} {H : Heap} (hv : u.vm = U.vm) (ha : u.vm.Alike U.vm) (h : Str kv A u H) : Str kv A U H :=
  ⟨h.1.moved ha, h.2.1.moved ha, h.2.2.1.same hv.symm, h.2.2.2.1.same hv.symm, h.2.2.2.2.moved ha⟩
abbrev rW (Z : RZ) (H : Heap) (locs : List Loc) (kc ks : Nat) (Q : State → Prop) (g : JFrame) : Prop := W (zp Z) (zl Z) (ze Z) (zR Z) (zs Z) (zm Z) (za Z) (zb Z) (zh Z) (zc Z) H locs kc ks Q g
def Rn (Z : RZ) (nL : Nat) {β : Type} (E : β → Option (Option Value × va_W)) (kc ks pc : Nat) (L : List (Nat × Value)) (S : List Value) (w : va_W) (o : β) : Prop :=
  ∀ (rv : Option Value) (w' : va_W), E o = some (rv, w') → ∀ (H : Heap) (locs : List Loc) (ls : Array Slot), va_P (zG Z).1 vwCl w H → va_D (zA Z) w → va_S (zA Z) (zs Z).heap H locs → lv_has ls nL L → rW Z H locs kc ks (zQ Z rv w') (F0 (zm Z) pc ls S)
def Cx (Z : RZ) (cc : ByteArray) (own : String) (Ts : List Cond) (nL : Nat) (rm : Room) : Prop :=
  CallFix (zp Z) (zm Z) (zc Z) cc nL (zs Z) (za Z) Ts own ∧ va_K (zG Z).1 vwCl (tyL (zG Z).2.1) (zs Z) ∧ Nst (zs Z) ∧ Str (zG Z).2.2 (zA Z) (zs Z) (zs Z).heap ∧ (∀ q, (zs Z).heap.size ≤ q → zA Z q) ∧ zR Z = rm
/-- a value gets a name -/
def lat {α β : Type} (x : α) (k : α → β) : β := k x
/-- an index is looked at -/
def gd {α : Type} (i : Int32) (n : Nat) (o : Option α) : Option α := if i < 0 ∨ n ≤ i.toNatClampNeg then none else o
/-- a divisor is looked at -/
def gdi {α : Type} (y : Int32) (o : Option α) : Option α := if y = 0 then none else o
def gdl {α : Type} (y : Int64) (o : Option α) : Option α := if y = 0 then none else o
/-- 0 or 1 -/
def gz {α : Type} (v : Int32) (o : Option α) : Option α := if v = 0 ∨ v = 1 then o else none
section RN
variable {Z : RZ} {cc : ByteArray} {own : String} {Ts : List Cond} {nL : Nat} {rm : Room} {β : Type} {E : β → Option (Option Value × va_W)} {kc ks pc : Nat} {L : List (Nat × Value)} {S : List Value} {w : va_W} {o : β}
theorem Cx.wd (hX : Cx Z cc own Ts nL rm) {c : Cond} (h : c ∈ Ts) : c.before (za Z) (zs Z) = true := hX.1.2.2.2.2 c h
theorem rn_lati {x : Int32} {k : Int32 → β} (h : ∀ v, Rn Z nL E kc ks pc L (.int v :: S) w (k v)) : Rn Z nL E kc ks pc L (.int x :: S) w (lat x k) := h x
theorem rn_latl {x : Int64} {k : Int64 → β} (h : ∀ v, Rn Z nL E kc ks pc L (.long v :: S) w (k v)) : Rn Z nL E kc ks pc L (.long x :: S) w (lat x k) := h x
theorem rn_lat {α : Type} {x : α} {k : α → β} (h : ∀ v, x = v → Rn Z nL E kc ks pc L S w (k v)) : Rn Z nL E kc ks pc L S w (lat x k) := h x rfl
theorem vpk {i : Int32} {n : Nat} (h : ¬ (i < 0 ∨ n ≤ i.toNatClampNeg)) : vp_in i n := h
theorem rn_none {α : Type} {enc : α → Option Value × va_W} : Rn Z nL (Option.map enc) kc ks pc L S w (none : Option α) := fun _ _ h => nomatch h
theorem rn_bind {α γ : Type} {enc : α → Option Value × va_W} {f : Option γ} {k : γ → Option α} (h : ∀ u, f = some u → Rn Z nL (Option.map enc) kc ks pc L S w (k u)) : Rn Z nL (Option.map enc) kc ks pc L S w (f.bind k) := by
  cases f with
  | none => exact rn_none
  | some u => exact h u rfl
theorem rn_gd {α : Type} {enc : α → Option Value × va_W} {i : Int32} {n : Nat} {o : Option α} (h : vp_in i n → Rn Z nL (Option.map enc) kc ks pc L S w o) : Rn Z nL (Option.map enc) kc ks pc L S w (gd i n o) := by
  unfold gd
  split
  · exact rn_none
  · rename_i q; exact h q
theorem rn_gdi {α : Type} {enc : α → Option Value × va_W} {y : Int32} {o : Option α} (h : ¬ y = 0 → Rn Z nL (Option.map enc) kc ks pc L S w o) : Rn Z nL (Option.map enc) kc ks pc L S w (gdi y o) := by
  unfold gdi
  split
  · exact rn_none
  · rename_i q; exact h q
theorem rn_gdl {α : Type} {enc : α → Option Value × va_W} {y : Int64} {o : Option α} (h : ¬ y = 0 → Rn Z nL (Option.map enc) kc ks pc L S w o) : Rn Z nL (Option.map enc) kc ks pc L S w (gdl y o) := by
  unfold gdl
  split
  · exact rn_none
  · rename_i q; exact h q
theorem rn_gz {α : Type} {enc : α → Option Value × va_W} {v : Int32} {o : Option α} (h : v = 0 ∨ v = 1 → Rn Z nL (Option.map enc) kc ks pc L S w o) : Rn Z nL (Option.map enc) kc ks pc L S w (gz v o) := by
  unfold gz
  split
  · rename_i q; exact h q
  · exact rn_none
theorem rn_sub {L' : List (Nat × Value)} (is : List Nat) (hl : lv_pick L is = L') (k : Rn Z nL E kc ks pc L' S w o) : Rn Z nL E kc ks pc L S w o :=
  fun rv w' hE H locs ls hP hD hS h => k rv w' hE H locs ls hP hD hS (lv_sub h is hl)
theorem nar_z {v : Int32} (h : v = 0 ∨ v = 1) : narrow .boolean (.int v) = .int v := by
  rcases h with rfl | rfl <;> rfl
theorem fit_z {v : Int32} (h : v = 0 ∨ v = 1) : fits .boolean (.int v) = true := by
  rcases h with rfl | rfl <;> rfl
theorem rn_iconst (hX : Cx Z cc own Ts nL rm) {n : Int} {v : Int32} (hdg : decode cc pc = .ok (.iconst n, 1)) (q : Nat) (hq : pc + 1 = q) (hv : Int32.ofInt n = v) (k : Rn Z nL E kc ks q L (.int v :: S) w o) : Rn Z nL E kc ks pc L (S) w o := by
  subst hq; intro rv w' hE H locs ls hP hD hS hl
  exact lv_iconst hX.1.1 hX.1.2.1 hdg hv (k rv w' hE H locs ls hP hD hS hl)
theorem rn_bipush (hX : Cx Z cc own Ts nL rm) {n : Int} {v : Int32} (hdg : decode cc pc = .ok (.bipush n, 2)) (q : Nat) (hq : pc + 2 = q) (hv : (Int8.ofInt n).toInt32 = v) (k : Rn Z nL E kc ks q L (.int v :: S) w o) : Rn Z nL E kc ks pc L (S) w o := by
  subst hq; intro rv w' hE H locs ls hP hD hS hl
  exact lv_bipush hX.1.1 hX.1.2.1 hdg hv (k rv w' hE H locs ls hP hD hS hl)
theorem rn_sipush (hX : Cx Z cc own Ts nL rm) {n : Int} {v : Int32} (hdg : decode cc pc = .ok (.sipush n, 3)) (q : Nat) (hq : pc + 3 = q) (hv : (Int16.ofInt n).toInt32 = v) (k : Rn Z nL E kc ks q L (.int v :: S) w o) : Rn Z nL E kc ks pc L (S) w o := by
  subst hq; intro rv w' hE H locs ls hP hD hS hl
  exact lv_sipush hX.1.1 hX.1.2.1 hdg hv (k rv w' hE H locs ls hP hD hS hl)
theorem rn_lconst (hX : Cx Z cc own Ts nL rm) {n : Fin 2} {v : Int64} (hdg : decode cc pc = .ok (.lconst n, 1)) (q : Nat) (hq : pc + 1 = q) (hv : Int64.ofNat (n : Nat) = v) (k : Rn Z nL E kc ks q L (.long v :: S) w o) : Rn Z nL E kc ks pc L (S) w o := by
  subst hq; intro rv w' hE H locs ls hP hD hS hl
  exact lv_lconst hX.1.1 hX.1.2.1 hdg hv (k rv w' hE H locs ls hP hD hS hl)
theorem rn_ldc2 (hX : Cx Z cc own Ts nL rm) {index : Nat} {v : Int64} (hc : (Jvm.Cond.constantLong own index v).before (za Z) (zs Z) = true) (hdg : decode cc pc = .ok (.ldc2_w index, 3)) (q : Nat) (hq : pc + 3 = q) (k : Rn Z nL E kc ks q L (.long v :: S) w o) : Rn Z nL E kc ks pc L S w o := by
  subst hq; intro rv w' hE H locs ls hP hD hS hl
  exact lv_ldc2 hX.1.1 hX.1.2.1 hX.1.2.2.2.1 hc hdg (k rv w' hE H locs ls hP hD hS hl)
theorem rn_ldcw (hX : Cx Z cc own Ts nL rm) {index : Nat} {v : Int32} (hc : (Jvm.Cond.constant own index v).before (za Z) (zs Z) = true) (hdg : decode cc pc = .ok (.ldc_w index, 3)) (q : Nat) (hq : pc + 3 = q) (k : Rn Z nL E kc ks q L (.int v :: S) w o) : Rn Z nL E kc ks pc L S w o := by
  subst hq; intro rv w' hE H locs ls hP hD hS hl
  exact lv_ldcw hX.1.1 hX.1.2.1 hX.1.2.2.2.1 hc hdg (k rv w' hE H locs ls hP hD hS hl)
theorem rn_ldcS (hX : Cx Z cc own Ts nL rm) {index a : Nat} {tx : String} (hc : vk_R own index tx a (zs Z)) (hdg : decode cc pc = .ok (.ldc index, 2)) (q : Nat) (hq : pc + 2 = q) (k : Rn Z nL E kc ks q L (.ref a :: S) w o) : Rn Z nL E kc ks pc L S w o := by
  subst hq; intro rv w' hE H locs ls hP hD hS hl
  exact va_ldcS hX.1.1 hX.1.2.1 hX.1.2.2.2.1 hc hdg (k rv w' hE H locs ls hP hD hS hl)
theorem rn_ldc (hX : Cx Z cc own Ts nL rm) {index : Nat} {v : Int32} (hc : (Jvm.Cond.constant own index v).before (za Z) (zs Z) = true) (hdg : decode cc pc = .ok (.ldc index, 2)) (q : Nat) (hq : pc + 2 = q) (k : Rn Z nL E kc ks q L (.int v :: S) w o) : Rn Z nL E kc ks pc L S w o := by
  subst hq; intro rv w' hE H locs ls hP hD hS hl
  exact lv_ldc hX.1.1 hX.1.2.1 hX.1.2.2.2.1 hc hdg (k rv w' hE H locs ls hP hD hS hl)
theorem rn_iload_n (hX : Cx Z cc own Ts nL rm) {i : Fin 4} {x : Int32} (hdg : decode cc pc = .ok (.iload_n i, 1)) (kp : Nat) (h : L[kp]? = some ((i : Nat), .int x)) (q : Nat) (hq : pc + 1 = q) (k : Rn Z nL E kc ks q L (.int x :: S) w o) : Rn Z nL E kc ks pc L S w o := by
  subst hq; intro rv w' hE H locs ls hP hD hS hl
  exact lv_iload_n hX.1.1 hX.1.2.1 hdg rfl (lv_at hl kp h) (k rv w' hE H locs ls hP hD hS hl)
theorem rn_iload (hX : Cx Z cc own Ts nL rm) {i : Nat} {x : Int32} (hdg : decode cc pc = .ok (.iload i, 2)) (kp : Nat) (h : L[kp]? = some (i, .int x)) (q : Nat) (hq : pc + 2 = q) (k : Rn Z nL E kc ks q L (.int x :: S) w o) : Rn Z nL E kc ks pc L S w o := by
  subst hq; intro rv w' hE H locs ls hP hD hS hl
  exact lv_iload hX.1.1 hX.1.2.1 hdg (lv_at hl kp h) (k rv w' hE H locs ls hP hD hS hl)
theorem rn_istore_n (hX : Cx Z cc own Ts nL rm) {i0 : Fin 4} {x : Int32} {L' : List (Nat × Value)} (hdg : decode cc pc = .ok (.istore_n i0, 1)) (i : Nat) (hi : (i0 : Nat) = i) (hn : i < nL) (hL : (i, Value.int x) :: L.filter (fun q => !(q.1 == i) && !(q.1 + 1 == i && q.2.category == 2)) = L') (q : Nat) (hq : pc + 1 = q) (k : Rn Z nL E kc ks q L' S w o) : Rn Z nL E kc ks pc L (.int x :: S) w o := by
  subst hq; intro rv w' hE H locs ls hP hD hS hl
  exact lv_istore_n hX.1.1 hX.1.2.1 hdg hi hl hn hL (fun ls hl => (k rv w' hE H locs ls hP hD hS hl))
theorem rn_istore (hX : Cx Z cc own Ts nL rm) {x : Int32} {L' : List (Nat × Value)} {i : Nat} (hdg : decode cc pc = .ok (.istore i, 2)) (hn : i < nL) (hL : (i, Value.int x) :: L.filter (fun q => !(q.1 == i) && !(q.1 + 1 == i && q.2.category == 2)) = L') (q : Nat) (hq : pc + 2 = q) (k : Rn Z nL E kc ks q L' S w o) : Rn Z nL E kc ks pc L (.int x :: S) w o := by
  subst hq; intro rv w' hE H locs ls hP hD hS hl
  exact lv_istore hX.1.1 hX.1.2.1 hdg hl hn hL (fun ls hl => (k rv w' hE H locs ls hP hD hS hl))
theorem rn_lload_n (hX : Cx Z cc own Ts nL rm) {i : Fin 4} {x : Int64} (hdg : decode cc pc = .ok (.lload_n i, 1)) (kp : Nat) (h : L[kp]? = some ((i : Nat), .long x)) (q : Nat) (hq : pc + 1 = q) (k : Rn Z nL E kc ks q L (.long x :: S) w o) : Rn Z nL E kc ks pc L S w o := by
  subst hq; intro rv w' hE H locs ls hP hD hS hl
  exact lv_lload_n hX.1.1 hX.1.2.1 hdg rfl (lv_at hl kp h) (k rv w' hE H locs ls hP hD hS hl)
theorem rn_lload (hX : Cx Z cc own Ts nL rm) {i : Nat} {x : Int64} (hdg : decode cc pc = .ok (.lload i, 2)) (kp : Nat) (h : L[kp]? = some (i, .long x)) (q : Nat) (hq : pc + 2 = q) (k : Rn Z nL E kc ks q L (.long x :: S) w o) : Rn Z nL E kc ks pc L S w o := by
  subst hq; intro rv w' hE H locs ls hP hD hS hl
  exact lv_lload hX.1.1 hX.1.2.1 hdg (lv_at hl kp h) (k rv w' hE H locs ls hP hD hS hl)
theorem rn_lstore_n (hX : Cx Z cc own Ts nL rm) {i0 : Fin 4} {x : Int64} {L' : List (Nat × Value)} (hdg : decode cc pc = .ok (.lstore_n i0, 1)) (i : Nat) (hi : (i0 : Nat) = i) (hn : i + 1 < nL) (hL : (i, Value.long x) :: L.filter (fun q => !(q.1 == i) && (!(q.1 == i + 1) && !(q.1 + 1 == i && q.2.category == 2))) = L') (q : Nat) (hq : pc + 1 = q) (k : Rn Z nL E kc ks q L' S w o) : Rn Z nL E kc ks pc L (.long x :: S) w o := by
  subst hq; intro rv w' hE H locs ls hP hD hS hl
  exact lv_lstore_n hX.1.1 hX.1.2.1 hdg hi hl hn hL (fun ls hl => (k rv w' hE H locs ls hP hD hS hl))
theorem rn_lstore (hX : Cx Z cc own Ts nL rm) {x : Int64} {L' : List (Nat × Value)} {i : Nat} (hdg : decode cc pc = .ok (.lstore i, 2)) (hn : i + 1 < nL) (hL : (i, Value.long x) :: L.filter (fun q => !(q.1 == i) && (!(q.1 == i + 1) && !(q.1 + 1 == i && q.2.category == 2))) = L') (q : Nat) (hq : pc + 2 = q) (k : Rn Z nL E kc ks q L' S w o) : Rn Z nL E kc ks pc L (.long x :: S) w o := by
  subst hq; intro rv w' hE H locs ls hP hD hS hl
  exact lv_lstore hX.1.1 hX.1.2.1 hdg hl hn hL (fun ls hl => (k rv w' hE H locs ls hP hD hS hl))
theorem rn_aload_n (hX : Cx Z cc own Ts nL rm) {i : Fin 4} {x : Nat} (hdg : decode cc pc = .ok (.aload_n i, 1)) (kp : Nat) (h : L[kp]? = some ((i : Nat), .ref x)) (q : Nat) (hq : pc + 1 = q) (k : Rn Z nL E kc ks q L (.ref x :: S) w o) : Rn Z nL E kc ks pc L S w o := by
  subst hq; intro rv w' hE H locs ls hP hD hS hl
  exact lv_aload_n hX.1.1 hX.1.2.1 hdg rfl (lv_at hl kp h) (k rv w' hE H locs ls hP hD hS hl)
theorem rn_aload (hX : Cx Z cc own Ts nL rm) {i : Nat} {x : Nat} (hdg : decode cc pc = .ok (.aload i, 2)) (kp : Nat) (h : L[kp]? = some (i, .ref x)) (q : Nat) (hq : pc + 2 = q) (k : Rn Z nL E kc ks q L (.ref x :: S) w o) : Rn Z nL E kc ks pc L S w o := by
  subst hq; intro rv w' hE H locs ls hP hD hS hl
  exact lv_aload hX.1.1 hX.1.2.1 hdg (lv_at hl kp h) (k rv w' hE H locs ls hP hD hS hl)
theorem rn_astore_n (hX : Cx Z cc own Ts nL rm) {i0 : Fin 4} {x : Nat} {L' : List (Nat × Value)} (hdg : decode cc pc = .ok (.astore_n i0, 1)) (i : Nat) (hi : (i0 : Nat) = i) (hn : i < nL) (hL : (i, Value.ref x) :: L.filter (fun q => !(q.1 == i) && !(q.1 + 1 == i && q.2.category == 2)) = L') (q : Nat) (hq : pc + 1 = q) (k : Rn Z nL E kc ks q L' S w o) : Rn Z nL E kc ks pc L (.ref x :: S) w o := by
  subst hq; intro rv w' hE H locs ls hP hD hS hl
  exact lv_astore_n hX.1.1 hX.1.2.1 hdg hi hl hn hL (fun ls hl => (k rv w' hE H locs ls hP hD hS hl))
theorem rn_astore (hX : Cx Z cc own Ts nL rm) {x : Nat} {L' : List (Nat × Value)} {i : Nat} (hdg : decode cc pc = .ok (.astore i, 2)) (hn : i < nL) (hL : (i, Value.ref x) :: L.filter (fun q => !(q.1 == i) && !(q.1 + 1 == i && q.2.category == 2)) = L') (q : Nat) (hq : pc + 2 = q) (k : Rn Z nL E kc ks q L' S w o) : Rn Z nL E kc ks pc L (.ref x :: S) w o := by
  subst hq; intro rv w' hE H locs ls hP hD hS hl
  exact lv_astore hX.1.1 hX.1.2.1 hdg hl hn hL (fun ls hl => (k rv w' hE H locs ls hP hD hS hl))
theorem rn_iinc (hX : Cx Z cc own Ts nL rm) {i : Nat} {n : Int} {x d : Int32} {L' : Int32 → List (Nat × Value)} {f : Int32 → β} (hdg : decode cc pc = .ok (.iinc i n, 3)) (kp : Nat) (hk : L[kp]? = some (i, .int x)) (hd : Int32.ofInt n = d) (hn : i < nL) (hL : ∀ v : Int32, (i, Value.int v) :: L.filter (fun q => !(q.1 == i) && !(q.1 + 1 == i && q.2.category == 2)) = L' v) (q : Nat) (hq : pc + 3 = q) (k : ∀ v : Int32, Rn Z nL E kc ks q (L' v) S w (f v)) : Rn Z nL E kc ks pc L S w (lat (x + d) f) := by
  subst hq; intro rv w' hE H locs ls hP hD hS hl
  exact lv_iinc hX.1.1 hX.1.2.1 hdg hl hk (by rw [hd]) hn (hL (x + d)) (fun ls hl => k (x + d) rv w' hE H locs ls hP hD hS hl)
theorem rn_iadd (hX : Cx Z cc own Ts nL rm) {x y : Int32} (hdg : decode cc pc = .ok (.iadd, 1)) (q : Nat) (hq : pc + 1 = q) (k : Rn Z nL E kc ks q L (.int (x + y) :: S) w o) : Rn Z nL E kc ks pc L (.int y :: .int x :: S) w o := by
  subst hq; intro rv w' hE H locs ls hP hD hS hl
  exact lv_iadd hX.1.1 hX.1.2.1 hdg  (k rv w' hE H locs ls hP hD hS hl)
theorem rn_isub (hX : Cx Z cc own Ts nL rm) {x y : Int32} (hdg : decode cc pc = .ok (.isub, 1)) (q : Nat) (hq : pc + 1 = q) (k : Rn Z nL E kc ks q L (.int (x - y) :: S) w o) : Rn Z nL E kc ks pc L (.int y :: .int x :: S) w o := by
  subst hq; intro rv w' hE H locs ls hP hD hS hl
  exact lv_isub hX.1.1 hX.1.2.1 hdg  (k rv w' hE H locs ls hP hD hS hl)
theorem rn_imul (hX : Cx Z cc own Ts nL rm) {x y : Int32} (hdg : decode cc pc = .ok (.imul, 1)) (q : Nat) (hq : pc + 1 = q) (k : Rn Z nL E kc ks q L (.int (x * y) :: S) w o) : Rn Z nL E kc ks pc L (.int y :: .int x :: S) w o := by
  subst hq; intro rv w' hE H locs ls hP hD hS hl
  exact lv_imul hX.1.1 hX.1.2.1 hdg  (k rv w' hE H locs ls hP hD hS hl)
theorem rn_iand (hX : Cx Z cc own Ts nL rm) {x y : Int32} (hdg : decode cc pc = .ok (.iand, 1)) (q : Nat) (hq : pc + 1 = q) (k : Rn Z nL E kc ks q L (.int (x &&& y) :: S) w o) : Rn Z nL E kc ks pc L (.int y :: .int x :: S) w o := by
  subst hq; intro rv w' hE H locs ls hP hD hS hl
  exact lv_iand hX.1.1 hX.1.2.1 hdg  (k rv w' hE H locs ls hP hD hS hl)
theorem rn_ior (hX : Cx Z cc own Ts nL rm) {x y : Int32} (hdg : decode cc pc = .ok (.ior, 1)) (q : Nat) (hq : pc + 1 = q) (k : Rn Z nL E kc ks q L (.int (x ||| y) :: S) w o) : Rn Z nL E kc ks pc L (.int y :: .int x :: S) w o := by
  subst hq; intro rv w' hE H locs ls hP hD hS hl
  exact lv_ior hX.1.1 hX.1.2.1 hdg  (k rv w' hE H locs ls hP hD hS hl)
theorem rn_ixor (hX : Cx Z cc own Ts nL rm) {x y : Int32} (hdg : decode cc pc = .ok (.ixor, 1)) (q : Nat) (hq : pc + 1 = q) (k : Rn Z nL E kc ks q L (.int (x ^^^ y) :: S) w o) : Rn Z nL E kc ks pc L (.int y :: .int x :: S) w o := by
  subst hq; intro rv w' hE H locs ls hP hD hS hl
  exact lv_ixor hX.1.1 hX.1.2.1 hdg  (k rv w' hE H locs ls hP hD hS hl)
theorem rn_ishl (hX : Cx Z cc own Ts nL rm) {x y : Int32} (hdg : decode cc pc = .ok (.ishl, 1)) (q : Nat) (hq : pc + 1 = q) (k : Rn Z nL E kc ks q L (.int (x <<< (y &&& 31)) :: S) w o) : Rn Z nL E kc ks pc L (.int y :: .int x :: S) w o := by
  subst hq; intro rv w' hE H locs ls hP hD hS hl
  exact lv_ishl hX.1.1 hX.1.2.1 hdg  (k rv w' hE H locs ls hP hD hS hl)
theorem rn_ishr (hX : Cx Z cc own Ts nL rm) {x y : Int32} (hdg : decode cc pc = .ok (.ishr, 1)) (q : Nat) (hq : pc + 1 = q) (k : Rn Z nL E kc ks q L (.int (x >>> (y &&& 31)) :: S) w o) : Rn Z nL E kc ks pc L (.int y :: .int x :: S) w o := by
  subst hq; intro rv w' hE H locs ls hP hD hS hl
  exact lv_ishr hX.1.1 hX.1.2.1 hdg  (k rv w' hE H locs ls hP hD hS hl)
theorem rn_iushr (hX : Cx Z cc own Ts nL rm) {x y v : Int32} (hdg : decode cc pc = .ok (.iushr, 1)) (q : Nat) (hq : pc + 1 = q) (hv : (x.toUInt32 >>> (y.toUInt32 &&& 31)).toInt32 = v) (k : Rn Z nL E kc ks q L (.int v :: S) w o) : Rn Z nL E kc ks pc L (.int y :: .int x :: S) w o := by
  subst hq; intro rv w' hE H locs ls hP hD hS hl
  exact lv_iushr hX.1.1 hX.1.2.1 hdg hv (k rv w' hE H locs ls hP hD hS hl)
theorem rn_ladd (hX : Cx Z cc own Ts nL rm) {x y : Int64} (hdg : decode cc pc = .ok (.ladd, 1)) (q : Nat) (hq : pc + 1 = q) (k : Rn Z nL E kc ks q L (.long (x + y) :: S) w o) : Rn Z nL E kc ks pc L (.long y :: .long x :: S) w o := by
  subst hq; intro rv w' hE H locs ls hP hD hS hl
  exact lv_ladd hX.1.1 hX.1.2.1 hdg  (k rv w' hE H locs ls hP hD hS hl)
theorem rn_lsub (hX : Cx Z cc own Ts nL rm) {x y : Int64} (hdg : decode cc pc = .ok (.lsub, 1)) (q : Nat) (hq : pc + 1 = q) (k : Rn Z nL E kc ks q L (.long (x - y) :: S) w o) : Rn Z nL E kc ks pc L (.long y :: .long x :: S) w o := by
  subst hq; intro rv w' hE H locs ls hP hD hS hl
  exact lv_lsub hX.1.1 hX.1.2.1 hdg  (k rv w' hE H locs ls hP hD hS hl)
theorem rn_lmul (hX : Cx Z cc own Ts nL rm) {x y : Int64} (hdg : decode cc pc = .ok (.lmul, 1)) (q : Nat) (hq : pc + 1 = q) (k : Rn Z nL E kc ks q L (.long (x * y) :: S) w o) : Rn Z nL E kc ks pc L (.long y :: .long x :: S) w o := by
  subst hq; intro rv w' hE H locs ls hP hD hS hl
  exact lv_lmul hX.1.1 hX.1.2.1 hdg  (k rv w' hE H locs ls hP hD hS hl)
theorem rn_land (hX : Cx Z cc own Ts nL rm) {x y : Int64} (hdg : decode cc pc = .ok (.land, 1)) (q : Nat) (hq : pc + 1 = q) (k : Rn Z nL E kc ks q L (.long (x &&& y) :: S) w o) : Rn Z nL E kc ks pc L (.long y :: .long x :: S) w o := by
  subst hq; intro rv w' hE H locs ls hP hD hS hl
  exact lv_land hX.1.1 hX.1.2.1 hdg  (k rv w' hE H locs ls hP hD hS hl)
theorem rn_lor (hX : Cx Z cc own Ts nL rm) {x y : Int64} (hdg : decode cc pc = .ok (.lor, 1)) (q : Nat) (hq : pc + 1 = q) (k : Rn Z nL E kc ks q L (.long (x ||| y) :: S) w o) : Rn Z nL E kc ks pc L (.long y :: .long x :: S) w o := by
  subst hq; intro rv w' hE H locs ls hP hD hS hl
  exact lv_lor hX.1.1 hX.1.2.1 hdg  (k rv w' hE H locs ls hP hD hS hl)
theorem rn_ineg (hX : Cx Z cc own Ts nL rm) {x : Int32} (hdg : decode cc pc = .ok (.ineg, 1)) (q : Nat) (hq : pc + 1 = q) (k : Rn Z nL E kc ks q L (.int (-x) :: S) w o) : Rn Z nL E kc ks pc L (.int x :: S) w o := by
  subst hq; intro rv w' hE H locs ls hP hD hS hl
  exact lv_ineg hX.1.1 hX.1.2.1 hdg  (k rv w' hE H locs ls hP hD hS hl)
theorem rn_lneg (hX : Cx Z cc own Ts nL rm) {x : Int64} (hdg : decode cc pc = .ok (.lneg, 1)) (q : Nat) (hq : pc + 1 = q) (k : Rn Z nL E kc ks q L (.long (-x) :: S) w o) : Rn Z nL E kc ks pc L (.long x :: S) w o := by
  subst hq; intro rv w' hE H locs ls hP hD hS hl
  exact lv_lneg hX.1.1 hX.1.2.1 hdg  (k rv w' hE H locs ls hP hD hS hl)
theorem rn_idiv (hX : Cx Z cc own Ts nL rm) {x y : Int32} (hdg : decode cc pc = .ok (.idiv, 1)) (q : Nat) (hq : pc + 1 = q) (hne : ¬ y = 0) (k : Rn Z nL E kc ks q L (.int (x / y) :: S) w o) : Rn Z nL E kc ks pc L (.int y :: .int x :: S) w o := by
  subst hq; intro rv w' hE H locs ls hP hD hS hl
  exact lv_idiv hX.1.1 hX.1.2.1 hdg hne (k rv w' hE H locs ls hP hD hS hl)
theorem rn_irem (hX : Cx Z cc own Ts nL rm) {x y : Int32} (hdg : decode cc pc = .ok (.irem, 1)) (q : Nat) (hq : pc + 1 = q) (hne : ¬ y = 0) (k : Rn Z nL E kc ks q L (.int (x - x / y * y) :: S) w o) : Rn Z nL E kc ks pc L (.int y :: .int x :: S) w o := by
  subst hq; intro rv w' hE H locs ls hP hD hS hl
  exact lv_irem hX.1.1 hX.1.2.1 hdg hne (k rv w' hE H locs ls hP hD hS hl)
theorem rn_ldiv (hX : Cx Z cc own Ts nL rm) {x y : Int64} (hdg : decode cc pc = .ok (.ldiv, 1)) (q : Nat) (hq : pc + 1 = q) (hne : ¬ y = 0) (k : Rn Z nL E kc ks q L (.long (x / y) :: S) w o) : Rn Z nL E kc ks pc L (.long y :: .long x :: S) w o := by
  subst hq; intro rv w' hE H locs ls hP hD hS hl
  exact lv_ldiv hX.1.1 hX.1.2.1 hdg hne (k rv w' hE H locs ls hP hD hS hl)
theorem rn_lrem (hX : Cx Z cc own Ts nL rm) {x y : Int64} (hdg : decode cc pc = .ok (.lrem, 1)) (q : Nat) (hq : pc + 1 = q) (hne : ¬ y = 0) (k : Rn Z nL E kc ks q L (.long (x - x / y * y) :: S) w o) : Rn Z nL E kc ks pc L (.long y :: .long x :: S) w o := by
  subst hq; intro rv w' hE H locs ls hP hD hS hl
  exact lv_lrem hX.1.1 hX.1.2.1 hdg hne (k rv w' hE H locs ls hP hD hS hl)
theorem rn_lshl (hX : Cx Z cc own Ts nL rm) {x : Int64} {y : Int32} (hdg : decode cc pc = .ok (.lshl, 1)) (q : Nat) (hq : pc + 1 = q) (k : Rn Z nL E kc ks q L (.long (x <<< (y.toInt64 &&& 63)) :: S) w o) : Rn Z nL E kc ks pc L (.int y :: .long x :: S) w o := by
  subst hq; intro rv w' hE H locs ls hP hD hS hl
  exact lv_lshl hX.1.1 hX.1.2.1 hdg rfl (k rv w' hE H locs ls hP hD hS hl)
theorem rn_lshr (hX : Cx Z cc own Ts nL rm) {x : Int64} {y : Int32} (hdg : decode cc pc = .ok (.lshr, 1)) (q : Nat) (hq : pc + 1 = q) (k : Rn Z nL E kc ks q L (.long (x >>> (y.toInt64 &&& 63)) :: S) w o) : Rn Z nL E kc ks pc L (.int y :: .long x :: S) w o := by
  subst hq; intro rv w' hE H locs ls hP hD hS hl
  exact lv_lshr hX.1.1 hX.1.2.1 hdg rfl (k rv w' hE H locs ls hP hD hS hl)
theorem rn_lushr (hX : Cx Z cc own Ts nL rm) {x : Int64} {y : Int32} (hdg : decode cc pc = .ok (.lushr, 1)) (q : Nat) (hq : pc + 1 = q) (k : Rn Z nL E kc ks q L (.long ((x.toUInt64 >>> (y.toInt64.toUInt64 &&& Int64.toUInt64 63)).toInt64) :: S) w o) : Rn Z nL E kc ks pc L (.int y :: .long x :: S) w o := by
  subst hq; intro rv w' hE H locs ls hP hD hS hl
  exact lv_lushr hX.1.1 hX.1.2.1 hdg rfl (k rv w' hE H locs ls hP hD hS hl)
theorem rn_i2l (hX : Cx Z cc own Ts nL rm) {x : Int32} (hdg : decode cc pc = .ok (.i2l, 1)) (q : Nat) (hq : pc + 1 = q) (k : Rn Z nL E kc ks q L (.long x.toInt64 :: S) w o) : Rn Z nL E kc ks pc L (.int x :: S) w o := by
  subst hq; intro rv w' hE H locs ls hP hD hS hl
  exact lv_i2l hX.1.1 hX.1.2.1 hdg rfl (k rv w' hE H locs ls hP hD hS hl)
theorem rn_l2i (hX : Cx Z cc own Ts nL rm) {x : Int64} (hdg : decode cc pc = .ok (.l2i, 1)) (q : Nat) (hq : pc + 1 = q) (k : Rn Z nL E kc ks q L (.int x.toInt32 :: S) w o) : Rn Z nL E kc ks pc L (.long x :: S) w o := by
  subst hq; intro rv w' hE H locs ls hP hD hS hl
  exact lv_l2i hX.1.1 hX.1.2.1 hdg rfl (k rv w' hE H locs ls hP hD hS hl)
theorem rn_i2b (hX : Cx Z cc own Ts nL rm) {x : Int32} (hdg : decode cc pc = .ok (.i2b, 1)) (q : Nat) (hq : pc + 1 = q) (k : Rn Z nL E kc ks q L (.int x.toInt8.toInt32 :: S) w o) : Rn Z nL E kc ks pc L (.int x :: S) w o := by
  subst hq; intro rv w' hE H locs ls hP hD hS hl
  exact lv_i2b hX.1.1 hX.1.2.1 hdg rfl (k rv w' hE H locs ls hP hD hS hl)
theorem rn_i2s (hX : Cx Z cc own Ts nL rm) {x : Int32} (hdg : decode cc pc = .ok (.i2s, 1)) (q : Nat) (hq : pc + 1 = q) (k : Rn Z nL E kc ks q L (.int x.toInt16.toInt32 :: S) w o) : Rn Z nL E kc ks pc L (.int x :: S) w o := by
  subst hq; intro rv w' hE H locs ls hP hD hS hl
  exact lv_i2s hX.1.1 hX.1.2.1 hdg rfl (k rv w' hE H locs ls hP hD hS hl)
theorem rn_dup (hX : Cx Z cc own Ts nL rm) {va : Value} (hdg : decode cc pc = .ok (.dup, 1)) (q : Nat) (hq : pc + 1 = q) (hc : va.category = 1) (k : Rn Z nL E kc ks q L (va :: va :: S) w o) : Rn Z nL E kc ks pc L (va :: S) w o := by
  subst hq; intro rv w' hE H locs ls hP hD hS hl
  exact lv_dup hX.1.1 hX.1.2.1 hdg hc (k rv w' hE H locs ls hP hD hS hl)
theorem rn_pop (hX : Cx Z cc own Ts nL rm) {va : Value} (hdg : decode cc pc = .ok (.pop, 1)) (q : Nat) (hq : pc + 1 = q) (hc : va.category = 1) (k : Rn Z nL E kc ks q L (S) w o) : Rn Z nL E kc ks pc L (va :: S) w o := by
  subst hq; intro rv w' hE H locs ls hP hD hS hl
  exact lv_pop hX.1.1 hX.1.2.1 hdg hc (k rv w' hE H locs ls hP hD hS hl)
theorem rn_dup2 (hX : Cx Z cc own Ts nL rm) {va vb : Value} (hdg : decode cc pc = .ok (.dup2, 1)) (q : Nat) (hq : pc + 1 = q) (hc : va.category = 1) (hd : vb.category = 1) (k : Rn Z nL E kc ks q L (va :: vb :: va :: vb :: S) w o) : Rn Z nL E kc ks pc L (va :: vb :: S) w o := by
  subst hq; intro rv w' hE H locs ls hP hD hS hl
  exact lv_dup2_11 hX.1.1 hX.1.2.1 hdg hc hd (k rv w' hE H locs ls hP hD hS hl)
theorem rn_goto (hX : Cx Z cc own Ts nL rm) {off : Int} (hdg : decode cc pc = .ok (.goto off, 3)) (tgt : Nat) (ht : (pc : Int) + off = (tgt : Int)) (k : Rn Z nL E kc ks tgt L S w o) : Rn Z nL E kc ks pc L S w o := by
  intro rv w' hE H locs ls hP hD hS hl
  exact lv_goto hX.1.1 hX.1.2.1 hdg ht (k rv w' hE H locs ls hP hD hS hl)
theorem rn_if_eq (hX : Cx Z cc own Ts nL rm) {x : Int32} {off : Int} {o1 o2 : β} (hdg : decode cc pc = .ok (.ifCond .eq off, 3)) (tgt : Nat) (ht : (pc : Int) + off = (tgt : Int)) (q : Nat) (hq : pc + 3 = q) (kt : Rn Z nL E kc ks tgt L S w o1) (kf : Rn Z nL E kc ks q L S w o2) : Rn Z nL E kc ks pc L (.int x :: S) w (if x = 0 then o1 else o2) := by
  subst hq; intro rv w' hE H locs ls hP hD hS hl
  exact lv_if_eq hX.1.1 hX.1.2.1 hdg ht (fun h => kt rv w' (by rw [if_pos h] at hE; exact hE) H locs ls hP hD hS hl) (fun h => kf rv w' (by rw [if_neg h] at hE; exact hE) H locs ls hP hD hS hl)
theorem rn_icmp_eq (hX : Cx Z cc own Ts nL rm) {x y : Int32} {off : Int} {o1 o2 : β} (hdg : decode cc pc = .ok (.if_icmp .eq off, 3)) (tgt : Nat) (ht : (pc : Int) + off = (tgt : Int)) (q : Nat) (hq : pc + 3 = q) (kt : Rn Z nL E kc ks tgt L S w o1) (kf : Rn Z nL E kc ks q L S w o2) : Rn Z nL E kc ks pc L (.int y :: .int x :: S) w (if x = y then o1 else o2) := by
  subst hq; intro rv w' hE H locs ls hP hD hS hl
  exact lv_icmp_eq hX.1.1 hX.1.2.1 hdg ht (fun h => kt rv w' (by rw [if_pos h] at hE; exact hE) H locs ls hP hD hS hl) (fun h => kf rv w' (by rw [if_neg h] at hE; exact hE) H locs ls hP hD hS hl)
theorem rn_lcmp_eq (hX : Cx Z cc own Ts nL rm) {x y : Int64} {off : Int} {o1 o2 : β} (hd0 : decode cc pc = .ok (.lcmp, 1)) (q0 : Nat) (hq0 : pc + 1 = q0) (hdg : decode cc q0 = .ok (.ifCond .eq off, 3)) (tgt : Nat) (ht : (q0 : Int) + off = (tgt : Int)) (q : Nat) (hq : q0 + 3 = q) (kt : Rn Z nL E kc ks tgt L S w o1) (kf : Rn Z nL E kc ks q L S w o2) : Rn Z nL E kc ks pc L (.long y :: .long x :: S) w (if x = y then o1 else o2) := by
  subst hq0; subst hq; intro rv w' hE H locs ls hP hD hS hl
  refine W.lcmp hX.1.1 hX.1.2.1 hd0 ?_
  exact lv_if_eq hX.1.1 hX.1.2.1 hdg ht (fun h => kt rv w' (by rw [if_pos ((lg_cmp_eq x y).mp h)] at hE; exact hE) H locs ls hP hD hS hl) (fun h => kf rv w' (by rw [if_neg (fun z => h ((lg_cmp_eq x y).mpr z))] at hE; exact hE) H locs ls hP hD hS hl)
theorem rn_if_ne (hX : Cx Z cc own Ts nL rm) {x : Int32} {off : Int} {o1 o2 : β} (hdg : decode cc pc = .ok (.ifCond .ne off, 3)) (tgt : Nat) (ht : (pc : Int) + off = (tgt : Int)) (q : Nat) (hq : pc + 3 = q) (kt : Rn Z nL E kc ks tgt L S w o1) (kf : Rn Z nL E kc ks q L S w o2) : Rn Z nL E kc ks pc L (.int x :: S) w (if x = 0 then o2 else o1) := by
  subst hq; intro rv w' hE H locs ls hP hD hS hl
  exact lv_if_ne hX.1.1 hX.1.2.1 hdg ht (fun h => kt rv w' (by rw [if_neg h] at hE; exact hE) H locs ls hP hD hS hl) (fun h => kf rv w' (by rw [if_pos h] at hE; exact hE) H locs ls hP hD hS hl)
theorem rn_icmp_ne (hX : Cx Z cc own Ts nL rm) {x y : Int32} {off : Int} {o1 o2 : β} (hdg : decode cc pc = .ok (.if_icmp .ne off, 3)) (tgt : Nat) (ht : (pc : Int) + off = (tgt : Int)) (q : Nat) (hq : pc + 3 = q) (kt : Rn Z nL E kc ks tgt L S w o1) (kf : Rn Z nL E kc ks q L S w o2) : Rn Z nL E kc ks pc L (.int y :: .int x :: S) w (if x = y then o2 else o1) := by
  subst hq; intro rv w' hE H locs ls hP hD hS hl
  exact lv_icmp_ne hX.1.1 hX.1.2.1 hdg ht (fun h => kt rv w' (by rw [if_neg h] at hE; exact hE) H locs ls hP hD hS hl) (fun h => kf rv w' (by rw [if_pos h] at hE; exact hE) H locs ls hP hD hS hl)
theorem rn_lcmp_ne (hX : Cx Z cc own Ts nL rm) {x y : Int64} {off : Int} {o1 o2 : β} (hd0 : decode cc pc = .ok (.lcmp, 1)) (q0 : Nat) (hq0 : pc + 1 = q0) (hdg : decode cc q0 = .ok (.ifCond .ne off, 3)) (tgt : Nat) (ht : (q0 : Int) + off = (tgt : Int)) (q : Nat) (hq : q0 + 3 = q) (kt : Rn Z nL E kc ks tgt L S w o1) (kf : Rn Z nL E kc ks q L S w o2) : Rn Z nL E kc ks pc L (.long y :: .long x :: S) w (if x = y then o2 else o1) := by
  subst hq0; subst hq; intro rv w' hE H locs ls hP hD hS hl
  refine W.lcmp hX.1.1 hX.1.2.1 hd0 ?_
  exact lv_if_ne hX.1.1 hX.1.2.1 hdg ht (fun h => kt rv w' (by rw [if_neg (fun z => h ((lg_cmp_eq x y).mpr z))] at hE; exact hE) H locs ls hP hD hS hl) (fun h => kf rv w' (by rw [if_pos ((lg_cmp_eq x y).mp h)] at hE; exact hE) H locs ls hP hD hS hl)
theorem rn_if_lt (hX : Cx Z cc own Ts nL rm) {x : Int32} {off : Int} {o1 o2 : β} (hdg : decode cc pc = .ok (.ifCond .lt off, 3)) (tgt : Nat) (ht : (pc : Int) + off = (tgt : Int)) (q : Nat) (hq : pc + 3 = q) (kt : Rn Z nL E kc ks tgt L S w o1) (kf : Rn Z nL E kc ks q L S w o2) : Rn Z nL E kc ks pc L (.int x :: S) w (if x < 0 then o1 else o2) := by
  subst hq; intro rv w' hE H locs ls hP hD hS hl
  exact lv_if_lt hX.1.1 hX.1.2.1 hdg ht (fun h => kt rv w' (by rw [if_pos h] at hE; exact hE) H locs ls hP hD hS hl) (fun h => kf rv w' (by rw [if_neg h] at hE; exact hE) H locs ls hP hD hS hl)
theorem rn_icmp_lt (hX : Cx Z cc own Ts nL rm) {x y : Int32} {off : Int} {o1 o2 : β} (hdg : decode cc pc = .ok (.if_icmp .lt off, 3)) (tgt : Nat) (ht : (pc : Int) + off = (tgt : Int)) (q : Nat) (hq : pc + 3 = q) (kt : Rn Z nL E kc ks tgt L S w o1) (kf : Rn Z nL E kc ks q L S w o2) : Rn Z nL E kc ks pc L (.int y :: .int x :: S) w (if x < y then o1 else o2) := by
  subst hq; intro rv w' hE H locs ls hP hD hS hl
  exact lv_icmp_lt hX.1.1 hX.1.2.1 hdg ht (fun h => kt rv w' (by rw [if_pos h] at hE; exact hE) H locs ls hP hD hS hl) (fun h => kf rv w' (by rw [if_neg h] at hE; exact hE) H locs ls hP hD hS hl)
theorem rn_lcmp_lt (hX : Cx Z cc own Ts nL rm) {x y : Int64} {off : Int} {o1 o2 : β} (hd0 : decode cc pc = .ok (.lcmp, 1)) (q0 : Nat) (hq0 : pc + 1 = q0) (hdg : decode cc q0 = .ok (.ifCond .lt off, 3)) (tgt : Nat) (ht : (q0 : Int) + off = (tgt : Int)) (q : Nat) (hq : q0 + 3 = q) (kt : Rn Z nL E kc ks tgt L S w o1) (kf : Rn Z nL E kc ks q L S w o2) : Rn Z nL E kc ks pc L (.long y :: .long x :: S) w (if x < y then o1 else o2) := by
  subst hq0; subst hq; intro rv w' hE H locs ls hP hD hS hl
  refine W.lcmp hX.1.1 hX.1.2.1 hd0 ?_
  exact lv_if_lt hX.1.1 hX.1.2.1 hdg ht (fun h => kt rv w' (by rw [if_pos ((lg_cmp_lt x y).mp h)] at hE; exact hE) H locs ls hP hD hS hl) (fun h => kf rv w' (by rw [if_neg (fun z => h ((lg_cmp_lt x y).mpr z))] at hE; exact hE) H locs ls hP hD hS hl)
theorem rn_if_ge (hX : Cx Z cc own Ts nL rm) {x : Int32} {off : Int} {o1 o2 : β} (hdg : decode cc pc = .ok (.ifCond .ge off, 3)) (tgt : Nat) (ht : (pc : Int) + off = (tgt : Int)) (q : Nat) (hq : pc + 3 = q) (kt : Rn Z nL E kc ks tgt L S w o1) (kf : Rn Z nL E kc ks q L S w o2) : Rn Z nL E kc ks pc L (.int x :: S) w (if 0 ≤ x then o1 else o2) := by
  subst hq; intro rv w' hE H locs ls hP hD hS hl
  exact lv_if_ge hX.1.1 hX.1.2.1 hdg ht (fun h => kt rv w' (by rw [if_pos h] at hE; exact hE) H locs ls hP hD hS hl) (fun h => kf rv w' (by rw [if_neg h] at hE; exact hE) H locs ls hP hD hS hl)
theorem rn_icmp_ge (hX : Cx Z cc own Ts nL rm) {x y : Int32} {off : Int} {o1 o2 : β} (hdg : decode cc pc = .ok (.if_icmp .ge off, 3)) (tgt : Nat) (ht : (pc : Int) + off = (tgt : Int)) (q : Nat) (hq : pc + 3 = q) (kt : Rn Z nL E kc ks tgt L S w o1) (kf : Rn Z nL E kc ks q L S w o2) : Rn Z nL E kc ks pc L (.int y :: .int x :: S) w (if y ≤ x then o1 else o2) := by
  subst hq; intro rv w' hE H locs ls hP hD hS hl
  exact lv_icmp_ge hX.1.1 hX.1.2.1 hdg ht (fun h => kt rv w' (by rw [if_pos h] at hE; exact hE) H locs ls hP hD hS hl) (fun h => kf rv w' (by rw [if_neg h] at hE; exact hE) H locs ls hP hD hS hl)
theorem rn_lcmp_ge (hX : Cx Z cc own Ts nL rm) {x y : Int64} {off : Int} {o1 o2 : β} (hd0 : decode cc pc = .ok (.lcmp, 1)) (q0 : Nat) (hq0 : pc + 1 = q0) (hdg : decode cc q0 = .ok (.ifCond .ge off, 3)) (tgt : Nat) (ht : (q0 : Int) + off = (tgt : Int)) (q : Nat) (hq : q0 + 3 = q) (kt : Rn Z nL E kc ks tgt L S w o1) (kf : Rn Z nL E kc ks q L S w o2) : Rn Z nL E kc ks pc L (.long y :: .long x :: S) w (if y ≤ x then o1 else o2) := by
  subst hq0; subst hq; intro rv w' hE H locs ls hP hD hS hl
  refine W.lcmp hX.1.1 hX.1.2.1 hd0 ?_
  exact lv_if_ge hX.1.1 hX.1.2.1 hdg ht (fun h => kt rv w' (by rw [if_pos ((lg_cmp_ge x y).mp h)] at hE; exact hE) H locs ls hP hD hS hl) (fun h => kf rv w' (by rw [if_neg (fun z => h ((lg_cmp_ge x y).mpr z))] at hE; exact hE) H locs ls hP hD hS hl)
theorem rn_if_gt (hX : Cx Z cc own Ts nL rm) {x : Int32} {off : Int} {o1 o2 : β} (hdg : decode cc pc = .ok (.ifCond .gt off, 3)) (tgt : Nat) (ht : (pc : Int) + off = (tgt : Int)) (q : Nat) (hq : pc + 3 = q) (kt : Rn Z nL E kc ks tgt L S w o1) (kf : Rn Z nL E kc ks q L S w o2) : Rn Z nL E kc ks pc L (.int x :: S) w (if 0 < x then o1 else o2) := by
  subst hq; intro rv w' hE H locs ls hP hD hS hl
  exact lv_if_gt hX.1.1 hX.1.2.1 hdg ht (fun h => kt rv w' (by rw [if_pos h] at hE; exact hE) H locs ls hP hD hS hl) (fun h => kf rv w' (by rw [if_neg h] at hE; exact hE) H locs ls hP hD hS hl)
theorem rn_icmp_gt (hX : Cx Z cc own Ts nL rm) {x y : Int32} {off : Int} {o1 o2 : β} (hdg : decode cc pc = .ok (.if_icmp .gt off, 3)) (tgt : Nat) (ht : (pc : Int) + off = (tgt : Int)) (q : Nat) (hq : pc + 3 = q) (kt : Rn Z nL E kc ks tgt L S w o1) (kf : Rn Z nL E kc ks q L S w o2) : Rn Z nL E kc ks pc L (.int y :: .int x :: S) w (if y < x then o1 else o2) := by
  subst hq; intro rv w' hE H locs ls hP hD hS hl
  exact lv_icmp_gt hX.1.1 hX.1.2.1 hdg ht (fun h => kt rv w' (by rw [if_pos h] at hE; exact hE) H locs ls hP hD hS hl) (fun h => kf rv w' (by rw [if_neg h] at hE; exact hE) H locs ls hP hD hS hl)
theorem rn_lcmp_gt (hX : Cx Z cc own Ts nL rm) {x y : Int64} {off : Int} {o1 o2 : β} (hd0 : decode cc pc = .ok (.lcmp, 1)) (q0 : Nat) (hq0 : pc + 1 = q0) (hdg : decode cc q0 = .ok (.ifCond .gt off, 3)) (tgt : Nat) (ht : (q0 : Int) + off = (tgt : Int)) (q : Nat) (hq : q0 + 3 = q) (kt : Rn Z nL E kc ks tgt L S w o1) (kf : Rn Z nL E kc ks q L S w o2) : Rn Z nL E kc ks pc L (.long y :: .long x :: S) w (if y < x then o1 else o2) := by
  subst hq0; subst hq; intro rv w' hE H locs ls hP hD hS hl
  refine W.lcmp hX.1.1 hX.1.2.1 hd0 ?_
  exact lv_if_gt hX.1.1 hX.1.2.1 hdg ht (fun h => kt rv w' (by rw [if_pos ((lg_cmp_gt x y).mp h)] at hE; exact hE) H locs ls hP hD hS hl) (fun h => kf rv w' (by rw [if_neg (fun z => h ((lg_cmp_gt x y).mpr z))] at hE; exact hE) H locs ls hP hD hS hl)
theorem rn_if_le (hX : Cx Z cc own Ts nL rm) {x : Int32} {off : Int} {o1 o2 : β} (hdg : decode cc pc = .ok (.ifCond .le off, 3)) (tgt : Nat) (ht : (pc : Int) + off = (tgt : Int)) (q : Nat) (hq : pc + 3 = q) (kt : Rn Z nL E kc ks tgt L S w o1) (kf : Rn Z nL E kc ks q L S w o2) : Rn Z nL E kc ks pc L (.int x :: S) w (if x ≤ 0 then o1 else o2) := by
  subst hq; intro rv w' hE H locs ls hP hD hS hl
  exact lv_if_le hX.1.1 hX.1.2.1 hdg ht (fun h => kt rv w' (by rw [if_pos h] at hE; exact hE) H locs ls hP hD hS hl) (fun h => kf rv w' (by rw [if_neg h] at hE; exact hE) H locs ls hP hD hS hl)
theorem rn_icmp_le (hX : Cx Z cc own Ts nL rm) {x y : Int32} {off : Int} {o1 o2 : β} (hdg : decode cc pc = .ok (.if_icmp .le off, 3)) (tgt : Nat) (ht : (pc : Int) + off = (tgt : Int)) (q : Nat) (hq : pc + 3 = q) (kt : Rn Z nL E kc ks tgt L S w o1) (kf : Rn Z nL E kc ks q L S w o2) : Rn Z nL E kc ks pc L (.int y :: .int x :: S) w (if x ≤ y then o1 else o2) := by
  subst hq; intro rv w' hE H locs ls hP hD hS hl
  exact lv_icmp_le hX.1.1 hX.1.2.1 hdg ht (fun h => kt rv w' (by rw [if_pos h] at hE; exact hE) H locs ls hP hD hS hl) (fun h => kf rv w' (by rw [if_neg h] at hE; exact hE) H locs ls hP hD hS hl)
theorem rn_lcmp_le (hX : Cx Z cc own Ts nL rm) {x y : Int64} {off : Int} {o1 o2 : β} (hd0 : decode cc pc = .ok (.lcmp, 1)) (q0 : Nat) (hq0 : pc + 1 = q0) (hdg : decode cc q0 = .ok (.ifCond .le off, 3)) (tgt : Nat) (ht : (q0 : Int) + off = (tgt : Int)) (q : Nat) (hq : q0 + 3 = q) (kt : Rn Z nL E kc ks tgt L S w o1) (kf : Rn Z nL E kc ks q L S w o2) : Rn Z nL E kc ks pc L (.long y :: .long x :: S) w (if x ≤ y then o1 else o2) := by
  subst hq0; subst hq; intro rv w' hE H locs ls hP hD hS hl
  refine W.lcmp hX.1.1 hX.1.2.1 hd0 ?_
  exact lv_if_le hX.1.1 hX.1.2.1 hdg ht (fun h => kt rv w' (by rw [if_pos ((lg_cmp_le x y).mp h)] at hE; exact hE) H locs ls hP hD hS hl) (fun h => kf rv w' (by rw [if_neg (fun z => h ((lg_cmp_le x y).mpr z))] at hE; exact hE) H locs ls hP hD hS hl)
theorem rn_hif_eq (hX : Cx Z cc own Ts nL rm) {x : Int32} {off : Int} (hdg : decode cc pc = .ok (.ifCond .eq off, 3)) (tgt : Nat) (ht : (pc : Int) + off = (tgt : Int)) (q : Nat) (hq : pc + 3 = q) (kt : x = 0 → Rn Z nL E kc ks tgt L S w o) (kf : ¬ x = 0 → Rn Z nL E kc ks q L S w o) : Rn Z nL E kc ks pc L (.int x :: S) w o := by
  subst hq; intro rv w' hE H locs ls hP hD hS hl
  exact lv_if_eq hX.1.1 hX.1.2.1 hdg ht (fun h => kt h rv w' hE H locs ls hP hD hS hl) (fun h => kf h rv w' hE H locs ls hP hD hS hl)
theorem rn_hif_ne (hX : Cx Z cc own Ts nL rm) {x : Int32} {off : Int} (hdg : decode cc pc = .ok (.ifCond .ne off, 3)) (tgt : Nat) (ht : (pc : Int) + off = (tgt : Int)) (q : Nat) (hq : pc + 3 = q) (kt : ¬ x = 0 → Rn Z nL E kc ks tgt L S w o) (kf : x = 0 → Rn Z nL E kc ks q L S w o) : Rn Z nL E kc ks pc L (.int x :: S) w o := by
  subst hq; intro rv w' hE H locs ls hP hD hS hl
  exact lv_if_ne hX.1.1 hX.1.2.1 hdg ht (fun h => kt h rv w' hE H locs ls hP hD hS hl) (fun h => kf h rv w' hE H locs ls hP hD hS hl)
theorem rn_hif_lt (hX : Cx Z cc own Ts nL rm) {x : Int32} {off : Int} (hdg : decode cc pc = .ok (.ifCond .lt off, 3)) (tgt : Nat) (ht : (pc : Int) + off = (tgt : Int)) (q : Nat) (hq : pc + 3 = q) (kt : x < 0 → Rn Z nL E kc ks tgt L S w o) (kf : ¬ x < 0 → Rn Z nL E kc ks q L S w o) : Rn Z nL E kc ks pc L (.int x :: S) w o := by
  subst hq; intro rv w' hE H locs ls hP hD hS hl
  exact lv_if_lt hX.1.1 hX.1.2.1 hdg ht (fun h => kt h rv w' hE H locs ls hP hD hS hl) (fun h => kf h rv w' hE H locs ls hP hD hS hl)
theorem rn_hicmp_lt (hX : Cx Z cc own Ts nL rm) {x y : Int32} {off : Int} (hdg : decode cc pc = .ok (.if_icmp .lt off, 3)) (tgt : Nat) (ht : (pc : Int) + off = (tgt : Int)) (q : Nat) (hq : pc + 3 = q) (kt : x < y → Rn Z nL E kc ks tgt L S w o) (kf : ¬ x < y → Rn Z nL E kc ks q L S w o) : Rn Z nL E kc ks pc L (.int y :: .int x :: S) w o := by
  subst hq; intro rv w' hE H locs ls hP hD hS hl
  exact lv_icmp_lt hX.1.1 hX.1.2.1 hdg ht (fun h => kt h rv w' hE H locs ls hP hD hS hl) (fun h => kf h rv w' hE H locs ls hP hD hS hl)
theorem rn_tableIn (hX : Cx Z cc own Ts nL rm) {dflt lo hi : Int} {offs : Array Int} {len : Nat} {x v : Int32} {off : Int} (hdg : decode cc pc = .ok (.tableswitch dflt lo hi offs, len)) (hx : x = v) (h1 : ¬ v.toInt < lo) (h2 : ¬ hi < v.toInt) (ho : offs[(v.toInt - lo).toNat]? = some off) (tgt : Nat) (ht : (pc : Int) + off = (tgt : Int)) (k : Rn Z nL E kc ks tgt L S w o) : Rn Z nL E kc ks pc L (.int x :: S) w o := by
  subst hx; intro rv w' hE H locs ls hP hD hS hl
  exact lv_tableIn hX.1.1 hX.1.2.1 hdg h1 h2 ho ht (k rv w' hE H locs ls hP hD hS hl)
theorem rn_tableOut (hX : Cx Z cc own Ts nL rm) {dflt lo hi : Int} {offs : Array Int} {len : Nat} {x : Int32} (hdg : decode cc pc = .ok (.tableswitch dflt lo hi offs, len)) (h : x.toInt < lo ∨ hi < x.toInt) (tgt : Nat) (ht : (pc : Int) + dflt = (tgt : Int)) (k : Rn Z nL E kc ks tgt L S w o) : Rn Z nL E kc ks pc L (.int x :: S) w o := by
  intro rv w' hE H locs ls hP hD hS hl
  exact lv_tableOut hX.1.1 hX.1.2.1 hdg h ht (k rv w' hE H locs ls hP hD hS hl)
theorem ne_int {x v : Int32} (h : ¬ x = v) : x.toInt ≠ v.toInt := fun e => h (Int32.toInt_inj.mp e)
theorem rn_get (hX : Cx Z cc own Ts nL rm) {ref C : String} {T : u_T} {N ci index a : Nat} (hin : ∀ w ∈ u_ws C T N, w ∈ Ts) (q0 : Nat) {fs : List Value} (he : w[q0]? = some (a, .inr (ci, fs))) (hc : vwCl[ci]? = some (C, T, N)) (kf : Nat) (hk : kf < N) (hlink : (Cond.fieldLink own index ref (T kf).2.1 (T kf).2.2.1).before (za Z) (zs Z) = true) (href : (T kf).1 = ref) {v : Value} (hv : fs[kf]? = some v) (hdg : decode cc pc = .ok (.getfield index, 3)) (q : Nat) (hq : pc + 3 = q) (k : Rn Z nL E kc ks q L (v :: S) w o) : Rn Z nL E kc ks pc L (.ref a :: S) w o := by
  subst hq; subst href; intro rv w' hE H locs ls hP hD hS hl
  exact va_get hX.1.1 hX.1.2.1 hX.1.2.2.2.2 hin hX.1.2.2.2.1 hX.2.1 hP q0 he hc kf hk hlink (fun _ h => h) hv hdg (k rv w' hE H locs ls hP hD hS hl)
theorem rn_put (hX : Cx Z cc own Ts nL rm) {ref C : String} {T : u_T} {N ci index a : Nat} {ty0 : Nat → FieldType} (hin : ∀ w ∈ u_ws C T N, w ∈ Ts) (hty : ∀ k, k < N → parseFieldDescriptor (T k).2.2.1 = some (ty0 k)) (hnm : ∀ a, a < N → ∀ b, b < N → a ≠ b → (T a).2.1 ≠ (T b).2.1) (q0 : Nat) {fs : List Value} (he : w[q0]? = some (a, .inr (ci, fs))) (hc : vwCl[ci]? = some (C, T, N)) (kf : Nat) (hk : kf < N) (hlink : (Cond.fieldLink own index ref (T kf).2.1 (T kf).2.2.1).before (za Z) (zs Z) = true) (href : (T kf).1 = ref) (hfin : (T kf).2.2.2 = false) {v : Value} (hn : narrow (ty0 kf) v = v) (hfit : fits (ty0 kf) v = true) (hlen : kf < fs.length) (hdg : decode cc pc = .ok (.putfield index, 3)) (q : Nat) (hq : pc + 3 = q) {w1 : va_W} (hw1 : w.set q0 (a, .inr (ci, fs.set kf v)) = w1) (k : Rn Z nL E kc ks q L S w1 o) : Rn Z nL E kc ks pc L (v :: .ref a :: S) w o := by
  subst hq; subst href; subst hw1; intro rv w' hE H locs ls hP hD hS hl
  exact va_put hX.1.1 hX.1.2.1 hX.1.2.2.2.2 hin ty0 hty hnm hX.1.2.2.2.1 hX.2.1 hP hD hS q0 he hc kf hk hlink (fun _ h => h) hfin (hty kf hk) hn hfit hlen hdg (fun H locs hP hD hS => (k rv w' hE H locs ls hP hD hS hl))
theorem rn_iald (hX : Cx Z cc own Ts nL rm) {a n : Nat} {f : Nat → Int32} (q0 : Nat) (ha : w[q0]? = some (a, .inl ((zG Z).2.1 1, n, .inl f))) {i : Int32} (hi : vp_in i n) (hdg : decode cc pc = .ok (.iaload, 1)) (q : Nat) (hq : pc + 1 = q) (k : Rn Z nL E kc ks q L (.int (f i.toNatClampNeg) :: S) w o) : Rn Z nL E kc ks pc L (.int i :: .ref a :: S) w o := by
  subst hq; intro rv w' hE H locs ls hP hD hS hl
  exact va_iald hX.1.1 hX.1.2.1 hX.2.1 hP q0 1 ha rfl hi hdg (k rv w' hE H locs ls hP hD hS hl)
theorem rn_bald (hX : Cx Z cc own Ts nL rm) {a n : Nat} {f : Nat → Int32} (q0 : Nat) (ha : w[q0]? = some (a, .inl ((zG Z).2.1 0, n, .inl f))) {i : Int32} (hi : vp_in i n) (hdg : decode cc pc = .ok (.baload, 1)) (q : Nat) (hq : pc + 1 = q) (k : Rn Z nL E kc ks q L (.int (f i.toNatClampNeg) :: S) w o) : Rn Z nL E kc ks pc L (.int i :: .ref a :: S) w o := by
  subst hq; intro rv w' hE H locs ls hP hD hS hl
  exact va_bald hX.1.1 hX.1.2.1 hX.2.1 hP q0 0 ha rfl hi hdg (k rv w' hE H locs ls hP hD hS hl)
theorem rn_zald (hX : Cx Z cc own Ts nL rm) {a n : Nat} {f : Nat → Int32} (q0 : Nat) (ha : w[q0]? = some (a, .inl ((zG Z).2.1 2, n, .inl f))) {i : Int32} (hi : vp_in i n) (hdg : decode cc pc = .ok (.baload, 1)) (q : Nat) (hq : pc + 1 = q) (k : Rn Z nL E kc ks q L (.int (f i.toNatClampNeg) :: S) w o) : Rn Z nL E kc ks pc L (.int i :: .ref a :: S) w o := by
  subst hq; intro rv w' hE H locs ls hP hD hS hl
  exact va_zald hX.1.1 hX.1.2.1 hX.2.1 hP q0 2 ha rfl hi hdg (k rv w' hE H locs ls hP hD hS hl)
theorem rn_iast (hX : Cx Z cc own Ts nL rm) {a n : Nat} {f : Nat → Int32} {g : (Nat → Int32) → β} {w1 : (Nat → Int32) → va_W} (q0 : Nat) (ha : w[q0]? = some (a, .inl ((zG Z).2.1 1, n, .inl f))) {i x : Int32} (hi : vp_in i n) (hdg : decode cc pc = .ok (.iastore, 1)) (q : Nat) (hq : pc + 1 = q) (hw1 : ∀ f1, w.set q0 (a, .inl ((zG Z).2.1 1, n, .inl f1)) = w1 f1) (k : ∀ f1, Rn Z nL E kc ks q L S (w1 f1) (g f1)) : Rn Z nL E kc ks pc L (.int x :: .int i :: .ref a :: S) w (lat (upd f i.toNatClampNeg (x)) g) := by
  subst hq; intro rv w' hE H locs ls hP hD hS hl
  have k := fun f1 => (hw1 f1) ▸ k f1
  exact va_iast hX.1.1 hX.1.2.1 hX.2.1 hP hD hS q0 1 ha rfl hi hdg (fun H locs hP hD hS => k _ rv w' hE H locs ls hP hD hS hl)
theorem rn_bast (hX : Cx Z cc own Ts nL rm) {a n : Nat} {f : Nat → Int32} {g : (Nat → Int32) → β} {w1 : (Nat → Int32) → va_W} (q0 : Nat) (ha : w[q0]? = some (a, .inl ((zG Z).2.1 0, n, .inl f))) {i x : Int32} (hi : vp_in i n) (hdg : decode cc pc = .ok (.bastore, 1)) (q : Nat) (hq : pc + 1 = q) (hw1 : ∀ f1, w.set q0 (a, .inl ((zG Z).2.1 0, n, .inl f1)) = w1 f1) (k : ∀ f1, Rn Z nL E kc ks q L S (w1 f1) (g f1)) : Rn Z nL E kc ks pc L (.int x :: .int i :: .ref a :: S) w (lat (upd f i.toNatClampNeg (x.toInt8.toInt32)) g) := by
  subst hq; intro rv w' hE H locs ls hP hD hS hl
  have k := fun f1 => (hw1 f1) ▸ k f1
  exact va_bast hX.1.1 hX.1.2.1 hX.2.1 hP hD hS q0 0 ha rfl hi hdg (fun H locs hP hD hS => k _ rv w' hE H locs ls hP hD hS hl)
theorem rn_zast (hX : Cx Z cc own Ts nL rm) {a n : Nat} {f : Nat → Int32} {g : (Nat → Int32) → β} {w1 : (Nat → Int32) → va_W} (q0 : Nat) (ha : w[q0]? = some (a, .inl ((zG Z).2.1 2, n, .inl f))) {i x : Int32} (hx : vp_nar .boolean x = x) (hi : vp_in i n) (hdg : decode cc pc = .ok (.bastore, 1)) (q : Nat) (hq : pc + 1 = q) (hw1 : ∀ f1, w.set q0 (a, .inl ((zG Z).2.1 2, n, .inl f1)) = w1 f1) (k : ∀ f1, Rn Z nL E kc ks q L S (w1 f1) (g f1)) : Rn Z nL E kc ks pc L (.int x :: .int i :: .ref a :: S) w (lat (upd f i.toNatClampNeg (x)) g) := by
  subst hq; intro rv w' hE H locs ls hP hD hS hl
  have k := fun f1 => (hw1 f1) ▸ k f1
  exact va_zast hX.1.1 hX.1.2.1 hX.2.1 hP hD hS q0 2 ha rfl hi hdg (fun H locs hP hD hS => k _ rv w' hE H locs ls (by rw [hx] at hP; exact hP) (by rw [hx] at hD; exact hD) hS hl)
theorem rn_ialdk (hX : Cx Z cc own Ts nL rm) {a n : Nat} {f : Nat → Int32} (q0 : Nat) (ha : w[q0]? = some (a, .inl ((zG Z).2.1 1, n, .inl f))) {i : Int32} {j : Nat} (hj : i.toNatClampNeg = j) (hi : vp_in i n) (hdg : decode cc pc = .ok (.iaload, 1)) (q : Nat) (hq : pc + 1 = q) (k : Rn Z nL E kc ks q L (.int (f j) :: S) w o) : Rn Z nL E kc ks pc L (.int i :: .ref a :: S) w o := by
  subst hj; exact rn_iald hX q0 ha hi hdg q hq k
theorem rn_zaldk (hX : Cx Z cc own Ts nL rm) {a n : Nat} {f : Nat → Int32} (q0 : Nat) (ha : w[q0]? = some (a, .inl ((zG Z).2.1 2, n, .inl f))) {i : Int32} {j : Nat} (hj : i.toNatClampNeg = j) (hi : vp_in i n) (hdg : decode cc pc = .ok (.baload, 1)) (q : Nat) (hq : pc + 1 = q) (k : Rn Z nL E kc ks q L (.int (f j) :: S) w o) : Rn Z nL E kc ks pc L (.int i :: .ref a :: S) w o := by
  subst hj; exact rn_zald hX q0 ha hi hdg q hq k
theorem rn_iastk (hX : Cx Z cc own Ts nL rm) {a n : Nat} {f : Nat → Int32} {g : (Nat → Int32) → β} {w1 : (Nat → Int32) → va_W} (q0 : Nat) (ha : w[q0]? = some (a, .inl ((zG Z).2.1 1, n, .inl f))) {i x : Int32} {j : Nat} (hj : i.toNatClampNeg = j) (hi : vp_in i n) (hdg : decode cc pc = .ok (.iastore, 1)) (q : Nat) (hq : pc + 1 = q) (hw1 : ∀ f1, w.set q0 (a, .inl ((zG Z).2.1 1, n, .inl f1)) = w1 f1) (k : ∀ f1, Rn Z nL E kc ks q L S (w1 f1) (g f1)) : Rn Z nL E kc ks pc L (.int x :: .int i :: .ref a :: S) w (lat (upd f j x) g) := by
  subst hj; exact rn_iast hX q0 ha  hi hdg q hq hw1 k
theorem rn_zastk (hX : Cx Z cc own Ts nL rm) {a n : Nat} {f : Nat → Int32} {g : (Nat → Int32) → β} {w1 : (Nat → Int32) → va_W} (q0 : Nat) (ha : w[q0]? = some (a, .inl ((zG Z).2.1 2, n, .inl f))) {i x : Int32} {j : Nat} (hx : vp_nar .boolean x = x) (hj : i.toNatClampNeg = j) (hi : vp_in i n) (hdg : decode cc pc = .ok (.bastore, 1)) (q : Nat) (hq : pc + 1 = q) (hw1 : ∀ f1, w.set q0 (a, .inl ((zG Z).2.1 2, n, .inl f1)) = w1 f1) (k : ∀ f1, Rn Z nL E kc ks q L S (w1 f1) (g f1)) : Rn Z nL E kc ks pc L (.int x :: .int i :: .ref a :: S) w (lat (upd f j x) g) := by
  subst hj; exact rn_zast hX q0 ha hx hi hdg q hq hw1 k
theorem rn_alen (hX : Cx Z cc own Ts nL rm) {a t0 : Nat} {cA : ClassId} {x : vp_A} (q0 : Nat) (ha : w[q0]? = some (a, .inl (cA, x))) {ty : FieldType} (ht : (tyL (zG Z).2.1)[t0]? = some (cA, ty)) {v : Int32} (hv : Int32.ofNat x.1 = v) (hdg : decode cc pc = .ok (.arraylength, 1)) (q : Nat) (hq : pc + 1 = q) (k : Rn Z nL E kc ks q L (.int v :: S) w o) : Rn Z nL E kc ks pc L (.ref a :: S) w o := by
  subst hq; intro rv w' hE H locs ls hP hD hS hl
  exact va_alen hX.1.1 hX.1.2.1 hX.2.1 hP q0 t0 ha ht hv hdg (k rv w' hE H locs ls hP hD hS hl)
theorem rn_aald (hX : Cx Z cc own Ts nL rm) {a t0 n b : Nat} {C : String} {cA : ClassId} {f : Nat → Option Nat} (q0 : Nat) (ha : w[q0]? = some (a, .inl (cA, n, .inr (.inr (.inr (.inr f)))))) (ht : (tyL (zG Z).2.1)[t0]? = some (cA, .object C)) {i v : Int32} (hi : i = v) (hin : vp_in v n) (hf : f v.toNatClampNeg = some b) (hdg : decode cc pc = .ok (.aaload, 1)) (q : Nat) (hq : pc + 1 = q) (k : Rn Z nL E kc ks q L (.ref b :: S) w o) : Rn Z nL E kc ks pc L (.int i :: .ref a :: S) w o := by
  subst hq; subst hi; intro rv w' hE H locs ls hP hD hS hl
  refine va_aldq hX.1.1 hX.1.2.1 hX.2.1 hP q0 t0 ha ht hin hdg ?_
  rw [hf]
  exact (k rv w' hE H locs ls hP hD hS hl)
theorem rn_mmax (hX : Cx Z cc own Ts nL rm) {index : Nat} (hlink : (Cond.methodLink own index Lib.Math.max.name).before (za Z) (zs Z) = true) (hstat : (Cond.static Lib.Math.max.name).before (za Z) (zs Z) = true) (hini : (Cond.initialized "java/lang/Math").before (za Z) (zs Z) = true) (hcode : (Cond.code Lib.Math.max.name Lib.Math.max.code 2 (some .int)).before (za Z) (zs Z) = true) (hf : 1 ≤ rm.frames) (hlo : (S.map fun v => v.category).sum + 13 ≤ rm.locals) (hkc : kc ≤ rm.cells ∧ ks ≤ rm.slots) {x y : Int32} (hdg : decode cc pc = .ok (.invokestatic index, 3)) (q : Nat) (hq : pc + 3 = q) (k : Rn Z nL E kc ks q L (.int (if x < y then y else x) :: S) w o) : Rn Z nL E kc ks pc L (.int y :: .int x :: S) w o := by
  subst hq; intro rv w' hE H locs ls hP hD hS hl
  have hR := hX.2.2.2.2.2
  exact va_mmax hX.1.1 hX.1.2.1 (hX.1.2.2.1.trans hl.1.symm) hX.1.2.2.2.1 hlink hstat hini hcode (by rw [hR]; exact hf) (by rw [hR]; exact hlo) (by rw [hR]; exact hkc.1) (by rw [hR]; exact hkc.2) hdg (k rv w' hE H locs ls hP hD hS hl)
theorem rn_mmin (hX : Cx Z cc own Ts nL rm) {index : Nat} (hlink : (Cond.methodLink own index Lib.Math.min.name).before (za Z) (zs Z) = true) (hstat : (Cond.static Lib.Math.min.name).before (za Z) (zs Z) = true) (hini : (Cond.initialized "java/lang/Math").before (za Z) (zs Z) = true) (hcode : (Cond.code Lib.Math.min.name Lib.Math.min.code 2 (some .int)).before (za Z) (zs Z) = true) (hf : 1 ≤ rm.frames) (hlo : (S.map fun v => v.category).sum + 13 ≤ rm.locals) (hkc : kc ≤ rm.cells ∧ ks ≤ rm.slots) {x y : Int32} (hdg : decode cc pc = .ok (.invokestatic index, 3)) (q : Nat) (hq : pc + 3 = q) (k : Rn Z nL E kc ks q L (.int (if y < x then y else x) :: S) w o) : Rn Z nL E kc ks pc L (.int y :: .int x :: S) w o := by
  subst hq; intro rv w' hE H locs ls hP hD hS hl
  have hR := hX.2.2.2.2.2
  exact va_mmin hX.1.1 hX.1.2.1 (hX.1.2.2.1.trans hl.1.symm) hX.1.2.2.2.1 hlink hstat hini hcode (by rw [hR]; exact hf) (by rw [hR]; exact hlo) (by rw [hR]; exact hkc.1) (by rw [hR]; exact hkc.2) hdg (k rv w' hE H locs ls hP hD hS hl)
theorem rn_mabsl (hX : Cx Z cc own Ts nL rm) {index : Nat} (hlink : (Cond.methodLink own index Lib.MathLoose.abs_long.x).before (za Z) (zs Z) = true) (hstat : (Cond.static Lib.MathLoose.abs_long.x).before (za Z) (zs Z) = true) (hini : (Cond.initialized "java/lang/Math").before (za Z) (zs Z) = true) (hcode : (Cond.code Lib.MathLoose.abs_long.x Lib.MathLoose.abs_long.code 2 (some .long)).before (za Z) (zs Z) = true) (hf : 1 ≤ rm.frames) (hlo : (S.map fun v => v.category).sum + 13 ≤ rm.locals) (hkc : kc ≤ rm.cells ∧ ks ≤ rm.slots) {x : Int64} (hdg : decode cc pc = .ok (.invokestatic index, 3)) (q : Nat) (hq : pc + 3 = q) (k : Rn Z nL E kc ks q L (.long (if 0 < x then x else -x) :: S) w o) : Rn Z nL E kc ks pc L (.long x :: S) w o := by
  subst hq; intro rv w' hE H locs ls hP hD hS hl
  have hR := hX.2.2.2.2.2
  exact va_mabs_long hX.1.1 hX.1.2.1 (hX.1.2.2.1.trans hl.1.symm) hX.1.2.2.2.1 hlink hstat hini hcode (by rw [hR]; exact hf) (by rw [hR]; exact hlo) (by rw [hR]; exact hkc.1) (by rw [hR]; exact hkc.2) hdg (k rv w' hE H locs ls hP hD hS hl)
theorem rn_copyi (hX : Cx Z cc own Ts nL rm) {index : Nat} (hlink : (Cond.methodLink own index arraycopyName).before (za Z) (zs Z) = true) (hnat : (Cond.native arraycopyName).before (za Z) (zs Z) = true) (hstat : (Cond.static arraycopyName).before (za Z) (zs Z) = true) (hini : (Cond.initialized "java/lang/System").before (za Z) (zs Z) = true) (q0 q1 : Nat) {a0 a n0 n1 : Nat} {f g : Nat → Int32} (ha0 : w[q0]? = some (a0, .inl ((zG Z).2.1 1, n0, .inl f))) (ha1 : w[q1]? = some (a, .inl ((zG Z).2.1 1, n1, .inl g))) {sp dp n : Int32} (h1 : ¬ sp < 0) (h2 : ¬ dp < 0) (h3 : ¬ n < 0) (h4 : sp.toNatClampNeg + n.toNatClampNeg ≤ n0) (h5 : dp.toNatClampNeg + n.toNatClampNeg ≤ n1) (hf : 1 ≤ rm.frames) (hlo : (S.map fun v => v.category).sum + (nativeFrameWords "java/lang/System" "arraycopy" 5 + 11) ≤ rm.locals) (hdg : decode cc pc = .ok (.invokestatic index, 3)) (q : Nat) (hq : pc + 3 = q) {r : (Nat → Int32) → β} {w1 : (Nat → Int32) → va_W} (hw1 : ∀ f1, w.set q1 (a, .inl ((zG Z).2.1 1, n1, .inl f1)) = w1 f1) (k : ∀ f1, Rn Z nL E kc ks q L S (w1 f1) (r f1)) : Rn Z nL E kc ks pc L (.int n :: .int dp :: .ref a :: .int sp :: .ref a0 :: S) w (lat (va_cpy f g sp.toNatClampNeg dp.toNatClampNeg n.toNatClampNeg) r) := by
  subst hq; intro rv w' hE H locs ls hP hD hS hl
  have hR := hX.2.2.2.2.2
  have k := fun f1 => (hw1 f1) ▸ k f1
  exact va_copyi hX.1.1 hX.1.2.1 (hX.1.2.2.1.trans hl.1.symm) hX.1.2.2.2.1 hlink hnat hstat hini hX.2.1 hP hD hS q0 q1 1 1 ha0 ha1 rfl rfl rfl h1 h2 h3 h4 h5 (fun _ _ => rfl) (by rw [hR]; exact hf) (by rw [hR]; exact hlo) hdg (fun H locs hP hD hS => k _ rv w' hE H locs ls hP hD hS hl)
/-- cells put in their places -/
def putAll : va_W → List Nat → va_W → va_W
  | w, i :: is, q :: w1 => putAll (w.set i q) is w1
  | w, _, _ => w
theorem putAll_get : ∀ (is : List Nat) (w1 w : va_W), is.length = w1.length → ∀ (k : Nat) (q : Nat × va_E), (putAll w is w1)[k]? = some q → q ∈ w1 ∨ (k ∉ is ∧ w[k]? = some q)
  | [], [], w, _, k, q, h => Or.inr ⟨List.not_mem_nil, h⟩
  | [], _ :: _, _, h, _, _, _ => nomatch h
  | _ :: _, [], _, h, _, _, _ => nomatch h
  | i :: is, r :: w1, w, hl, k, q, h => by
    rcases putAll_get is w1 (w.set i r) (by simpa using hl) k q h with h1 | ⟨h1, h2⟩
    · exact Or.inl (List.mem_cons_of_mem _ h1)
    · rw [List.getElem?_set] at h2
      split at h2
      · split at h2
        · exact Or.inl (by rw [← Option.some.inj h2]; exact List.mem_cons_self)
        · cases h2
      · rename_i hik
        exact Or.inr ⟨fun z => (List.mem_cons.mp z).elim (fun e => hik e.symm) h1, h2⟩
theorem putAll_fst : ∀ (is : List Nat) (w1 w : va_W), is.map (fun i => (w[i]?).map (fun x => x.1)) = w1.map (fun x => some x.1) → (putAll w is w1).map (fun x => x.1) = w.map (fun x => x.1)
  | [], w1, w, _ => by cases w1 <;> rfl
  | _ :: _, [], w, _ => rfl
  | i :: is, r :: w1, w, h => by
    rw [List.map_cons, List.map_cons] at h
    have h0 := (List.cons.inj h).1
    have ht := (List.cons.inj h).2
    have e : (w.set i r).map (fun x => x.1) = w.map (fun x => x.1) := by
      rw [List.map_set]
      apply List.ext_getElem?
      intro k
      rw [List.getElem?_set]
      split
      · rename_i e
        subst e
        split
        · rw [List.getElem?_map, h0]
        · rename_i hlt
          rw [List.getElem?_eq_none (by omega)]
      · rfl
    show (putAll (w.set i r) is w1).map (fun x => x.1) = _
    rw [putAll_fst is w1 (w.set i r) ?_, e]
    rw [← ht]
    apply List.map_congr_left
    intro j _
    have : ((w.set i r).map (fun x => x.1))[j]? = (w.map (fun x => x.1))[j]? := by rw [e]
    rw [List.getElem?_map, List.getElem?_map] at this
    exact this
theorem D_fst {A : Nat → Prop} {w w' : va_W} (h : va_D A w) (e : w'.map (fun x => x.1) = w.map (fun x => x.1)) : va_D A w' := by
  have key : ∀ (k : Nat) (q : Nat × va_E), w'[k]? = some q → ∃ q2, w[k]? = some q2 ∧ q2.1 = q.1 := by
    intro k q hk
    have h1 : (w'.map (fun x => x.1))[k]? = some q.1 := by rw [List.getElem?_map, hk]; rfl
    rw [e, List.getElem?_map] at h1
    cases hw : w[k]? with
    | none => rw [hw] at h1; cases h1
    | some q2 => rw [hw] at h1; exact ⟨q2, rfl, Option.some.inj h1⟩
  refine ⟨fun i j p q hi hj he => ?_, fun k q hk => ?_⟩
  · obtain ⟨p2, h1, e1⟩ := key i p hi
    obtain ⟨q2, h2, e2⟩ := key j q hj
    exact h.1 i j p2 q2 h1 h2 (by rw [e1, e2, he])
  · obtain ⟨q2, h1, e1⟩ := key k q hk
    rw [← e1]
    exact h.2 k q2 h1
/-- behind a call: the callee's cells in their places, the others unchanged -/
theorem put_join {A0 : Nat → Prop} {D : va_G} {w wc w1 : va_W} {H H1 : Heap} (hP : va_P D vwCl w H) (hD : va_D A0 w) (isC : List Nat) (hC : isC.map (fun i => w[i]?) = wc.map some) (had : w1.map (fun x => x.1) = wc.map (fun x => x.1))
    (hk : ∀ q : Nat, q < H.size → ¬ va_A wc H.size q → H1[q]? = H[q]?) (hP1 : va_P D vwCl w1 H1) : va_P D vwCl (putAll w isC w1) H1 ∧ va_D A0 (putAll w isC w1) := by
  have hlen : isC.length = w1.length := by
    have a := congrArg List.length hC
    have b := congrArg List.length had
    simp only [List.length_map] at a b
    omega
  refine ⟨fun k q hq => ?_, D_fst hD (putAll_fst isC w1 w ?_)⟩
  · rcases putAll_get isC w1 w hlen k q hq with h | ⟨h1, h2⟩
    · obtain ⟨j, hj⟩ := List.mem_iff_getElem?.mp h
      exact hP1 j q hj
    · have hl := (hP k q h2).lt
      refine (hP k q h2).kept (hk q.1 hl (fun h => ?_))
      rcases h with ⟨j, e, h⟩ | h
      · have h3 : (isC.map (fun i => w[i]?))[j]? = some (some (q.1, e)) := by rw [hC, List.getElem?_map, h]; rfl
        rw [List.getElem?_map] at h3
        cases hi : isC[j]? with
        | none => rw [hi] at h3; cases h3
        | some i =>
          rw [hi] at h3
          have h4 := Option.some.inj h3
          have hik := hD.1 k i q (q.1, e) h2 h4 rfl
          exact h1 (by rw [hik]; exact List.mem_of_getElem? hi)
      · omega
  · have h1 : (isC.map (fun i => w[i]?)).map (fun x => x.map (fun y => y.1)) = (wc.map some).map (fun x => x.map (fun y => y.1)) := by rw [hC]
    rw [List.map_map, List.map_map] at h1
    have h2 : wc.map ((fun x : Option (Nat × va_E) => x.map (fun y => y.1)) ∘ some) = (wc.map (fun x => x.1)).map some := by rw [List.map_map]; rfl
    rw [h2, ← had, List.map_map] at h1
    exact h1
/-- what a method finds, what it leaves -/
def Pm (G : GT) (w : va_W) (sz : Nat) : State → Prop := fun U => U.heap.size = sz ∧ va_P G.1 vwCl w U.heap ∧ va_D (fun _ => True) w ∧ va_K G.1 vwCl (tyL G.2.1) U ∧ Nst U ∧ Str G.2.2 (va_A w sz) U U.heap
def Qm (D : va_G) (rv : Option Value) (w' : va_W) (A : Nat → Prop) : Array Value → State → Outcome → State → Prop := fun _ st oc t => (oc = .returned rv ∧ va_P D vwCl w' t.heap) ∧ va_F A st t
/-- a contract: with these arguments and these cells the method returns rv, and leaves the cells w' -/
def Ctr (l : Launch) (G : GT) (y : MethodName) (ws : List Cond) (rm : Room) (as : List Value) (w : va_W) (rv : Option Value) (w' : va_W) : Prop := ∀ sz : Nat, Met l y ws rm (va_Pc as (Pm G w sz)) (Qm G.1 rv w' (va_A w sz)) 0 0 (va_A w sz)
theorem Pm.blind {G : GT} {as : List Value} {w : va_W} {sz : Nat} : FrameBlind (va_Pc as (Pm G w sz)) := fun a U g mk q => by
  obtain ⟨q0, q1, q2, q3, q4, q5, q6⟩ := q
  exact ⟨q0, q1, q2, q3, va_K.moved (u := U) (U := U.calling g mk a) (Vm.Alike.refl U.vm) q4, Nst.same (u := U) (U := U.calling g mk a) rfl q5, Str.same (u := U) (U := U.calling g mk a) rfl (Vm.Alike.refl U.vm) q6⟩
/-- how a method's own end is read -/
def Rt (Z : RZ) (ret : Option FieldType) : Prop := (zh Z).sig.returnType = ret ∧ (zh Z).locks = false ∧ zQ Z = fun rv w' => MQ (zb Z) (Qm (zG Z).1 rv w' (zA Z)) (za Z) (zs Z) 0 0 (zA Z)
theorem ctr_of {l : Launch} {G : GT} {y : MethodName} {ws ws' : List Cond} {rm : Room} {as : List Value} {w : va_W} {rv : Option Value} {w' : va_W} {cc : ByteArray} {maxL : Nat} {ret : Option FieldType} {own : String} (hy : plainName y.cls = true) (hcls : y.cls = own) (hw : ws = Cond.code y cc maxL ret :: ws') {L : List (Nat × Value)} (hL : lv_args 0 as = L) (hlen : (lg_sl as).length ≤ maxL) {β : Type} {E : β → Option (Option Value × va_W)} {o : β} (ho : E o = some (rv, w'))
    (body : ∀ Z : RZ, Cx Z cc own ws maxL rm → zl Z = l → zG Z = G → Rt Z ret → Rn Z maxL E 0 0 0 L [] w o) : Ctr l G y ws rm as w rv w' := by
  intro sz
  refine Met.ofW (cc := cc) (maxL := maxL) (ret := ret) hy hw ?_
  intro p e s m args below meth c s₁ B hml hv
  obtain ⟨rfl, hsz, hP, hD0, hK, hN, hT⟩ := hv
  subst hsz
  have hts := atoms_spec (ws := ws) B.pre
  have hown : s.vm.findClass own = some m.cls := by rw [← hcls]; exact findClass_of_methodNamed B.named
  have hD := hD0.self (sz := s.heap.size)
  have hl := lv_entry as (n := maxL) hlen
  rw [lg_entry_eq]
  generalize (lg_sl as ++ List.replicate (maxL - (lg_sl as).length) Slot.unset).toArray = ls at hl ⊢
  rw [hL] at hl
  let Z : RZ := ((p, l, e, (headSpec ws rm).room, s, m, as.toArray, below, meth, c), G, va_A w s.heap.size, fun rv w' => MQ below (Qm G.1 rv w' (va_A w s.heap.size)) as.toArray s 0 0 (va_A w s.heap.size))
  exact body Z ⟨⟨B.exec, B.bytes, hml, hown, hts⟩, hK, hN, hT, fun q h => Or.inr h, rfl⟩ rfl rfl ⟨B.returns, B.notSynchronized, rfl⟩ rv w' ho s.heap [] ls hP hD va_S.rf hl
theorem rn_iret (hX : Cx Z cc own Ts nL rm) {v : Int32} (hr : Rt Z (some .int)) (hE : E o = some (some (.int v), w)) (hdg : decode cc pc = .ok (.ireturn, 1)) : Rn Z nL E 0 0 pc L [.int v] w o := by
  intro rv w' hE2 H locs ls hP hD hS hl
  rw [hE] at hE2
  cases hE2
  rw [hr.2.2]
  exact W.iret (hlocks := hr.2.1) hX.1.1 hX.1.2.1 hr.1  (fun t ht _ => ⟨⟨rfl, by rw [ht]; exact hP⟩, hS.F ht⟩) hS.2.2 hdg
theorem rn_zret (hX : Cx Z cc own Ts nL rm) {v : Int32} {ty : FieldType} (hn : narrow ty (.int v) = .int v) (hr : Rt Z (some ty)) (hE : E o = some (some (.int v), w)) (hdg : decode cc pc = .ok (.ireturn, 1)) : Rn Z nL E 0 0 pc L [.int v] w o := by
  intro rv w' hE2 H locs ls hP hD hS hl
  rw [hE] at hE2
  cases hE2
  rw [hr.2.2]
  exact W.zret (hlocks := hr.2.1) hX.1.1 hX.1.2.1 hr.1 hn (fun t ht _ => ⟨⟨rfl, by rw [ht]; exact hP⟩, hS.F ht⟩) hS.2.2 hdg
theorem rn_lret (hX : Cx Z cc own Ts nL rm) {v : Int64} (hr : Rt Z (some .long)) (hE : E o = some (some (.long v), w)) (hdg : decode cc pc = .ok (.lreturn, 1)) : Rn Z nL E 0 0 pc L [.long v] w o := by
  intro rv w' hE2 H locs ls hP hD hS hl
  rw [hE] at hE2
  cases hE2
  rw [hr.2.2]
  exact W.lret (hlocks := hr.2.1) hX.1.1 hX.1.2.1 hr.1  (fun t ht _ => ⟨⟨rfl, by rw [ht]; exact hP⟩, hS.F ht⟩) hS.2.2 hdg
theorem rn_vret (hX : Cx Z cc own Ts nL rm) (hr : Rt Z (none)) (hE : E o = some (none, w)) (hdg : decode cc pc = .ok (.return_, 1)) : Rn Z nL E 0 0 pc L [] w o := by
  intro rv w' hE2 H locs ls hP hD hS hl
  rw [hE] at hE2
  cases hE2
  rw [hr.2.2]
  exact W.vret (hlocks := hr.2.1) hX.1.1 hX.1.2.1 hr.1  (fun t ht _ => ⟨⟨rfl, by rw [ht]; exact hP⟩, hS.F ht⟩) hS.2.2 hdg
theorem rn_callV (hX : Cx Z cc own Ts nL rm) {y : MethodName} {ws ws1 : List Cond} {rmc : Room} {index maxL n : Nat} {bytes : ByteArray} {ret : Option FieldType} {C : String} (hGd : GoodIn Ts (wsV own index C y ws)) (hw : ws = Cond.code y bytes maxL ret :: ws1) (hd : y.cls = C ∧ y.cls ≠ "java/lang/invoke/MethodHandle" ∧ y.cls ≠ "java/lang/invoke/VarHandle" ∧ (parseMethodDescriptor y.desc).map (fun d => d.parameters.length) = some n) (hrc : rmc.cells = 0) (hrs : rmc.slots = 0) (hRm : rmc.frames + 1 ≤ rm.frames ∧ 8 + (maxL + 11) + rmc.locals ≤ rm.locals) {b : Nat} {As : List Value} {wc : va_W} {rv : Option Value} {w1 : va_W} (hM : Ctr (zl Z) (zG Z) y ws rmc (.ref b :: As) wc rv w1) (hn : As.length = n) (isC : List Nat) (hC : isC.map (fun i => w[i]?) = wc.map some) (hnd : va_nd isC = true) (had : w1.map (fun x => x.1) = wc.map (fun x => x.1)) {ci N : Nat} {fs : List Value} {TT : u_T} (hci : vwCl[ci]? = some (C, TT, N)) (hb0 : wc[0]? = some (b, .inr (ci, fs))) {st S' : List Value} {wn : va_W} (hst : st = As.reverse ++ .ref b :: S) (hsum : (S.map fun v => v.category).sum ≤ 8) (hdg : decode cc pc = .ok (.invokevirtual index, 3)) (q : Nat) (hq : pc + 3 = q) (hw' : putAll w isC w1 = wn) (hS' : rv.toList ++ S = S') (hkc : kc ≤ rm.cells ∧ ks ≤ rm.slots) (k : Rn Z nL E kc ks q L S' wn o) : Rn Z nL E kc ks pc L st w o := by
  subst hq; subst hst; subst hw'; subst hS'
  intro rv0 w0 hE H locs ls hP hD hS hl
  have hR := hX.2.2.2.2.2
  have hCf : isC.filterMap (fun i => w[i]?) = wc := by
    have h1 : isC.filterMap (fun i => w[i]?) = (isC.map (fun i => w[i]?)).filterMap id := by rw [List.filterMap_map]; rfl
    rw [h1, hC, List.filterMap_map]
    exact List.filterMap_some
  have hPc : va_P (zG Z).1 vwCl wc H := hP.sub isC hCf
  have hFc := va_free hD hS hX.2.2.2.2.1 isC hC
  have hDc : va_D (fun _ => True) wc := (hD.sub isC hnd hC).weaken (fun _ _ _ _ => trivial)
  have hpre : ∀ U : State, U.heap = H → (zs Z).WarmedH U.vm → va_Pc (Value.ref b :: As) (Pm (zG Z) wc H.size) (Value.ref b :: As).toArray U := fun U hU hW => ⟨rfl, by rw [hU], by rw [hU]; exact hPc, hDc, va_K.moved hW.alike hX.2.1, hX.2.2.1.warm hW, by rw [hU]; exact hX.2.2.2.1.move hW hFc hS.2.1⟩
  intro T hT X
  obtain ⟨v, st₀, t, T', L', h0, X', hL, e1, e2, ⟨⟨hv, hP1⟩, hz, hk⟩, st⟩ := (va_runV (g := F0 (zm Z) pc ls (As.reverse ++ .ref b :: S)) (below := zb Z) (meth := zh Z) (e := ze Z) (locs := locs) (cells := kc) (slots := ks) hX.1 (hM H.size) (cwV n hX.1.2.2.2.2 hGd hw hrc hrs hd (by rw [hR]; exact hRm)) ⟨Pm.blind, va_recv hX.2.1 hPc hci hb0, hpre⟩ rfl hn hl.1 rfl (by show 2 * 0 + _ ≤ 8; omega) hdg (by rw [hR]; exact hkc)) T hT X
  cases hv
  rw [h0] at hz hk
  obtain ⟨hP2, hD2⟩ := put_join (H1 := T'.heap) hP hD isC hC had (fun q h1 h2 => by rw [e1]; exact hk q h1 h2) (by rw [e1]; exact hP1)
  obtain ⟨t2, a1, b1⟩ := k rv0 w0 hE T'.heap (locs ++ L') ls hP2 hD2
    ⟨Nat.le_trans hS.1 (by rw [e1]; exact hz), fun q h1 h2 => by rw [e1, hk q (Nat.lt_of_lt_of_le h1 hS.1) (fun z => h2 (hFc q z))]; exact hS.2.1 q h1 h2, fun q hq => by
      rcases List.mem_append.mp hq with h | h
      · exact hS.2.2 q h
      · exact hFc _ (hL q h)⟩ hl T' rfl X'
  exact ⟨t2, st t2 a1, b1⟩
theorem rn_callS (hX : Cx Z cc own Ts nL rm) {y : MethodName} {ws ws1 : List Cond} {rmc : Room} {index maxL n : Nat} {bytes : ByteArray} {ret : Option FieldType} (hGd : GoodIn Ts (va_wsS own index y ws)) (hw : ws = Cond.code y bytes maxL ret :: ws1) (hd : y.cls ≠ "java/lang/invoke/MethodHandle" ∧ y.cls ≠ "java/lang/invoke/VarHandle" ∧ (parseMethodDescriptor y.desc).map (fun d => d.parameters.length) = some n) (hrc : rmc.cells = 0) (hrs : rmc.slots = 0) (hRm : rmc.frames + 1 ≤ rm.frames ∧ 8 + (maxL + 11) + rmc.locals ≤ rm.locals) {As : List Value} {wc : va_W} {rv : Option Value} {w1 : va_W} (hM : Ctr (zl Z) (zG Z) y ws rmc As wc rv w1) (hn : As.length = n) (isC : List Nat) (hC : isC.map (fun i => w[i]?) = wc.map some) (hnd : va_nd isC = true) (had : w1.map (fun x => x.1) = wc.map (fun x => x.1)) {st S' : List Value} {wn : va_W} (hst : st = As.reverse ++ S) (hsum : (S.map fun v => v.category).sum ≤ 8) (hdg : decode cc pc = .ok (.invokestatic index, 3)) (q : Nat) (hq : pc + 3 = q) (hw' : putAll w isC w1 = wn) (hS' : rv.toList ++ S = S') (hkc : kc ≤ rm.cells ∧ ks ≤ rm.slots) (k : Rn Z nL E kc ks q L S' wn o) : Rn Z nL E kc ks pc L st w o := by
  subst hq; subst hst; subst hw'; subst hS'
  intro rv0 w0 hE H locs ls hP hD hS hl
  have hR := hX.2.2.2.2.2
  have hCf : isC.filterMap (fun i => w[i]?) = wc := by
    have h1 : isC.filterMap (fun i => w[i]?) = (isC.map (fun i => w[i]?)).filterMap id := by rw [List.filterMap_map]; rfl
    rw [h1, hC, List.filterMap_map]
    exact List.filterMap_some
  have hPc : va_P (zG Z).1 vwCl wc H := hP.sub isC hCf
  have hFc := va_free hD hS hX.2.2.2.2.1 isC hC
  have hDc : va_D (fun _ => True) wc := (hD.sub isC hnd hC).weaken (fun _ _ _ _ => trivial)
  have hpre : ∀ U : State, U.heap = H → (zs Z).WarmedH U.vm → va_Pc (As) (Pm (zG Z) wc H.size) (As).toArray U := fun U hU hW => ⟨rfl, by rw [hU], by rw [hU]; exact hPc, hDc, va_K.moved hW.alike hX.2.1, hX.2.2.1.warm hW, by rw [hU]; exact hX.2.2.2.1.move hW hFc hS.2.1⟩
  intro T hT X
  obtain ⟨v, st₀, t, T', L', h0, X', hL, e1, e2, ⟨⟨hv, hP1⟩, hz, hk⟩, st⟩ := (va_runS (g := F0 (zm Z) pc ls (As.reverse ++ S)) (below := zb Z) (meth := zh Z) (e := ze Z) (locs := locs) (cells := kc) (slots := ks) hX.1 (hM H.size) (va_cwS n hX.1.2.2.2.2 hGd hw hrc hrs hd (by rw [hR]; exact hRm)) ⟨Pm.blind, hpre⟩ rfl hn hl.1 rfl (by show 2 * 0 + _ ≤ 8; omega) hdg (by rw [hR]; exact hkc)) T hT X
  cases hv
  rw [h0] at hz hk
  obtain ⟨hP2, hD2⟩ := put_join (H1 := T'.heap) hP hD isC hC had (fun q h1 h2 => by rw [e1]; exact hk q h1 h2) (by rw [e1]; exact hP1)
  obtain ⟨t2, a1, b1⟩ := k rv0 w0 hE T'.heap (locs ++ L') ls hP2 hD2
    ⟨Nat.le_trans hS.1 (by rw [e1]; exact hz), fun q h1 h2 => by rw [e1, hk q (Nat.lt_of_lt_of_le h1 hS.1) (fun z => h2 (hFc q z))]; exact hS.2.1 q h1 h2, fun q hq => by
      rcases List.mem_append.mp hq with h | h
      · exact hS.2.2 q h
      · exact hFc _ (hL q h)⟩ hl T' rfl X'
  exact ⟨t2, st t2 a1, b1⟩
theorem rn_callSN (hX : Cx Z cc own Ts nL rm) {y : MethodName} {ws ws1 : List Cond} {rmc : Room} {index maxL n : Nat} {bytes : ByteArray} {ret : Option FieldType} {host : String} (hGd : GoodIn Ts ws) (hw : ws = Cond.code y bytes maxL ret :: ws1) (hnl : (own, index, y, host) ∈ nsL) (hini : (Cond.initialized y.cls).before (za Z) (zs Z) = true) (hstat : (Cond.static y).before (za Z) (zs Z) = true) (hd : y.cls ≠ "java/lang/invoke/MethodHandle" ∧ y.cls ≠ "java/lang/invoke/VarHandle" ∧ (parseMethodDescriptor y.desc).map (fun d => d.parameters.length) = some n) (hrc : rmc.cells = 0) (hrs : rmc.slots = 0) (hRm : rmc.frames + 1 ≤ rm.frames ∧ 8 + (maxL + 11) + rmc.locals ≤ rm.locals) {As : List Value} {wc : va_W} {rv : Option Value} {w1 : va_W} (hM : Ctr (zl Z) (zG Z) y ws rmc As wc rv w1) (hn : As.length = n) (isC : List Nat) (hC : isC.map (fun i => w[i]?) = wc.map some) (hnd : va_nd isC = true) (had : w1.map (fun x => x.1) = wc.map (fun x => x.1)) {st S' : List Value} {wn : va_W} (hst : st = As.reverse ++ S) (hsum : (S.map fun v => v.category).sum ≤ 8) (hdg : decode cc pc = .ok (.invokestatic index, 3)) (q : Nat) (hq : pc + 3 = q) (hw' : putAll w isC w1 = wn) (hS' : rv.toList ++ S = S') (hkc : kc ≤ rm.cells ∧ ks ≤ rm.slots) (k : Rn Z nL E kc ks q L S' wn o) : Rn Z nL E kc ks pc L st w o := by
  subst hq; subst hst; subst hw'; subst hS'
  intro rv0 w0 hE H locs ls hP hD hS hl
  have hR := hX.2.2.2.2.2
  have hCf : isC.filterMap (fun i => w[i]?) = wc := by
    have h1 : isC.filterMap (fun i => w[i]?) = (isC.map (fun i => w[i]?)).filterMap id := by rw [List.filterMap_map]; rfl
    rw [h1, hC, List.filterMap_map]
    exact List.filterMap_some
  have hPc : va_P (zG Z).1 vwCl wc H := hP.sub isC hCf
  have hFc := va_free hD hS hX.2.2.2.2.1 isC hC
  have hDc : va_D (fun _ => True) wc := (hD.sub isC hnd hC).weaken (fun _ _ _ _ => trivial)
  have hpre : ∀ U : State, U.heap = H → (zs Z).WarmedH U.vm → va_Pc (As) (Pm (zG Z) wc H.size) (As).toArray U := fun U hU hW => ⟨rfl, by rw [hU], by rw [hU]; exact hPc, hDc, va_K.moved hW.alike hX.2.1, hX.2.2.1.warm hW, by rw [hU]; exact hX.2.2.2.1.move hW hFc hS.2.1⟩
  intro T hT X
  obtain ⟨v, st₀, t, T', L', h0, X', hL, e1, e2, ⟨⟨hv, hP1⟩, hz, hk⟩, st⟩ := (va_runSN (g := F0 (zm Z) pc ls (As.reverse ++ S)) (below := zb Z) (meth := zh Z) (e := ze Z) (locs := locs) (cells := kc) (slots := ks) hX.1 (hM H.size) ⟨va_cnB n hX.1.2.2.2.2 hGd hw hrc hrs (hX.2.2.1.1 _ hnl) hini hd (by rw [hR]; exact hRm), hstat, trivial⟩ ⟨Pm.blind, hpre⟩ rfl hn hl.1 rfl (by show 2 * 0 + _ ≤ 8; omega) hdg (by rw [hR]; exact hkc)) T hT X
  cases hv
  rw [h0] at hz hk
  obtain ⟨hP2, hD2⟩ := put_join (H1 := T'.heap) hP hD isC hC had (fun q h1 h2 => by rw [e1]; exact hk q h1 h2) (by rw [e1]; exact hP1)
  obtain ⟨t2, a1, b1⟩ := k rv0 w0 hE T'.heap (locs ++ L') ls hP2 hD2
    ⟨Nat.le_trans hS.1 (by rw [e1]; exact hz), fun q h1 h2 => by rw [e1, hk q (Nat.lt_of_lt_of_le h1 hS.1) (fun z => h2 (hFc q z))]; exact hS.2.1 q h1 h2, fun q hq => by
      rcases List.mem_append.mp hq with h | h
      · exact hS.2.2 q h
      · exact hFc _ (hL q h)⟩ hl T' rfl X'
  exact ⟨t2, st t2 a1, b1⟩
theorem putAll_same : ∀ (is : List Nat) (w wc : va_W), is.map (fun i => w[i]?) = wc.map some → putAll w is wc = w
  | [], w, wc, _ => by cases wc <;> rfl
  | _ :: _, w, [], _ => rfl
  | i :: is, w, r :: wc, h => by
    rw [List.map_cons, List.map_cons] at h
    have h0 := (List.cons.inj h).1
    have ht := (List.cons.inj h).2
    have e : w.set i r = w := by
      apply List.ext_getElem?
      intro k
      rw [List.getElem?_set]
      split
      · rename_i e
        subst e
        split
        · exact h0.symm
        · rename_i hlt
          rw [List.getElem?_eq_none (by omega)]
      · rfl
    show putAll (w.set i r) is wc = w
    rw [e]
    exact putAll_same is w wc ht
/-- references in a row -/
def rf2 (x y : Nat) : Nat → Option Nat := fun k => if k = 0 then some x else if k = 1 then some y else none
def rf4 (x y z t : Nat) : Nat → Option Nat := fun k => if k = 0 then some x else if k = 1 then some y else if k = 2 then some z else if k = 3 then some t else none
theorem rn_callV0 (hX : Cx Z cc own Ts nL rm) {y : MethodName} {ws ws1 : List Cond} {rmc : Room} {index maxL n : Nat} {bytes : ByteArray} {ret : Option FieldType} {C : String} (hGd : GoodIn Ts (wsV own index C y ws)) (hw : ws = Cond.code y bytes maxL ret :: ws1) (hd : y.cls = C ∧ y.cls ≠ "java/lang/invoke/MethodHandle" ∧ y.cls ≠ "java/lang/invoke/VarHandle" ∧ (parseMethodDescriptor y.desc).map (fun d => d.parameters.length) = some n) (hrc : rmc.cells = 0) (hrs : rmc.slots = 0) (hRm : rmc.frames + 1 ≤ rm.frames ∧ 8 + (maxL + 11) + rmc.locals ≤ rm.locals) {b : Nat} {As : List Value} {wc : va_W} {rv : Option Value} (hM : Ctr (zl Z) (zG Z) y ws rmc (.ref b :: As) wc rv wc) (hn : As.length = n) (isC : List Nat) (hC : isC.map (fun i => w[i]?) = wc.map some) (hnd : va_nd isC = true) {ci N : Nat} {fs : List Value} {TT : u_T} (hci : vwCl[ci]? = some (C, TT, N)) (hb0 : wc[0]? = some (b, .inr (ci, fs))) {st S' : List Value} (hst : st = As.reverse ++ .ref b :: S) (hsum : (S.map fun v => v.category).sum ≤ 8) (hdg : decode cc pc = .ok (.invokevirtual index, 3)) (q : Nat) (hq : pc + 3 = q) (hS' : rv.toList ++ S = S') (hkc : kc ≤ rm.cells ∧ ks ≤ rm.slots) (k : Rn Z nL E kc ks q L S' w o) : Rn Z nL E kc ks pc L st w o := rn_callV hX hGd hw hd hrc hrs hRm hM hn isC hC hnd rfl hci hb0 hst hsum hdg q hq (putAll_same isC w wc hC) hS' hkc k
theorem rn_callS0 (hX : Cx Z cc own Ts nL rm) {y : MethodName} {ws ws1 : List Cond} {rmc : Room} {index maxL n : Nat} {bytes : ByteArray} {ret : Option FieldType} (hGd : GoodIn Ts (va_wsS own index y ws)) (hw : ws = Cond.code y bytes maxL ret :: ws1) (hd : y.cls ≠ "java/lang/invoke/MethodHandle" ∧ y.cls ≠ "java/lang/invoke/VarHandle" ∧ (parseMethodDescriptor y.desc).map (fun d => d.parameters.length) = some n) (hrc : rmc.cells = 0) (hrs : rmc.slots = 0) (hRm : rmc.frames + 1 ≤ rm.frames ∧ 8 + (maxL + 11) + rmc.locals ≤ rm.locals) {As : List Value} {wc : va_W} {rv : Option Value} (hM : Ctr (zl Z) (zG Z) y ws rmc As wc rv wc) (hn : As.length = n) (isC : List Nat) (hC : isC.map (fun i => w[i]?) = wc.map some) (hnd : va_nd isC = true) {st S' : List Value} (hst : st = As.reverse ++ S) (hsum : (S.map fun v => v.category).sum ≤ 8) (hdg : decode cc pc = .ok (.invokestatic index, 3)) (q : Nat) (hq : pc + 3 = q) (hS' : rv.toList ++ S = S') (hkc : kc ≤ rm.cells ∧ ks ≤ rm.slots) (k : Rn Z nL E kc ks q L S' w o) : Rn Z nL E kc ks pc L st w o := rn_callS hX hGd hw hd hrc hrs hRm hM hn isC hC hnd rfl hst hsum hdg q hq (putAll_same isC w wc hC) hS' hkc k
theorem rn_callSN0 (hX : Cx Z cc own Ts nL rm) {y : MethodName} {ws ws1 : List Cond} {rmc : Room} {index maxL n : Nat} {bytes : ByteArray} {ret : Option FieldType} {host : String} (hGd : GoodIn Ts ws) (hw : ws = Cond.code y bytes maxL ret :: ws1) (hnl : (own, index, y, host) ∈ nsL) (hini : (Cond.initialized y.cls).before (za Z) (zs Z) = true) (hstat : (Cond.static y).before (za Z) (zs Z) = true) (hd : y.cls ≠ "java/lang/invoke/MethodHandle" ∧ y.cls ≠ "java/lang/invoke/VarHandle" ∧ (parseMethodDescriptor y.desc).map (fun d => d.parameters.length) = some n) (hrc : rmc.cells = 0) (hrs : rmc.slots = 0) (hRm : rmc.frames + 1 ≤ rm.frames ∧ 8 + (maxL + 11) + rmc.locals ≤ rm.locals) {As : List Value} {wc : va_W} {rv : Option Value} (hM : Ctr (zl Z) (zG Z) y ws rmc As wc rv wc) (hn : As.length = n) (isC : List Nat) (hC : isC.map (fun i => w[i]?) = wc.map some) (hnd : va_nd isC = true) {st S' : List Value} (hst : st = As.reverse ++ S) (hsum : (S.map fun v => v.category).sum ≤ 8) (hdg : decode cc pc = .ok (.invokestatic index, 3)) (q : Nat) (hq : pc + 3 = q) (hS' : rv.toList ++ S = S') (hkc : kc ≤ rm.cells ∧ ks ≤ rm.slots) (k : Rn Z nL E kc ks q L S' w o) : Rn Z nL E kc ks pc L st w o := rn_callSN hX hGd hw hnl hini hstat hd hrc hrs hRm hM hn isC hC hnd rfl hst hsum hdg q hq (putAll_same isC w wc hC) hS' hkc k
end RN
