def QmN (D : va_G) (Wp : va_W → Prop) (A : Nat → Prop) : Array Value → State → Outcome → State → Prop := fun _ st oc t => (∃ w', Wp w' ∧ oc = .returned none ∧ va_P D vwCl w' t.heap ∧ va_D A w') ∧ va_F A st t
/-- a constructor's contract: it leaves cells as Wp says, and makes mc cells of ms slots -/
def CtrN (l : Launch) (G : GT) (y : MethodName) (ws : List Cond) (rm : Room) (as : List Value) (w : va_W) (Wp : va_W → Prop) (mc ms : Nat) : Prop := ∀ sz : Nat, Met l y ws rm (va_Pc as (Pm G w sz)) (QmN G.1 Wp (va_A w sz)) mc ms (va_A w sz)
def RtN (Z : RZ) (Wp : va_W → Prop) (mc ms : Nat) : Prop := (zh Z).sig.returnType = none ∧ (zh Z).locks = false ∧ (zh Z).name = "<init>" ∧ zQ Z = fun _ _ => MQ (zb Z) (QmN (zG Z).1 Wp (zA Z)) (za Z) (zs Z) mc ms (zA Z)
abbrev EU : Unit → Option (Option Value × va_W) := fun _ => some (none, [])
theorem ctrN_of {l : Launch} {G : GT} {y : MethodName} {ws ws' : List Cond} {rm : Room} {as : List Value} {w : va_W} {Wp : va_W → Prop} {mc ms : Nat} {cc : ByteArray} {maxL : Nat} {own : String} (hy : plainName y.cls = true) (hcls : y.cls = own) (hnm : y.name = "<init>") (hw : ws = Cond.code y cc maxL none :: ws') {L : List (Nat × Value)} (hL : lv_args 0 as = L) (hlen : (lg_sl as).length ≤ maxL)
    (body : ∀ Z : RZ, Cx Z cc own ws maxL rm → zl Z = l → zG Z = G → RtN Z Wp mc ms → Rn Z maxL EU 0 0 0 L [] w ()) : CtrN l G y ws rm as w Wp mc ms := by
  intro sz
  refine Met.ofW (cc := cc) (maxL := maxL) (ret := none) hy hw ?_
  intro p e s m args below meth c s₁ B hml hv
  obtain ⟨rfl, hsz, hP, hD0, hK, hN, hT⟩ := hv
  subst hsz
  have hts := atoms_spec (ws := ws) B.pre
  have hown : s.vm.findClass own = some m.cls := by rw [← hcls]; exact findClass_of_methodNamed B.named
  have hin : meth.name = "<init>" := by rw [(name_of_methodNamed B.named B.method).1]; exact hnm
  have hD := hD0.self (sz := s.heap.size)
  have hl := lv_entry as (n := maxL) hlen
  rw [lg_entry_eq]
  generalize (lg_sl as ++ List.replicate (maxL - (lg_sl as).length) Slot.unset).toArray = ls at hl ⊢
  rw [hL] at hl
  let Z : RZ := ((p, l, e, (headSpec ws rm).room, s, m, as.toArray, below, meth, c), G, va_A w s.heap.size, fun _ _ => MQ below (QmN G.1 Wp (va_A w s.heap.size)) as.toArray s mc ms (va_A w s.heap.size))
  exact body Z ⟨⟨B.exec, B.bytes, hml, hown, hts⟩, hK, hN, hT, fun q h => Or.inr h, rfl⟩ rfl rfl ⟨B.returns, B.notSynchronized, hin, rfl⟩ none [] rfl s.heap [] ls hP hD va_S.rf hl
theorem RA_eq {U : State} {c1 c2 : ClassId} {ty : FieldType} (h1 : va_RA U c1 ty) (h2 : va_RA U c2 ty) : c1 = c2 := by
  cases ty with
  | object C =>
    obtain ⟨_, _, _, _, _, e1⟩ := h1
    obtain ⟨_, _, _, _, _, e2⟩ := h2
    exact Option.some.inj (e1.symm.trans e2)
  | _ => exact Option.some.inj (Eq.trans (Eq.symm h1) h2)
section CT
variable {Z : RZ} {cc : ByteArray} {own : String} {Ts : List Cond} {nL : Nat} {rm : Room} {β : Type} {E : β → Option (Option Value × va_W)} {kc ks pc : Nat} {L : List (Nat × Value)} {S : List Value} {w : va_W} {o : β}
theorem rn_w {w1 : va_W} (h : w = w1) (k : Rn Z nL E kc ks pc L S w1 o) : Rn Z nL E kc ks pc L S w o := h ▸ k
theorem rn_objInit (hX : Cx Z cc own Ts nL rm) {index a : Nat} (hlink : (Cond.methodLink own index objectInit).before (za Z) (zs Z) = true) (hinst : (Cond.instanceMethod objectInit).before (za Z) (zs Z) = true) (hcode : (Cond.code objectInit ⟨#[0xb1]⟩ 1 none).before (za Z) (zs Z) = true) (hf : 1 ≤ rm.frames) (hlo : (S.map fun v => v.category).sum + 12 ≤ rm.locals) (hdg : decode cc pc = .ok (.invokespecial index, 3)) (q : Nat) (hq : pc + 3 = q) (k : Rn Z nL E kc ks q L S w o) : Rn Z nL E kc ks pc L (.ref a :: S) w o := by
  subst hq; intro rv w' hE H locs ls hP hD hS hl
  have hR := hX.2.2.2.2.2
  exact W.objInit hX.1.1 hX.1.2.1 hX.1.2.2.2.1 hlink hinst hcode rfl (hl.1.trans hX.1.2.2.1.symm) rfl hdg (by rw [hR]; exact hf) (by rw [hR]; show 2 * 0 + _ + 12 ≤ _; omega) (k rv w' hE H locs ls hP hD hS hl)
theorem rn_new (hX : Cx Z cc own Ts nL rm) {C : String} {T : u_T} {N ci index : Nat} {ty0 : Nat → FieldType} {fs : List Value} (hin : ∀ w ∈ u_ws C T N, w ∈ Ts) (hty : ∀ k, k < N → parseFieldDescriptor (T k).2.2.1 = some (ty0 k)) (hcl : (Cond.classLink own index C).before (za Z) (zs Z) = true) (hinst : (Cond.instantiable C N).before (za Z) (zs Z) = true) (hini : (Cond.initialized C).before (za Z) (zs Z) = true) (hc : vwCl[ci]? = some (C, T, N)) (hfs : ∀ j, j < N → defaultValue (ty0 j) = vp_V fs j) (hcells : kc + 1 ≤ rm.cells) (hslots : ks + N ≤ rm.slots) (hdg : decode cc pc = .ok (.new index, 3)) (q : Nat) (hq : pc + 3 = q) (k : ∀ a : Nat, Rn Z nL E (kc + 1) (ks + N) q L (.ref a :: S) (w ++ [(a, .inr (ci, fs))]) o) : Rn Z nL E kc ks pc L S w o := by
  subst hq; intro rv w' hE H locs ls hP hD hS hl
  have hR := hX.2.2.2.2.2
  exact va_new hX.1.1 hX.1.2.1 hX.1.2.2.2.2 hin ty0 hty hX.1.2.2.2.1 hcl hinst hini hX.2.1 hP hD hS hX.2.2.2.2.1 hc hfs (by rw [hR]; exact hcells) (by rw [hR]; exact hslots) hdg (fun a H hP hD hS => k a rv w' hE H locs ls hP hD hS hl)
theorem rn_newq (hX : Cx Z cc own Ts nL rm) {C : String} {index t0 N : Nat} {n : Int32} (hcl : (Cond.classLink own index C).before (za Z) (zs Z) = true) (hover : va_AO C (zs Z)) (ht : (tyL (zG Z).2.1)[t0]? = some ((zG Z).2.1 t0, .object C)) (hn : ¬ n < 0) (hN : n.toNatClampNeg = N) (hb : N * 4 ≤ 536870912) (hcells : kc + 1 ≤ rm.cells) (hslots : ks + N ≤ rm.slots) (hdg : decode cc pc = .ok (.anewarray index, 3)) (q : Nat) (hq : pc + 3 = q) (k : ∀ a : Nat, Rn Z nL E (kc + 1) (ks + N) q L (.ref a :: S) (w ++ [(a, .inl ((zG Z).2.1 t0, N, .inr (.inr (.inr (.inr (fun _ => none))))))]) o) : Rn Z nL E kc ks pc L (.int n :: S) w o := by
  subst hq; intro rv w' hE H locs ls hP hD hS hl
  have hR := hX.2.2.2.2.2
  refine va_newq hX.1.1 hX.1.2.1 hX.1.2.2.2.1 hcl hover hX.2.1 hP hD hS hX.2.2.2.2.1 hn hN hb (by rw [hR]; exact hcells) (by rw [hR]; exact hslots) hdg (fun a cA H hK hP hD hS => ?_)
  have e : cA = (zG Z).2.1 t0 := RA_eq (hK.2 5 (cA, .object C) rfl).2 (hX.2.1.2 t0 _ ht).2
  subst e
  exact k a rv w' hE H locs ls hP hD hS hl
theorem rn_putF (hX : Cx Z cc own Ts nL rm) {C : String} {T : u_T} {N ci index a : Nat} {ty0 : Nat → FieldType} (hin : ∀ w ∈ u_ws C T N, w ∈ Ts) (hty : ∀ k, k < N → parseFieldDescriptor (T k).2.2.1 = some (ty0 k)) (hnm : ∀ a, a < N → ∀ b, b < N → a ≠ b → (T a).2.1 ≠ (T b).2.1) (hini : (zh Z).name = "<init>") (q0 : Nat) {fs : List Value} (he : w[q0]? = some (a, .inr (ci, fs))) (hc : vwCl[ci]? = some (C, T, N)) (kf : Nat) (hk : kf < N) (hlink : (Cond.fieldLink own index own (T kf).2.1 (T kf).2.2.1).before (za Z) (zs Z) = true) (href : (T kf).1 = own) (hfin : (T kf).2.2.2 = true) {v : Value} (hn : narrow (ty0 kf) v = v) (hfit : fits (ty0 kf) v = true) (hlen : kf < fs.length) (hdg : decode cc pc = .ok (.putfield index, 3)) (q : Nat) (hq : pc + 3 = q) {w1 : va_W} (hw1 : w.set q0 (a, .inr (ci, fs.set kf v)) = w1) (k : Rn Z nL E kc ks q L S w1 o) : Rn Z nL E kc ks pc L (v :: .ref a :: S) w o := by
  subst hq; subst hw1; intro rv w' hE H locs ls hP hD hS hl
  exact va_putF hX.1.1 hX.1.2.1 hX.1.2.2.2.2 hin ty0 hty hnm hX.1.2.2.2.1 hX.2.1 hP hD hS q0 he hc kf hk hlink (fun _ h => by rw [href] at h; exact h) hfin hini href (hty kf hk) hn hfit hlen hdg (fun H locs hP hD hS => (k rv w' hE H locs ls hP hD hS hl))
theorem rn_iastx (hX : Cx Z cc own Ts nL rm) {a n : Nat} {f : Nat → Int32} {w1 : va_W} (q0 : Nat) (ha : w[q0]? = some (a, .inl ((zG Z).2.1 1, n, .inl f))) {i x : Int32} {j : Nat} (hj : i.toNatClampNeg = j) (hi : vp_in i n) (hdg : decode cc pc = .ok (.iastore, 1)) (q : Nat) (hq : pc + 1 = q) (hw1 : w.set q0 (a, .inl ((zG Z).2.1 1, n, .inl (upd f j x))) = w1) (k : Rn Z nL E kc ks q L S w1 o) : Rn Z nL E kc ks pc L (.int x :: .int i :: .ref a :: S) w o := by
  subst hq; subst hj; subst hw1; intro rv w' hE H locs ls hP hD hS hl
  exact va_iast hX.1.1 hX.1.2.1 hX.2.1 hP hD hS q0 1 ha rfl hi hdg (fun H locs hP hD hS => (k rv w' hE H locs ls hP hD hS hl))
theorem rn_aast (hX : Cx Z cc own Ts nL rm) {a n t0 v ci N : Nat} {C : String} {T : u_T} {vs : List Value} {f : Nat → Option Nat} {w1 : va_W} (q0 qk : Nat) (ha : w[q0]? = some (a, .inl ((zG Z).2.1 t0, n, .inr (.inr (.inr (.inr f)))))) (ht : (tyL (zG Z).2.1)[t0]? = some ((zG Z).2.1 t0, .object C)) (hv : w[qk]? = some (v, .inr (ci, vs))) (hc : vwCl[ci]? = some (C, T, N)) {i : Int32} {j : Nat} (hj : i.toNatClampNeg = j) (hi : vp_in i n) (hdg : decode cc pc = .ok (.aastore, 1)) (q : Nat) (hq : pc + 1 = q) (hw1 : w.set q0 (a, .inl ((zG Z).2.1 t0, n, .inr (.inr (.inr (.inr (va_up f j (some v))))))) = w1) (k : Rn Z nL E kc ks q L S w1 o) : Rn Z nL E kc ks pc L (.ref v :: .int i :: .ref a :: S) w o := by
  subst hq; subst hj; subst hw1; intro rv w' hE H locs ls hP hD hS hl
  exact va_astq hX.1.1 hX.1.2.1 hX.2.1 hP hD hS q0 t0 qk ci ha ht hv hc hi hdg (fun H locs hP hD hS => (k rv w' hE H locs ls hP hD hS hl))
theorem rn_hicmp_ge (hX : Cx Z cc own Ts nL rm) {x y : Int32} {off : Int} (hdg : decode cc pc = .ok (.if_icmp .ge off, 3)) (tgt : Nat) (ht : (pc : Int) + off = (tgt : Int)) (q : Nat) (hq : pc + 3 = q) (kt : y ≤ x → Rn Z nL E kc ks tgt L S w o) (kf : ¬ y ≤ x → Rn Z nL E kc ks q L S w o) : Rn Z nL E kc ks pc L (.int y :: .int x :: S) w o := by
  subst hq; intro rv w' hE H locs ls hP hD hS hl
  exact lv_icmp_ge hX.1.1 hX.1.2.1 hdg ht (fun h => kt h rv w' hE H locs ls hP hD hS hl) (fun h => kf h rv w' hE H locs ls hP hD hS hl)
theorem rn_iincx (hX : Cx Z cc own Ts nL rm) {i : Nat} {n : Int} {x v : Int32} {L' : List (Nat × Value)} (hdg : decode cc pc = .ok (.iinc i n, 3)) (kp : Nat) (hk : L[kp]? = some (i, .int x)) (hd : x + Int32.ofInt n = v) (hn : i < nL) (hL : (i, Value.int v) :: L.filter (fun q => !(q.1 == i) && !(q.1 + 1 == i && q.2.category == 2)) = L') (q : Nat) (hq : pc + 3 = q) (k : Rn Z nL E kc ks q L' S w o) : Rn Z nL E kc ks pc L S w o := by
  subst hq; intro rv w' hE H locs ls hP hD hS hl
  exact lv_iinc hX.1.1 hX.1.2.1 hdg hl hk hd hn hL (fun ls hl => (k rv w' hE H locs ls hP hD hS hl))
theorem rn_cret (hX : Cx Z cc own Ts nL rm) {Wp : va_W → Prop} {mc ms : Nat} (hr : RtN Z Wp mc ms) (hW : Wp w) (hc : kc = mc) (hs : ks = ms) (hdg : decode cc pc = .ok (.return_, 1)) : Rn Z nL EU kc ks pc L [] w () := by
  subst hc; subst hs; intro rv w' hE H locs ls hP hD hS hl
  rw [hr.2.2.2]
  exact W.vret (hlocks := hr.2.1) hX.1.1 hX.1.2.1 hr.1 (fun t ht _ => ⟨⟨w, hW, rfl, by rw [ht]; exact hP, hD⟩, hS.F ht⟩) hS.2.2 hdg
theorem rn_newi (hX : Cx Z cc own Ts nL rm) {N : Nat} {n : Int32} (harr : (Cond.arrayClass .int).before (za Z) (zs Z) = true) (hn : ¬ n < 0) (hN : n.toNatClampNeg = N) (hb : N * 4 ≤ 536870912) (hcells : kc + 1 ≤ rm.cells) (hslots : ks + N ≤ rm.slots) (hdg : decode cc pc = .ok (.newarray .int, 2)) (q : Nat) (hq : pc + 2 = q) (k : ∀ a : Nat, Rn Z nL E (kc + 1) (ks + N) q L (.ref a :: S) (w ++ [(a, .inl ((zG Z).2.1 1, N, .inl (fun _ => 0)))]) o) : Rn Z nL E kc ks pc L (.int n :: S) w o := by
  subst hq; intro rv w' hE H locs ls hP hD hS hl
  have hR := hX.2.2.2.2.2
  refine va_newa (atype := .int) (ty := .int) (a0 := (N, .inl (fun _ => 0))) hX.1.1 hX.1.2.1 harr rfl hX.2.1 hP hD hS hX.2.2.2.2.1 (fun _ => rfl) hn hN (Nat.le_trans (Nat.mul_le_mul_left N (show componentBytes .int ≤ 4 by decide)) hb) (by rw [hR]; exact hcells) (by rw [hR]; exact hslots) hdg (fun a cA H hK hP hD hS => ?_)
  have e : cA = (zG Z).2.1 1 := RA_eq (hK.2 5 (cA, .int) rfl).2 (hX.2.1.2 1 _ rfl).2
  subst e
  exact k a rv w' hE H locs ls hP hD hS hl
theorem rn_newb (hX : Cx Z cc own Ts nL rm) {N : Nat} {n : Int32} (harr : (Cond.arrayClass .byte).before (za Z) (zs Z) = true) (hn : ¬ n < 0) (hN : n.toNatClampNeg = N) (hb : N * 4 ≤ 536870912) (hcells : kc + 1 ≤ rm.cells) (hslots : ks + N ≤ rm.slots) (hdg : decode cc pc = .ok (.newarray .byte, 2)) (q : Nat) (hq : pc + 2 = q) (k : ∀ a : Nat, Rn Z nL E (kc + 1) (ks + N) q L (.ref a :: S) (w ++ [(a, .inl ((zG Z).2.1 0, N, .inl (fun _ => 0)))]) o) : Rn Z nL E kc ks pc L (.int n :: S) w o := by
  subst hq; intro rv w' hE H locs ls hP hD hS hl
  have hR := hX.2.2.2.2.2
  refine va_newa (atype := .byte) (ty := .byte) (a0 := (N, .inl (fun _ => 0))) hX.1.1 hX.1.2.1 harr rfl hX.2.1 hP hD hS hX.2.2.2.2.1 (fun _ => rfl) hn hN (Nat.le_trans (Nat.mul_le_mul_left N (show componentBytes .byte ≤ 4 by decide)) hb) (by rw [hR]; exact hcells) (by rw [hR]; exact hslots) hdg (fun a cA H hK hP hD hS => ?_)
  have e : cA = (zG Z).2.1 0 := RA_eq (hK.2 5 (cA, .byte) rfl).2 (hX.2.1.2 0 _ rfl).2
  subst e
  exact k a rv w' hE H locs ls hP hD hS hl
theorem rn_newz (hX : Cx Z cc own Ts nL rm) {N : Nat} {n : Int32} (harr : (Cond.arrayClass .boolean).before (za Z) (zs Z) = true) (hn : ¬ n < 0) (hN : n.toNatClampNeg = N) (hb : N * 4 ≤ 536870912) (hcells : kc + 1 ≤ rm.cells) (hslots : ks + N ≤ rm.slots) (hdg : decode cc pc = .ok (.newarray .boolean, 2)) (q : Nat) (hq : pc + 2 = q) (k : ∀ a : Nat, Rn Z nL E (kc + 1) (ks + N) q L (.ref a :: S) (w ++ [(a, .inl ((zG Z).2.1 2, N, .inl (fun _ => 0)))]) o) : Rn Z nL E kc ks pc L (.int n :: S) w o := by
  subst hq; intro rv w' hE H locs ls hP hD hS hl
  have hR := hX.2.2.2.2.2
  refine va_newa (atype := .boolean) (ty := .boolean) (a0 := (N, .inl (fun _ => 0))) hX.1.1 hX.1.2.1 harr rfl hX.2.1 hP hD hS hX.2.2.2.2.1 (fun _ => rfl) hn hN (Nat.le_trans (Nat.mul_le_mul_left N (show componentBytes .boolean ≤ 4 by decide)) hb) (by rw [hR]; exact hcells) (by rw [hR]; exact hslots) hdg (fun a cA H hK hP hD hS => ?_)
  have e : cA = (zG Z).2.1 2 := RA_eq (hK.2 5 (cA, .boolean) rfl).2 (hX.2.1.2 2 _ rfl).2
  subst e
  exact k a rv w' hE H locs ls hP hD hS hl
theorem rn_callI (hX : Cx Z cc own Ts nL rm) {y : MethodName} {ws ws1 : List Cond} {rmc : Room} {index maxL n mc ms : Nat} {bytes : ByteArray} (hGd : GoodIn Ts ws) (hw : ws = Cond.code y bytes maxL none :: ws1) (hini : (Cond.initialized y.cls).before (za Z) (zs Z) = true) (hlk : (Cond.methodLink own index y).before (za Z) (zs Z) = true) (hinm : (Cond.instanceMethod y).before (za Z) (zs Z) = true) (hy1 : y.name = "<init>") (hd : y.cls ≠ "java/lang/invoke/MethodHandle" ∧ y.cls ≠ "java/lang/invoke/VarHandle" ∧ (parseMethodDescriptor y.desc).map (fun d => d.parameters.length) = some n) (hrc : rmc.cells = mc) (hrs : rmc.slots = ms) (hRm : rmc.frames + 1 ≤ rm.frames ∧ 8 + (maxL + 11) + rmc.locals ≤ rm.locals) {b : Nat} {As : List Value} {wc wr : va_W} {Wp : va_W → Prop} (hM : CtrN (zl Z) (zG Z) y ws rmc (.ref b :: As) wc Wp mc ms) (hn : As.length = n) (isC isR : List Nat) (hC : isC.map (fun i => w[i]?) = wc.map some) (hnd : va_nd isC = true) (hRr : isR.map (fun i => w[i]?) = wr.map some) (hnr : va_nd isR = true) (hdis : ∀ i ∈ isR, i ∉ isC) {st : List Value} (hst : st = As.reverse ++ .ref b :: S) (hsum : (S.map fun v => v.category).sum ≤ 8) (hdg : decode cc pc = .ok (.invokespecial index, 3)) (q : Nat) (hq : pc + 3 = q) (hkc : kc + mc ≤ rm.cells ∧ ks + ms ≤ rm.slots) (k : ∀ w1, Wp w1 → Rn Z nL E (kc + mc) (ks + ms) q L S (wr ++ w1) o) : Rn Z nL E kc ks pc L st w o := by
  subst hq; subst hst
  intro rv0 w0 hE H locs ls hP hD hS hl
  have hR := hX.2.2.2.2.2
  have hCf : isC.filterMap (fun i => w[i]?) = wc := by
    have h1 : isC.filterMap (fun i => w[i]?) = (isC.map (fun i => w[i]?)).filterMap id := by rw [List.filterMap_map]; rfl
    rw [h1, hC, List.filterMap_map]
    exact List.filterMap_some
  have hPc : va_P (zG Z).1 vwCl wc H := hP.sub isC hCf
  have hFc := va_free hD hS hX.2.2.2.2.1 isC hC
  have hDc : va_D (fun _ => True) wc := (hD.sub isC hnd hC).weaken (fun _ _ _ _ => trivial)
  have hpre : ∀ U : State, U.heap = H → (zs Z).WarmedH U.vm → va_Pc (Value.ref b :: As) (Pm (zG Z) wc H.size) (Value.ref b :: As).toArray U := fun U hU hW => ⟨rfl, by rw [hU], by rw [hU]; exact hPc, hDc, va_K.moved hW.alike hX.2.1, hX.2.2.1.warm hW, by rw [hU]; exact hX.2.2.2.1.move hW hFc hS.2.1⟩
  intro T hT X
  obtain ⟨v, st₀, t, T', L', h0, X', hL, e1, e2, ⟨⟨w1, hWp, hv, hP1, hD1⟩, hz, hk⟩, st⟩ := (va_runI (g := F0 (zm Z) pc ls (As.reverse ++ .ref b :: S)) (below := zb Z) (meth := zh Z) (e := ze Z) (locs := locs) (cells := kc) (slots := ks) hX.1 (hM H.size) (cwI n hX.1.2.2.2.2 hGd hw hrc hrs hini hlk hinm hy1 hd (by rw [hR]; exact hRm)) ⟨Pm.blind, hpre⟩ rfl hn hl.1 rfl (by show 2 * 0 + _ ≤ 8; omega) hdg (by rw [hR]; exact hkc)) T hT X
  cases hv
  rw [h0] at hz hk
  obtain ⟨hP2, hD2⟩ := va_join (H1 := T'.heap) hP hD isC isR hC hRr hnr hdis (fun q h1 h2 => by rw [e1]; exact hk q h1 h2) hFc (by rw [e1]; exact hP1) hD1
  obtain ⟨t2, a1, b1⟩ := k w1 hWp rv0 w0 hE T'.heap (locs ++ L') ls hP2 hD2
    ⟨Nat.le_trans hS.1 (by rw [e1]; exact hz), fun q h1 h2 => by rw [e1, hk q (Nat.lt_of_lt_of_le h1 hS.1) (fun z => h2 (hFc q z))]; exact hS.2.1 q h1 h2, fun q hq => by
      rcases List.mem_append.mp hq with h | h
      · exact hS.2.2 q h
      · exact hFc _ (hL q h)⟩ hl T' rfl X'
  exact ⟨t2, st t2 a1, b1⟩
theorem rn_callIN (hX : Cx Z cc own Ts nL rm) {y : MethodName} {ws ws1 : List Cond} {rmc : Room} {index maxL n mc ms : Nat} {bytes : ByteArray} {host : String} (hGd : GoodIn Ts ws) (hw : ws = Cond.code y bytes maxL none :: ws1) (hini : (Cond.initialized y.cls).before (za Z) (zs Z) = true) (hnl : (own, index, y, host) ∈ nsL) (hinm : (Cond.instanceMethod y).before (za Z) (zs Z) = true) (hy1 : y.name = "<init>") (hd : y.cls ≠ "java/lang/invoke/MethodHandle" ∧ y.cls ≠ "java/lang/invoke/VarHandle" ∧ (parseMethodDescriptor y.desc).map (fun d => d.parameters.length) = some n) (hrc : rmc.cells = mc) (hrs : rmc.slots = ms) (hRm : rmc.frames + 1 ≤ rm.frames ∧ 8 + (maxL + 11) + rmc.locals ≤ rm.locals) {b : Nat} {As : List Value} {wc wr : va_W} {Wp : va_W → Prop} (hM : CtrN (zl Z) (zG Z) y ws rmc (.ref b :: As) wc Wp mc ms) (hn : As.length = n) (isC isR : List Nat) (hC : isC.map (fun i => w[i]?) = wc.map some) (hnd : va_nd isC = true) (hRr : isR.map (fun i => w[i]?) = wr.map some) (hnr : va_nd isR = true) (hdis : ∀ i ∈ isR, i ∉ isC) {st : List Value} (hst : st = As.reverse ++ .ref b :: S) (hsum : (S.map fun v => v.category).sum ≤ 8) (hdg : decode cc pc = .ok (.invokespecial index, 3)) (q : Nat) (hq : pc + 3 = q) (hkc : kc + mc ≤ rm.cells ∧ ks + ms ≤ rm.slots) (k : ∀ w1, Wp w1 → Rn Z nL E (kc + mc) (ks + ms) q L S (wr ++ w1) o) : Rn Z nL E kc ks pc L st w o := by
  subst hq; subst hst
  intro rv0 w0 hE H locs ls hP hD hS hl
  have hR := hX.2.2.2.2.2
  have hCf : isC.filterMap (fun i => w[i]?) = wc := by
    have h1 : isC.filterMap (fun i => w[i]?) = (isC.map (fun i => w[i]?)).filterMap id := by rw [List.filterMap_map]; rfl
    rw [h1, hC, List.filterMap_map]
    exact List.filterMap_some
  have hPc : va_P (zG Z).1 vwCl wc H := hP.sub isC hCf
  have hFc := va_free hD hS hX.2.2.2.2.1 isC hC
  have hDc : va_D (fun _ => True) wc := (hD.sub isC hnd hC).weaken (fun _ _ _ _ => trivial)
  have hpre : ∀ U : State, U.heap = H → (zs Z).WarmedH U.vm → va_Pc (Value.ref b :: As) (Pm (zG Z) wc H.size) (Value.ref b :: As).toArray U := fun U hU hW => ⟨rfl, by rw [hU], by rw [hU]; exact hPc, hDc, va_K.moved hW.alike hX.2.1, hX.2.2.1.warm hW, by rw [hU]; exact hX.2.2.2.1.move hW hFc hS.2.1⟩
  intro T hT X
  obtain ⟨v, st₀, t, T', L', h0, X', hL, e1, e2, ⟨⟨w1, hWp, hv, hP1, hD1⟩, hz, hk⟩, st⟩ := (va_runIN (g := F0 (zm Z) pc ls (As.reverse ++ .ref b :: S)) (below := zb Z) (meth := zh Z) (e := ze Z) (locs := locs) (cells := kc) (slots := ks) hX.1 (hM H.size) ⟨va_cnB n hX.1.2.2.2.2 hGd hw hrc hrs (hX.2.2.1.1 _ hnl) hini hd (by rw [hR]; exact hRm), hy1, hinm⟩ ⟨Pm.blind, hpre⟩ rfl hn hl.1 rfl (by show 2 * 0 + _ ≤ 8; omega) hdg (by rw [hR]; exact hkc)) T hT X
  cases hv
  rw [h0] at hz hk
  obtain ⟨hP2, hD2⟩ := va_join (H1 := T'.heap) hP hD isC isR hC hRr hnr hdis (fun q h1 h2 => by rw [e1]; exact hk q h1 h2) hFc (by rw [e1]; exact hP1) hD1
  obtain ⟨t2, a1, b1⟩ := k w1 hWp rv0 w0 hE T'.heap (locs ++ L') ls hP2 hD2
    ⟨Nat.le_trans hS.1 (by rw [e1]; exact hz), fun q h1 h2 => by rw [e1, hk q (Nat.lt_of_lt_of_le h1 hS.1) (fun z => h2 (hFc q z))]; exact hS.2.1 q h1 h2, fun q hq => by
      rcases List.mem_append.mp hq with h | h
      · exact hS.2.2 q h
      · exact hFc _ (hL q h)⟩ hl T' rfl X'
  exact ⟨t2, st t2 a1, b1⟩
end CT
