/-! CONSTRUCTORS: new cells -/
def QC {X : Type} (D : va_G) (A : Nat → Prop) (q : Nat) (base : X → Nat) (wf : X → va_W) : Array Value → State → Outcome → State → Prop := fun _ st oc t => oc = .returned none ∧ ∃ a : X, base a = q ∧ va_P D vwCl (wf a) t.heap ∧ va_D A (wf a) ∧ va_F A st t
def CC {X : Type} (l : Launch) (D : va_G) (cy : Nat → ClassId) (g : Gs) (y : MethodName) (cc : ByteArray) (mL fr lo mc ms q ci : Nat) (fs : List Value) (As : List Value) (base : X → Nat) (wf : X → va_W) : Prop :=
  ∀ sz : Nat, Met l y (wsm y cc mL none) { frames := fr, cells := mc, slots := ms, locals := lo } (va_Pc (.ref q :: As) (fun U => U.heap.size = sz ∧ va_D (fun _ => True) [(q, .inr (ci, fs))] ∧ pre D cy g (va_A [(q, .inr (ci, fs))] sz) [(q, .inr (ci, fs))] U)) (QC D (va_A [(q, .inr (ci, fs))] sz) q base wf) mc ms (va_A [(q, .inr (ci, fs))] sz)
def cfI (y : MethodName) (cc : ByteArray) (mL : Nat) (n : Nat) : Prop :=
  Cond.instanceMethod y ∈ tb ∧ Cond.initialized y.cls ∈ tb ∧ Cond.code y cc mL none ∈ tb ∧ y.name = "<init>" ∧ y.cls ≠ "java/lang/invoke/MethodHandle" ∧ y.cls ≠ "java/lang/invoke/VarHandle" ∧ (parseMethodDescriptor y.desc).map (fun d => d.parameters.length) = some n
section CTOR
variable {p : Program} {l : Launch} {e : Env} {R : Room} {s : State} {m : MethodId} {args : Array Value} {below : List Frame} {meth : Method} {c : Code}
variable {cc : ByteArray} {own : String} {nL : Nat} {ret : Option FieldType} {HP : Heap → List Loc → Prop} {Q : State → Prop} {ce sl ce' sl' : Nat}
variable {pc : Nat} {lv lv' : List (Nat × Value)} {st st0 : List Value} {D : va_G} {cy : Nat → ClassId} {g : Gs} {A : Nat → Prop} {w w' wc wr : va_W}
theorem met_C {X : Type} {y : MethodName} {fr lo mc ms q ci : Nat} {fs As : List Value} {base : X → Nat} {wf : X → va_W} (hy : plainName y.cls = true) (hin : y.name = "<init>") (hn : (lg_sl (.ref q :: As)).length ≤ nL) (hlv : lv_args 0 (.ref q :: As) = lv)
    (body : ∀ p e s m args below meth c A, Fx p s m args meth c cc y.cls nL none → meth.name = "<init>" → va_K D vwCl (tys cy) s → St g A s s.heap → (∀ q, s.heap.size ≤ q → A q) → J p l e { frames := fr, cells := mc, slots := ms, locals := lo } s m args below meth c nL (hW D A s [(q, .inr (ci, fs))]) 0 0 (MQ below (QC D A q base wf) args s mc ms A) 0 lv []) : CC l D cy g y cc nL fr lo mc ms q ci fs As base wf := by
  intro sz
  refine Met.ofW (cc := cc) (maxL := nL) (ret := none) hy rfl ?_
  intro p e s m args below meth c s₁ B hml hv
  obtain ⟨rfl, hsz, hD, hP, hK, hS⟩ := hv
  have hts := atoms_spec (ws := wsm y cc nL none) B.pre
  have hown : s.vm.findClass y.cls = some m.cls := findClass_of_methodNamed B.named
  have hnm : meth.name = "<init>" := (name_of_methodNamed B.named B.method).1.trans hin
  have k := body p e s m (Value.ref q :: As).toArray below meth c (va_A [(q, .inr (ci, fs))] sz) ⟨B.exec, B.bytes, B.returns, hml, hown, fun w h => hts w (List.mem_cons_of_mem _ h), B.notSynchronized⟩ hnm hK hS (fun q h => Or.inr (by rw [← hsz]; exact h))
  have hl := lv_entry (.ref q :: As) (n := nL) hn
  rw [hlv] at hl
  rw [lg_entry_eq]
  exact k s.heap [] _ ⟨hP, hD.self, va_S.rf⟩ hl
theorem jc_objInit (F : Fx p s m args meth c cc own nL ret) {idx a : Nat} (l1 : Cond.methodLink own idx objectInit ∈ tb) (l2 : Cond.instanceMethod objectInit ∈ tb) (l3 : Cond.code objectInit ⟨#[0xb1]⟩ 1 none ∈ tb) (hfr : 1 ≤ R.frames) (hlo : 20 ≤ R.locals) (hcat : (st.map fun v => v.category).sum ≤ 8) (d : decode cc pc = .ok (.invokespecial idx, 3)) (kk : J p l e R s m args below meth c nL HP ce sl Q (pc + 3) lv st) : J p l e R s m args below meth c nL HP ce sl Q pc lv (.ref a :: st) := by
  intro H locs ls hH hl
  have hr := lv_room (m := m) (pc := pc) (ls := ls) (rest := .ref a :: st) hcat
  exact W.objInit F.1 F.2.1 F.2.2.2.2.1 (F.2.2.2.2.2.1 _ l1) (F.2.2.2.2.2.1 _ l2) (F.2.2.2.2.2.1 _ l3) rfl (by rw [F.2.2.2.1]; exact hl.1) rfl d hfr (by omega) (kk H locs ls hH hl)
theorem jc_putF (F : Fx p s m args meth c cc own nL ret) (hi : meth.name = "<init>") (hK : va_K D vwCl (tys cy) s) {C : String} {T : u_T} {N ci index a : Nat} {ref : String} {fs : List Value} {v : Value} {ty : FieldType} (hin : ∀ w ∈ u_ws C T N, w ∈ tb) (ty0 : Nat → FieldType) (hty : ∀ k, k < N → parseFieldDescriptor (T k).2.2.1 = some (ty0 k)) (hnm : ∀ a, a < N → ∀ b, b < N → a ≠ b → (T a).2.1 ≠ (T b).2.1) (q0 : Nat) (he : w[q0]? = some (a, .inr (ci, fs))) (hc : vwCl[ci]? = some (C, T, N)) (k : Nat) (hk : k < N) (hlink : Cond.fieldLink own index ref (T k).2.1 (T k).2.2.1 ∈ tb) (hsame : (T k).1 = ref) (hfin : (T k).2.2.2 = true) (hdecl : (T k).1 = own) (hd : ty0 k = ty) (hn : narrow ty v = v) (hfit : fits ty v = true) (hlen : k < fs.length) (hw : w.set q0 (a, .inr (ci, fs.set k v)) = w') (d : decode cc pc = .ok (.putfield index, 3)) (kk : J p l e R s m args below meth c nL (hW D A s w') ce sl Q (pc + 3) lv st) : J p l e R s m args below meth c nL (hW D A s w) ce sl Q pc lv (v :: .ref a :: st) := by
  subst hw
  intro H locs ls hH hl
  exact va_putF F.1 F.2.1 F.2.2.2.2.2.1 hin ty0 hty hnm F.2.2.2.2.1 hK hH.1 hH.2.1 hH.2.2 q0 he hc k hk (F.2.2.2.2.2.1 _ hlink) (fun x h => by rw [← hsame]; exact h) hfin hi hdecl (by rw [hty k hk, hd]) hn hfit hlen d (fun H1 locs1 h1 h2 h3 => kk H1 locs1 ls ⟨h1, h2, h3⟩ hl)
theorem jw_cast (F : Fx p s m args meth c cc own nL ret) (hK : va_K D vwCl (tys cy) s) {a n : Nat} {f : Nat → Int32} {i x y : Int32} {k : Nat} (q0 : Nat) (he : w[q0]? = some (a, .inl (cy 1, n, .inl f))) (hin : ¬ (i < 0 ∨ n ≤ i.toNatClampNeg)) (hk : i.toNatClampNeg = k) (hy : vp_nar .char x = y) (hw : w.set q0 (a, .inl (cy 1, n, .inl (upd f k y))) = w') (d : decode cc pc = .ok (.castore, 1)) (kk : J p l e R s m args below meth c nL (hW D A s w') ce sl Q (pc + 1) lv st) : J p l e R s m args below meth c nL (hW D A s w) ce sl Q pc lv (.int x :: .int i :: .ref a :: st) := by
  subst hw; subst hk; subst hy
  intro H locs ls hH hl
  exact va_cast F.1 F.2.1 hK hH.1 hH.2.1 hH.2.2 q0 1 he rfl hin d (fun H1 locs1 h1 h2 h3 => kk H1 locs1 ls ⟨h1, h2, h3⟩ hl)
theorem jw_iastL (F : Fx p s m args meth c cc own nL ret) (hK : va_K D vwCl (tys cy) s) {a n : Nat} {f : Nat → Int32} {i x : Int32} {k : Nat} (q0 : Nat) (he : w[q0]? = some (a, .inl (cy 0, n, .inl f))) (hin : ¬ (i < 0 ∨ n ≤ i.toNatClampNeg)) (hk : i.toNatClampNeg = k) (hw : w.set q0 (a, .inl (cy 0, n, .inl (upd f k x))) = w') (d : decode cc pc = .ok (.iastore, 1)) (kk : J p l e R s m args below meth c nL (hW D A s w') ce sl Q (pc + 1) lv st) : J p l e R s m args below meth c nL (hW D A s w) ce sl Q pc lv (.int x :: .int i :: .ref a :: st) := by
  subst hw; subst hk
  intro H locs ls hH hl
  exact va_iast F.1 F.2.1 hK hH.1 hH.2.1 hH.2.2 q0 0 he rfl hin d (fun H1 locs1 h1 h2 h3 => kk H1 locs1 ls ⟨h1, h2, h3⟩ hl)
theorem jc_newa (F : Fx p s m args meth c cc own nL ret) (hK : va_K D vwCl (tys cy) s) (hA : ∀ q, s.heap.size ≤ q → A q) {atype : ArrayType} {ty : FieldType} {t0 : Nat} (w1 : Cond.arrayClass (newarray.typeOf atype) ∈ tb) (hty : newarray.typeOf atype = ty) (ht : (tys cy)[t0]? = some (cy t0, ty)) (hprim : ∀ cA, va_RA s cA ty → s.vm.findClass ("[" ++ ty.toString) = some cA) {n : Int32} {N' : Nat} {a0 : vp_A} (ha : ∀ cA : ClassId, vp_cell cA a0 = arrV cA N' (fun _ => defaultValue ty)) (hn : ¬ n < 0) (hN : n.toNatClampNeg = N') (hbytes : N' * componentBytes ty ≤ 536870912) (hcells : ce + 1 ≤ R.cells) (hslots : sl + N' ≤ R.slots) (h1 : ce + 1 = ce') (h2 : sl + N' = sl') (d : decode cc pc = .ok (.newarray atype, 2))
    (kk : ∀ q : Nat, J p l e R s m args below meth c nL (hW D A s (w ++ [(q, .inl (cy t0, a0))])) ce' sl' Q (pc + 2) lv (.ref q :: st)) : J p l e R s m args below meth c nL (hW D A s w) ce sl Q pc lv (.int n :: st) := by
  subst h1; subst h2
  intro H locs ls hH hl
  refine va_newa F.1 F.2.1 (F.2.2.2.2.2.1 _ w1) hty hK hH.1 hH.2.1 hH.2.2 hA ha hn hN hbytes hcells hslots d (fun q cA H1 hK1 hP1 hD1 hS1 => ?_)
  have e1 := hprim cA (hK1.2 4 (cA, ty) rfl).2
  have e2 := hprim (cy t0) (hK.2 t0 _ ht).2
  have e3 : cA = cy t0 := Option.some.inj (e1.symm.trans e2)
  subst e3
  exact kk q H1 locs ls ⟨hP1, hD1, hS1⟩ hl
theorem jc_newq (F : Fx p s m args meth c cc own nL ret) (hK : va_K D vwCl (tys cy) s) (hA : ∀ q, s.heap.size ≤ q → A q) {index : Nat} (w1 : Cond.classLink own index RX0 ∈ tb) (hover : va_AO RX0 s) {n : Int32} {N' : Nat} (hn : ¬ n < 0) (hN : n.toNatClampNeg = N') (hbytes : N' * 4 ≤ 536870912) (hcells : ce + 1 ≤ R.cells) (hslots : sl + N' ≤ R.slots) (h1 : ce + 1 = ce') (h2 : sl + N' = sl') (d : decode cc pc = .ok (.anewarray index, 3))
    (kk : ∀ q : Nat, J p l e R s m args below meth c nL (hW D A s (w ++ [(q, .inl (cy 3, N', .inr (.inr (.inr (.inr (fun _ => none))))))])) ce' sl' Q (pc + 3) lv (.ref q :: st)) : J p l e R s m args below meth c nL (hW D A s w) ce sl Q pc lv (.int n :: st) := by
  subst h1; subst h2
  intro H locs ls hH hl
  refine va_newq F.1 F.2.1 F.2.2.2.2.1 (F.2.2.2.2.2.1 _ w1) hover hK hH.1 hH.2.1 hH.2.2 hA hn hN hbytes hcells hslots d (fun q cA H1 hK1 hP1 hD1 hS1 => ?_)
  obtain ⟨kA, comp, r1, r2, r3, e1⟩ := (hK1.2 4 (cA, .object RX0) rfl).2
  obtain ⟨kB, compB, s1, s2, s3, e2⟩ := (hK.2 3 (cy 3, .object RX0) rfl).2
  have e3 : cA = cy 3 := Option.some.inj (e1.symm.trans e2)
  subst e3
  exact kk q H1 locs ls ⟨hP1, hD1, hS1⟩ hl
theorem jc_new (F : Fx p s m args meth c cc own nL ret) (hK : va_K D vwCl (tys cy) s) (hA : ∀ q, s.heap.size ≤ q → A q) {C : String} {T : u_T} {N ci index : Nat} (hin : ∀ w ∈ u_ws C T N, w ∈ tb) (ty : Nat → FieldType) (hty : ∀ k, k < N → parseFieldDescriptor (T k).2.2.1 = some (ty k)) (w1 : Cond.classLink own index C ∈ tb) (w2 : Cond.instantiable C N ∈ tb) (w3 : Cond.initialized C ∈ tb) (hc : vwCl[ci]? = some (C, T, N)) {fs : List Value} (hfs : ∀ j, j < N → defaultValue (ty j) = vp_V fs j) (hcells : ce + 1 ≤ R.cells) (hslots : sl + N ≤ R.slots) (h1 : ce + 1 = ce') (h2 : sl + N = sl') (d : decode cc pc = .ok (.new index, 3))
    (kk : ∀ q : Nat, J p l e R s m args below meth c nL (hW D A s (w ++ [(q, .inr (ci, fs))])) ce' sl' Q (pc + 3) lv (.ref q :: st)) : J p l e R s m args below meth c nL (hW D A s w) ce sl Q pc lv st := by
  subst h1; subst h2
  intro H locs ls hH hl
  exact va_new F.1 F.2.1 F.2.2.2.2.2.1 hin ty hty F.2.2.2.2.1 (F.2.2.2.2.2.1 _ w1) (F.2.2.2.2.2.1 _ w2) (F.2.2.2.2.2.1 _ w3) hK hH.1 hH.2.1 hH.2.2 hA hc hfs hcells hslots d (fun q H1 hP1 hD1 hS1 => kk q H1 locs ls ⟨hP1, hD1, hS1⟩ hl)
theorem goodI {y : MethodName} {cc' : ByteArray} {mL' n : Nat} (hf : cfI y cc' mL' n) : GoodIn tb (wsm y cc' mL' none) := by
  intro w hw
  have h : w ∈ tb := by
    rcases List.mem_cons.mp hw with rfl | h
    · exact hf.2.2.1
    · exact h
  exact ⟨h, good_of_word (tb_good h)⟩
/-- a constructor is called over a new cell: the cell stands behind the rest -/
theorem jc_call {X : Type} (F : Fx p s m args meth c cc own nL ret) (hK : va_K D vwCl (tys cy) s) (hS : St g A s s.heap) (hA : ∀ q, s.heap.size ≤ q → A q) {y : MethodName} {cc' : ByteArray} {mL' fr lo n idx q ci mc ms : Nat} {As fs : List Value} {base : X → Nat} {wf : X → va_W}
    (h1p : w.Perm ([(q, .inr (ci, fs))] ++ wr)) (hM : CC l D cy g y cc' mL' fr lo mc ms q ci fs As base wf) (h1 : Cond.methodLink own idx y ∈ tb) (hf : cfI y cc' mL' n) (hfr : fr + 1 ≤ R.frames) (hlo : 8 + (mL' + 11) + lo ≤ R.locals) (hce : ce + mc ≤ R.cells ∧ sl + ms ≤ R.slots) (e1 : ce + mc = ce') (e2 : sl + ms = sl') (hn : As.length = n) (hst : st0 = As.reverse ++ .ref q :: st) (hcat : (st.map fun v => v.category).sum ≤ 8) (d : decode cc pc = .ok (.invokespecial idx, 3))
    (kk : ∀ a : X, base a = q → J p l e R s m args below meth c nL (hW D A s (wr ++ wf a)) ce' sl' Q (pc + 3) lv st) : J p l e R s m args below meth c nL (hW D A s w) ce sl Q pc lv st0 := by
  subst hst; subst e1; subst e2
  intro H locs ls hH hl
  obtain ⟨hP, hD, hSS⟩ := hH
  have hP2 := hP.perm h1p.symm
  have hD2 := hD.perm h1p.symm
  have hPc := hP2.left
  have hDc := hD2.left
  have hFc : ∀ x, va_A [(q, .inr (ci, fs))] H.size x → A x := by
    intro x hx
    rcases hx with ⟨k, e, hk⟩ | h
    · exact hDc.2 k _ hk
    · exact hA x (Nat.le_trans hSS.1 h)
  have hSc : St g (va_A [(q, .inr (ci, fs))] H.size) s H := (hS.kept (fun a h1 h2 => hSS.2.1 a h1 h2)).narrow hFc
  have run := va_runI (g := F0 m pc ls (As.reverse ++ .ref q :: st)) (locs := locs) (cells := ce) (slots := sl) (below := below) (e := e) (meth := meth) (b := q) (As := As) (rest := st) ⟨F.1, F.2.1, F.2.2.2.1, F.2.2.2.2.1, F.2.2.2.2.2.1⟩ (hM H.size) (cwI (own := own) (index := idx) (R := R) n F.2.2.2.2.2.1 (goodI hf) rfl rfl rfl (F.2.2.2.2.2.1 _ hf.2.1) (F.2.2.2.2.2.1 _ h1) (F.2.2.2.2.2.1 _ hf.1) hf.2.2.2.1 ⟨hf.2.2.2.2.1, hf.2.2.2.2.2.1, hf.2.2.2.2.2.2⟩ ⟨hfr, hlo⟩) ⟨fun a U f mk h => ⟨h.1, h.2.1, h.2.2.1, h.2.2.2.blind f mk a⟩, fun U hU hW => ⟨rfl, by rw [hU], hDc.weaken (fun _ _ _ _ => trivial), by rw [hU]; exact hPc, va_K.moved hW.alike hK, by rw [hU]; exact hSc.warm hW⟩⟩ rfl hn hl.1 rfl (lv_room hcat) d hce
  intro T hT X0
  obtain ⟨v', st₀, t, T', L, h0, X', hL, e1, e2, ⟨hv, a, hb, hp, hd, hz, hk⟩, sp⟩ := run T hT X0
  cases hv
  rw [h0] at hz hk
  have hPr : va_P D vwCl wr H := hP2.right
  have hDr : va_D A wr := hD2.right
  have apart : ∀ (k : Nat) (x : Nat × va_E), wr[k]? = some x → ¬ va_A [(q, .inr (ci, fs))] H.size x.1 := by
    intro k x hk hx
    rcases hx with ⟨j, e, hj⟩ | h
    · exact (List.pairwise_append.mp (va_D_iff.mp hD2).1).2.2 _ (List.mem_of_getElem? hj) _ (List.mem_of_getElem? hk) rfl
    · exact absurd (hPr k x hk).lt (Nat.not_lt.mpr h)
  have hPr1 : va_P D vwCl wr t.heap := hPr.kept (fun k x hk2 => hk x.1 (hPr k x hk2).lt (apart k x hk2))
  have hd1 : va_D A (wf a) := hd.weaken (fun _ x _ h => hFc _ h)
  have hPj : va_P D vwCl (wr ++ wf a) T'.heap := by rw [e1]; exact hPr1.app hp
  have hDj : va_D A (wr ++ wf a) := hDr.app hd1 (fun i j x z hx hz' hxz => apart i x hx (by rw [hxz]; exact hd.2 j z hz'))
  have hS1 : va_S A s.heap T'.heap (locs ++ L) := ⟨Nat.le_trans hSS.1 (by rw [e1]; exact hz), fun x h1 h2 => by rw [e1, hk x (Nat.lt_of_lt_of_le h1 hSS.1) (fun z => h2 (hFc x z))]; exact hSS.2.1 x h1 h2, fun x hx => by
      rcases List.mem_append.mp hx with h | h
      · exact hSS.2.2 x h
      · exact hFc _ (hL x h)⟩
  obtain ⟨t2, a1, b1⟩ := kk a hb T'.heap (locs ++ L) ls ⟨hPj, hDj, hS1⟩ hl T' rfl X'
  exact ⟨t2, sp t2 a1, b1⟩
theorem jc_ret {X : Type} {q : Nat} {base : X → Nat} {wf : X → va_W} (F : Fx p s m args meth c cc own nL none) (d : decode cc pc = .ok (.return_, 1)) (a : X) (hb : base a = q) (hw : (wf a).Perm w) : J p l e R s m args below meth c nL (hW D A s w) ce sl (MQ below (QC D A q base wf) args s ce sl A) pc lv [] := by
  intro H locs ls hH hl
  exact W.vret F.1 F.2.1 F.2.2.1 (fun t ht _ => ⟨rfl, a, hb, by rw [ht]; exact hH.1.perm hw, hH.2.1.perm hw, hH.2.2.F ht⟩) hH.2.2.2.2 d F.2.2.2.2.2.2
theorem j_wd (hw : w = w') (k : J p l e R s m args below meth c nL (hW D A s w') ce sl Q pc lv st) : J p l e R s m args below meth c nL (hW D A s w) ce sl Q pc lv st := hw ▸ k
theorem prim_int {s : State} : ∀ cA, va_RA s cA .int → s.vm.findClass ("[" ++ FieldType.int.toString) = some cA := fun _ h => h
theorem prim_char {s : State} : ∀ cA, va_RA s cA .char → s.vm.findClass ("[" ++ FieldType.char.toString) = some cA := fun _ h => h
theorem prim_long {s : State} : ∀ cA, va_RA s cA .long → s.vm.findClass ("[" ++ FieldType.long.toString) = some cA := fun _ h => h
end CTOR
