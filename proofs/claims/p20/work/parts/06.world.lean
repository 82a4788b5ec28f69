def txS : Nat → String | 0 => "sun" | 1 => "moon" | 2 => "total" | 3 => "ring" | 4 => "part" | 5 => "whole" | 6 => "half" | 7 => "in" | 8 => "year" | 9 => "month" | 10 => "day" | 11 => "hour" | 12 => "of" | 13 => "even" | 14 => "leap" | _ => "moons"
def ixS : Nat → Nat | 0 => 102 | 1 => 108 | 2 => 123 | 3 => 125 | 4 => 127 | 5 => 129 | 6 => 131 | 7 => 133 | 8 => 138 | 9 => 140 | 10 => 142 | 11 => 144 | 12 => 155 | 13 => 183 | 14 => 187 | _ => 189
def lenS : List Nat := [3, 4, 5, 4, 4, 5, 4, 2, 4, 5, 3, 4, 2, 4, 4, 5]
def bytS : List (List Int32) := [[115, 117, 110], [109, 111, 111, 110], [116, 111, 116, 97, 108], [114, 105, 110, 103], [112, 97, 114, 116], [119, 104, 111, 108, 101], [104, 97, 108, 102], [105, 110], [121, 101, 97, 114], [109, 111, 110, 116, 104], [100, 97, 121], [104, 111, 117, 114], [111, 102], [101, 118, 101, 110], [108, 101, 97, 112], [109, 111, 111, 110, 115]]
/-! STATICS: four static rows, sixteen literals, one flag; worlds, contracts, calls -/
def sC : Nat → String | 0 => "EclipseHouse$Sky" | 1 => "EclipseHouse$Calendars" | _ => "EclipseHouse$Reader"
def sN : Nat → String | 0 => "WAVES" | 1 => "LEAP_MONTHS" | 2 => "LEAST" | _ => "GREATEST"
def sL : Nat → Nat | 0 => 10 | 1 => 12 | _ => 4
def sV : Nat → List Int32 | 0 => [0, 174, 342, 500, 643, 766, 866, 940, 985, 1000] | 1 => [31, 28, 31, 30, 31, 30, 31, 31, 30, 31, 30, 31] | 2 => [0, 1, 1, 0] | _ => [999, 13, 31, 23]
def sF (k j : Nat) : Int32 := (sV k).getD j 0
abbrev Gs : Type := (Nat → Nat) × (Nat → Nat) × (Nat → Nat)
/-- the literals, by their places -/
def sS (adK adV : Nat → Nat) (A : Nat → Prop) (U : State) (H : Heap) : Prop := ∀ i : Nat, i < 16 → va_O "java/lang/String" (adK i) A U H ∧ va_OF "java/lang/String" "coder" "B" (.int 0) (adK i) A U H ∧ va_OF "java/lang/String" "value" "[B" (.ref (adV i)) (adK i) A U H ∧ va_T .byte (adV i) (lenS.getD i 0) (fun j => .int ((bytS.getD i []).getD j 0)) A U H
theorem sS.moved {adK adV : Nat → Nat} {A : Nat → Prop} {u U : State} {H : Heap} (hvm : u.vm.Alike U.vm) (h : sS adK adV A u H) : sS adK adV A U H := fun i hi => ⟨va_O.moved hvm (h i hi).1, va_OF.moved hvm (h i hi).2.1, va_OF.moved hvm (h i hi).2.2.1, va_T.moved hvm (h i hi).2.2.2⟩
theorem sS.kept {adK adV : Nat → Nat} {A : Nat → Prop} {U : State} {H H1 : Heap} (h : sS adK adV A U H) (hq : ∀ a : Nat, a < H.size → ¬ A a → H1[a]? = H[a]?) : sS adK adV A U H1 := fun i hi => ⟨(h i hi).1.kept hq, (h i hi).2.1.kept hq, (h i hi).2.2.1.kept hq, (h i hi).2.2.2.kept hq⟩
theorem sS.narrow {adK adV : Nat → Nat} {A B : Nat → Prop} {U : State} {H : Heap} (h : sS adK adV A U H) (hAB : ∀ q, B q → A q) : sS adK adV B U H := fun i hi => ⟨(h i hi).1.narrow hAB, (h i hi).2.1.narrow hAB, (h i hi).2.2.1.narrow hAB, (h i hi).2.2.2.narrow hAB⟩
def St (g : Gs) (A : Nat → Prop) (U : State) (H : Heap) : Prop :=
  (∀ k, k < 4 → va_Z (sC k) (sN k) "[I" (.ref (g.1 k)) A U H ∧ va_T .int (g.1 k) (sL k) (fun j => .int (sF k j)) A U H) ∧ sS g.2.1 g.2.2 A U H ∧ (∀ i, i < 16 → vk_R RX3 (ixS i) (txS i) (g.2.1 i) U) ∧ va_Z "java/lang/String" "COMPACT_STRINGS" "Z" (.int 1) A U H ∧ va_Zq "jdk/internal/util/Preconditions" "SIOOBE_FORMATTER" "Ljava/util/function/BiFunction;" A U H ∧ va_AO RX0 U
theorem St.warm {g : Gs} {A : Nat → Prop} {s U : State} {H : Heap} (hW : s.WarmedH U.vm) (h : St g A s H) : St g A U H :=
  ⟨fun k hk => ⟨va_Z.moved hW.alike (h.1 k hk).1, va_T.moved hW.alike (h.1 k hk).2⟩, sS.moved hW.alike h.2.1, fun i hi => vk_R.warm hW (h.2.2.1 i hi), va_Z.moved hW.alike h.2.2.2.1, va_Zq.moved hW.alike h.2.2.2.2.1, va_AO.moved hW.alike h.2.2.2.2.2⟩
theorem St.same {g : Gs} {A : Nat → Prop} {s U : State} {H : Heap} (hv : U.vm = s.vm) (h : St g A s H) : St g A U H := by
  have ha : s.vm.Alike U.vm := by rw [hv]; exact Vm.Alike.refl _
  exact ⟨fun k hk => ⟨va_Z.moved ha (h.1 k hk).1, va_T.moved ha (h.1 k hk).2⟩, sS.moved ha h.2.1, fun i hi => vk_R.same hv (h.2.2.1 i hi), va_Z.moved ha h.2.2.2.1, va_Zq.moved ha h.2.2.2.2.1, va_AO.moved ha h.2.2.2.2.2⟩
theorem St.kept {g : Gs} {A : Nat → Prop} {U : State} {H H1 : Heap} (h : St g A U H) (hq : ∀ a : Nat, a < H.size → ¬ A a → H1[a]? = H[a]?) : St g A U H1 :=
  ⟨fun k hk => ⟨(h.1 k hk).1.kept hq, (h.1 k hk).2.kept hq⟩, h.2.1.kept hq, h.2.2.1, h.2.2.2.1.kept hq, h.2.2.2.2.1.kept hq, h.2.2.2.2.2⟩
theorem St.narrow {g : Gs} {A B : Nat → Prop} {U : State} {H : Heap} (h : St g A U H) (hAB : ∀ q, B q → A q) : St g B U H :=
  ⟨fun k hk => ⟨(h.1 k hk).1.narrow hAB, (h.1 k hk).2.narrow hAB⟩, h.2.1.narrow hAB, h.2.2.1, h.2.2.2.1.narrow hAB, h.2.2.2.2.1.narrow hAB, h.2.2.2.2.2⟩
abbrev nA : Nat → Prop := fun _ => False
/-- what every method may rest on -/
def pre (D : va_G) (cy : Nat → ClassId) (g : Gs) (A : Nat → Prop) (w : va_W) (U : State) : Prop := va_P D vwCl w U.heap ∧ va_K D vwCl (tys cy) U ∧ St g A U U.heap
theorem pre.blind {D : va_G} {cy : Nat → ClassId} {g : Gs} {A : Nat → Prop} {w : va_W} {U : State} (h : pre D cy g A w U) (f : JFrame) (mk : MethodId) (a : Array Value) : pre D cy g A w (U.calling f mk a) :=
  ⟨h.1, va_K.moved (u := U) (U := U.calling f mk a) (Vm.Alike.refl U.vm) h.2.1, St.same (s := U) (U := U.calling f mk a) rfl h.2.2⟩
abbrev wsm (y : MethodName) (cc : ByteArray) (mL : Nat) (ret : Option FieldType) : List Cond := Cond.code y cc mL ret :: tb
/-- a reader's contract: it answers v, and changes nothing -/
def QR (v : Option Value) : Array Value → State → Outcome → State → Prop := fun _ st oc t => oc = .returned v ∧ t.heap = st.heap
def CR (l : Launch) (D : va_G) (cy : Nat → ClassId) (g : Gs) (y : MethodName) (cc : ByteArray) (mL : Nat) (ret : Option FieldType) (fr lo : Nat) (w : va_W) (avs : List Value) (v : Option Value) : Prop :=
  Met l y (wsm y cc mL ret) { frames := fr, cells := 0, slots := 0, locals := lo } (va_Pc avs (pre D cy g nA w)) (QR v) 0 0 nA
/-- a writer's contract: it answers v, its world is w' behind it -/
def QW (D : va_G) (A : Nat → Prop) (v : Option Value) (w' : va_W) : Array Value → State → Outcome → State → Prop := fun _ st oc t => oc = .returned v ∧ va_P D vwCl w' t.heap ∧ va_D A w' ∧ va_F A st t
def CW (l : Launch) (D : va_G) (cy : Nat → ClassId) (g : Gs) (y : MethodName) (cc : ByteArray) (mL : Nat) (ret : Option FieldType) (fr lo : Nat) (w : va_W) (avs : List Value) (v : Option Value) (w' : va_W) : Prop :=
  ∀ sz : Nat, Met l y (wsm y cc mL ret) { frames := fr, cells := 0, slots := 0, locals := lo } (va_Pc avs (fun U => U.heap.size = sz ∧ va_D (fun _ => True) w ∧ pre D cy g (va_A w sz) w U)) (QW D (va_A w sz) v w') 0 0 (va_A w sz)
def cfV (y : MethodName) (cc : ByteArray) (mL : Nat) (ret : Option FieldType) (n : Nat) : Prop :=
  Cond.instanceMethod y ∈ tb ∧ Cond.selects y.cls y y ∈ tb ∧ Cond.initialized y.cls ∈ tb ∧ Cond.code y cc mL ret ∈ tb ∧ y.cls ≠ "java/lang/invoke/MethodHandle" ∧ y.cls ≠ "java/lang/invoke/VarHandle" ∧ (parseMethodDescriptor y.desc).map (fun d => d.parameters.length) = some n
def cfS (y : MethodName) (cc : ByteArray) (mL : Nat) (ret : Option FieldType) (n : Nat) : Prop :=
  Cond.static y ∈ tb ∧ Cond.initialized y.cls ∈ tb ∧ Cond.code y cc mL ret ∈ tb ∧ y.cls ≠ "java/lang/invoke/MethodHandle" ∧ y.cls ≠ "java/lang/invoke/VarHandle" ∧ (parseMethodDescriptor y.desc).map (fun d => d.parameters.length) = some n
theorem goodV {own : String} {idx n : Nat} {y : MethodName} {cc : ByteArray} {mL : Nat} {ret : Option FieldType} (h1 : Cond.methodLink own idx y ∈ tb) (hf : cfV y cc mL ret n) : GoodIn tb (wsV own idx y.cls y (wsm y cc mL ret)) := by
  intro w hw
  have h : w ∈ tb := by
    simp only [wsV, wsm, List.mem_append, List.mem_cons, List.not_mem_nil, or_false] at hw
    rcases hw with (rfl | rfl | rfl | rfl) | rfl | h
    · exact h1
    · exact hf.1
    · exact hf.2.1
    · exact hf.2.2.1
    · exact hf.2.2.2.1
    · exact h
  exact ⟨h, good_of_word (tb_good h)⟩
theorem goodS {own : String} {idx n : Nat} {y : MethodName} {cc : ByteArray} {mL : Nat} {ret : Option FieldType} (h1 : Cond.methodLink own idx y ∈ tb) (hf : cfS y cc mL ret n) : GoodIn tb (va_wsS own idx y (wsm y cc mL ret)) := by
  intro w hw
  have h : w ∈ tb := by
    simp only [va_wsS, wsm, List.mem_append, List.mem_cons, List.not_mem_nil, or_false] at hw
    rcases hw with (rfl | rfl | rfl) | rfl | h
    · exact h1
    · exact hf.1
    · exact hf.2.1
    · exact hf.2.2.1
    · exact h
  exact ⟨h, good_of_word (tb_good h)⟩
theorem va_P_nil {D : va_G} {H : Heap} : va_P D vwCl [] H := fun k q h => by simp at h
section WORLD
variable {p : Program} {l : Launch} {e : Env} {R : Room} {s : State} {m : MethodId} {args : Array Value} {below : List Frame} {meth : Method} {c : Code}
variable {cc : ByteArray} {own : String} {nL : Nat} {ret : Option FieldType} {HP : Heap → List Loc → Prop} {Q : State → Prop} {ce sl : Nat}
variable {pc : Nat} {lv lv' : List (Nat × Value)} {st st0 : List Value} {D : va_G} {cy : Nat → ClassId} {g : Gs} {A : Nat → Prop} {w w' wc wr : va_W}
/-- from the walk to the contract -/
theorem met_R {y : MethodName} {fr lo : Nat} {avs : List Value} {v : Option Value} (hy : plainName y.cls = true) (hn : (lg_sl avs).length ≤ nL) (hlv : lv_args 0 avs = lv)
    (body : ∀ p e s m args below meth c, Fx p s m args meth c cc y.cls nL ret → va_P D vwCl w s.heap → va_K D vwCl (tys cy) s → St g nA s s.heap → J p l e { frames := fr, cells := 0, slots := 0, locals := lo } s m args below meth c nL (hR s) 0 0 (MQ below (QR v) args s 0 0 nA) 0 lv []) : CR l D cy g y cc nL ret fr lo w avs v := by
  refine Met.ofW (cc := cc) (maxL := nL) (ret := ret) hy rfl ?_
  intro p e s m args below meth c s₁ B hml hv
  obtain ⟨rfl, hP, hK, hS⟩ := hv
  have hts := atoms_spec (ws := wsm y cc nL ret) B.pre
  have hown : s.vm.findClass y.cls = some m.cls := findClass_of_methodNamed B.named
  have k := body p e s m avs.toArray below meth c ⟨B.exec, B.bytes, B.returns, hml, hown, fun w h => hts w (List.mem_cons_of_mem _ h), B.notSynchronized⟩ hP hK hS
  have hl := lv_entry avs (n := nL) hn
  rw [hlv] at hl
  rw [lg_entry_eq]
  exact k s.heap [] _ ⟨rfl, rfl⟩ hl
theorem met_RF {y : MethodName} {fr lo : Nat} {avs : List Value} {v : Option Value} (hy : plainFor y = true) (hn : (lg_sl avs).length ≤ nL) (hlv : lv_args 0 avs = lv)
    (body : ∀ p e s m args below meth c, Fx p s m args meth c cc y.cls nL ret → va_P D vwCl w s.heap → va_K D vwCl (tys cy) s → St g nA s s.heap → J p l e { frames := fr, cells := 0, slots := 0, locals := lo } s m args below meth c nL (hR s) 0 0 (MQ below (QR v) args s 0 0 nA) 0 lv []) : CR l D cy g y cc nL ret fr lo w avs v := by
  refine va_MetF (cc := cc) (maxL := nL) (ret := ret) hy rfl ?_
  intro p e s m args below meth c s₁ B hml hv
  obtain ⟨rfl, hP, hK, hS⟩ := hv
  have hts := atoms_spec (ws := wsm y cc nL ret) B.pre
  have hown : s.vm.findClass y.cls = some m.cls := findClass_of_methodNamed B.named
  have k := body p e s m avs.toArray below meth c ⟨B.exec, B.bytes, B.returns, hml, hown, fun w h => hts w (List.mem_cons_of_mem _ h), B.notSynchronized⟩ hP hK hS
  have hl := lv_entry avs (n := nL) hn
  rw [hlv] at hl
  rw [lg_entry_eq]
  exact k s.heap [] _ ⟨rfl, rfl⟩ hl
theorem met_W {y : MethodName} {fr lo : Nat} {avs : List Value} {v : Option Value} (hy : plainName y.cls = true) (hn : (lg_sl avs).length ≤ nL) (hlv : lv_args 0 avs = lv)
    (body : ∀ p e s m args below meth c A, Fx p s m args meth c cc y.cls nL ret → va_K D vwCl (tys cy) s → St g A s s.heap → (∀ q, s.heap.size ≤ q → A q) → J p l e { frames := fr, cells := 0, slots := 0, locals := lo } s m args below meth c nL (hW D A s w) 0 0 (MQ below (QW D A v w') args s 0 0 A) 0 lv []) : CW l D cy g y cc nL ret fr lo w avs v w' := by
  intro sz
  refine Met.ofW (cc := cc) (maxL := nL) (ret := ret) hy rfl ?_
  intro p e s m args below meth c s₁ B hml hv
  obtain ⟨rfl, hsz, hD, hP, hK, hS⟩ := hv
  have hts := atoms_spec (ws := wsm y cc nL ret) B.pre
  have hown : s.vm.findClass y.cls = some m.cls := findClass_of_methodNamed B.named
  have k := body p e s m avs.toArray below meth c (va_A w sz) ⟨B.exec, B.bytes, B.returns, hml, hown, fun w h => hts w (List.mem_cons_of_mem _ h), B.notSynchronized⟩ hK hS (fun q h => Or.inr (by rw [← hsz]; exact h))
  have hl := lv_entry avs (n := nL) hn
  rw [hlv] at hl
  rw [lg_entry_eq]
  exact k s.heap [] _ ⟨hP, hD.self, va_S.rf⟩ hl
/-- answers -/
theorem j_iretR {x r : Int32} (F : Fx p s m args meth c cc own nL (some .int)) (d : decode cc pc = .ok (.ireturn, 1)) (h : x = r) : J p l e R s m args below meth c nL (hR s) 0 0 (MQ below (QR (some (.int r))) args s 0 0 nA) pc lv [.int x] := by
  subst h
  intro H locs ls hH hl
  exact W.iret F.1 F.2.1 F.2.2.1 (fun t ht _ => ⟨rfl, by rw [ht]; exact hH.1⟩) (by rw [hH.2]; intro q h; cases h) d F.2.2.2.2.2.2
theorem j_zretR {x : Int32} {b : Bool} (F : Fx p s m args meth c cc own nL (some .boolean)) (d : decode cc pc = .ok (.ireturn, 1)) (h : x = bI b) : J p l e R s m args below meth c nL (hR s) 0 0 (MQ below (QR (some (.int (bI b)))) args s 0 0 nA) pc lv [.int x] := by
  subst h
  intro H locs ls hH hl
  exact W.zret F.1 F.2.1 F.2.2.1 (bI_nar b) (fun t ht _ => ⟨rfl, by rw [ht]; exact hH.1⟩) (by rw [hH.2]; intro q h; cases h) d F.2.2.2.2.2.2
theorem j_lretR {x r : Int64} (F : Fx p s m args meth c cc own nL (some .long)) (d : decode cc pc = .ok (.lreturn, 1)) (h : x = r) : J p l e R s m args below meth c nL (hR s) 0 0 (MQ below (QR (some (.long r))) args s 0 0 nA) pc lv [.long x] := by
  subst h
  intro H locs ls hH hl
  exact W.lret F.1 F.2.1 F.2.2.1 (fun t ht _ => ⟨rfl, by rw [ht]; exact hH.1⟩) (by rw [hH.2]; intro q h; cases h) d F.2.2.2.2.2.2
theorem j_iretW {x r : Int32} (F : Fx p s m args meth c cc own nL (some .int)) (d : decode cc pc = .ok (.ireturn, 1)) (h : x = r) (hw : w = w') : J p l e R s m args below meth c nL (hW D A s w) 0 0 (MQ below (QW D A (some (.int r)) w') args s 0 0 A) pc lv [.int x] := by
  subst h; subst hw
  intro H locs ls hH hl
  exact W.iret F.1 F.2.1 F.2.2.1 (fun t ht _ => ⟨rfl, by rw [ht]; exact hH.1, hH.2.1, hH.2.2.F ht⟩) hH.2.2.2.2 d F.2.2.2.2.2.2
theorem j_zretW {x : Int32} {b : Bool} (F : Fx p s m args meth c cc own nL (some .boolean)) (d : decode cc pc = .ok (.ireturn, 1)) (h : x = bI b) (hw : w = w') : J p l e R s m args below meth c nL (hW D A s w) 0 0 (MQ below (QW D A (some (.int (bI b))) w') args s 0 0 A) pc lv [.int x] := by
  subst h; subst hw
  intro H locs ls hH hl
  exact W.zret F.1 F.2.1 F.2.2.1 (bI_nar b) (fun t ht _ => ⟨rfl, by rw [ht]; exact hH.1, hH.2.1, hH.2.2.F ht⟩) hH.2.2.2.2 d F.2.2.2.2.2.2
theorem j_lretW {x r : Int64} (F : Fx p s m args meth c cc own nL (some .long)) (d : decode cc pc = .ok (.lreturn, 1)) (h : x = r) (hw : w = w') : J p l e R s m args below meth c nL (hW D A s w) 0 0 (MQ below (QW D A (some (.long r)) w') args s 0 0 A) pc lv [.long x] := by
  subst h; subst hw
  intro H locs ls hH hl
  exact W.lret F.1 F.2.1 F.2.2.1 (fun t ht _ => ⟨rfl, by rw [ht]; exact hH.1, hH.2.1, hH.2.2.F ht⟩) hH.2.2.2.2 d F.2.2.2.2.2.2
theorem j_vretW (F : Fx p s m args meth c cc own nL none) (d : decode cc pc = .ok (.return_, 1)) (hw : w = w') : J p l e R s m args below meth c nL (hW D A s w) 0 0 (MQ below (QW D A none w') args s 0 0 A) pc lv [] := by
  subst hw
  intro H locs ls hH hl
  exact W.vret F.1 F.2.1 F.2.2.1 (fun t ht _ => ⟨rfl, by rw [ht]; exact hH.1, hH.2.1, hH.2.2.F ht⟩) hH.2.2.2.2 d F.2.2.2.2.2.2
/-- fields -/
theorem jr_get (F : Fx p s m args meth c cc own nL ret) (hK : va_K D vwCl (tys cy) s) (hP : va_P D vwCl w s.heap) {C : String} {T : u_T} {N ci index a : Nat} {ref : String} {fs : List Value} {v : Value} (hin : ∀ w ∈ u_ws C T N, w ∈ tb) (q0 : Nat) (he : w[q0]? = some (a, .inr (ci, fs))) (hc : vwCl[ci]? = some (C, T, N)) (k : Nat) (hk : k < N) (hlink : Cond.fieldLink own index ref (T k).2.1 (T k).2.2.1 ∈ tb) (hsame : (T k).1 = ref) (hv : fs[k]? = some v) (d : decode cc pc = .ok (.getfield index, 3)) (kk : J p l e R s m args below meth c nL (hR s) ce sl Q (pc + 3) lv (v :: st)) : J p l e R s m args below meth c nL (hR s) ce sl Q pc lv (.ref a :: st) := by
  intro H locs ls hH hl
  have hP' : va_P D vwCl w H := by rw [hH.1]; exact hP
  exact va_get F.1 F.2.1 F.2.2.2.2.2.1 hin F.2.2.2.2.1 hK hP' q0 he hc k hk (F.2.2.2.2.2.1 _ hlink) (fun x h => by rw [← hsame]; exact h) hv d (kk H locs ls hH hl)
theorem jw_get (F : Fx p s m args meth c cc own nL ret) (hK : va_K D vwCl (tys cy) s) {C : String} {T : u_T} {N ci index a : Nat} {ref : String} {fs : List Value} {v : Value} (hin : ∀ w ∈ u_ws C T N, w ∈ tb) (q0 : Nat) (he : w[q0]? = some (a, .inr (ci, fs))) (hc : vwCl[ci]? = some (C, T, N)) (k : Nat) (hk : k < N) (hlink : Cond.fieldLink own index ref (T k).2.1 (T k).2.2.1 ∈ tb) (hsame : (T k).1 = ref) (hv : fs[k]? = some v) (d : decode cc pc = .ok (.getfield index, 3)) (kk : J p l e R s m args below meth c nL (hW D A s w) ce sl Q (pc + 3) lv (v :: st)) : J p l e R s m args below meth c nL (hW D A s w) ce sl Q pc lv (.ref a :: st) := by
  intro H locs ls hH hl
  exact va_get F.1 F.2.1 F.2.2.2.2.2.1 hin F.2.2.2.2.1 hK hH.1 q0 he hc k hk (F.2.2.2.2.2.1 _ hlink) (fun x h => by rw [← hsame]; exact h) hv d (kk H locs ls hH hl)
theorem jw_put (F : Fx p s m args meth c cc own nL ret) (hK : va_K D vwCl (tys cy) s) {C : String} {T : u_T} {N ci index a : Nat} {ref : String} {fs : List Value} {v : Value} {ty : FieldType} (hin : ∀ w ∈ u_ws C T N, w ∈ tb) (ty0 : Nat → FieldType) (hty : ∀ k, k < N → parseFieldDescriptor (T k).2.2.1 = some (ty0 k)) (hnm : ∀ a, a < N → ∀ b, b < N → a ≠ b → (T a).2.1 ≠ (T b).2.1) (q0 : Nat) (he : w[q0]? = some (a, .inr (ci, fs))) (hc : vwCl[ci]? = some (C, T, N)) (k : Nat) (hk : k < N) (hlink : Cond.fieldLink own index ref (T k).2.1 (T k).2.2.1 ∈ tb) (hsame : (T k).1 = ref) (hfin : (T k).2.2.2 = false) (hd : ty0 k = ty) (hn : narrow ty v = v) (hfit : fits ty v = true) (hlen : k < fs.length) (hw : w.set q0 (a, .inr (ci, fs.set k v)) = w') (d : decode cc pc = .ok (.putfield index, 3)) (kk : J p l e R s m args below meth c nL (hW D A s w') ce sl Q (pc + 3) lv st) : J p l e R s m args below meth c nL (hW D A s w) ce sl Q pc lv (v :: .ref a :: st) := by
  subst hw
  intro H locs ls hH hl
  exact va_put F.1 F.2.1 F.2.2.2.2.2.1 hin ty0 hty hnm F.2.2.2.2.1 hK hH.1 hH.2.1 hH.2.2 q0 he hc k hk (F.2.2.2.2.2.1 _ hlink) (fun x h => by rw [← hsame]; exact h) hfin (by rw [hty k hk, hd]) hn hfit hlen d (fun H1 locs1 h1 h2 h3 => kk H1 locs1 ls ⟨h1, h2, h3⟩ hl)
/-- rows -/
theorem jr_iald (F : Fx p s m args meth c cc own nL ret) (hK : va_K D vwCl (tys cy) s) (hP : va_P D vwCl w s.heap) {a n : Nat} {f : Nat → Int32} {i : Int32} (q0 : Nat) (he : w[q0]? = some (a, .inl (cy 0, n, .inl f))) (hin : ¬ (i < 0 ∨ n ≤ i.toNatClampNeg)) (d : decode cc pc = .ok (.iaload, 1)) (kk : J p l e R s m args below meth c nL (hR s) ce sl Q (pc + 1) lv (.int (f i.toNatClampNeg) :: st)) : J p l e R s m args below meth c nL (hR s) ce sl Q pc lv (.int i :: .ref a :: st) := by
  intro H locs ls hH hl
  have hP' : va_P D vwCl w H := by rw [hH.1]; exact hP
  exact va_iald F.1 F.2.1 hK hP' q0 0 he rfl hin d (kk H locs ls hH hl)
theorem jw_iald (F : Fx p s m args meth c cc own nL ret) (hK : va_K D vwCl (tys cy) s) {a n : Nat} {f : Nat → Int32} {i : Int32} (q0 : Nat) (he : w[q0]? = some (a, .inl (cy 0, n, .inl f))) (hin : ¬ (i < 0 ∨ n ≤ i.toNatClampNeg)) (d : decode cc pc = .ok (.iaload, 1)) (kk : J p l e R s m args below meth c nL (hW D A s w) ce sl Q (pc + 1) lv (.int (f i.toNatClampNeg) :: st)) : J p l e R s m args below meth c nL (hW D A s w) ce sl Q pc lv (.int i :: .ref a :: st) := by
  intro H locs ls hH hl
  exact va_iald F.1 F.2.1 hK hH.1 q0 0 he rfl hin d (kk H locs ls hH hl)
theorem jw_cald (F : Fx p s m args meth c cc own nL ret) (hK : va_K D vwCl (tys cy) s) {a n : Nat} {f : Nat → Int32} {i : Int32} (q0 : Nat) (he : w[q0]? = some (a, .inl (cy 1, n, .inl f))) (hin : ¬ (i < 0 ∨ n ≤ i.toNatClampNeg)) (d : decode cc pc = .ok (.caload, 1)) (kk : J p l e R s m args below meth c nL (hW D A s w) ce sl Q (pc + 1) lv (.int (f i.toNatClampNeg) :: st)) : J p l e R s m args below meth c nL (hW D A s w) ce sl Q pc lv (.int i :: .ref a :: st) := by
  intro H locs ls hH hl
  exact va_cald F.1 F.2.1 hK hH.1 q0 1 he rfl hin d (kk H locs ls hH hl)
theorem jr_lald (F : Fx p s m args meth c cc own nL ret) (hK : va_K D vwCl (tys cy) s) (hP : va_P D vwCl w s.heap) {a n : Nat} {f : Nat → Int64} {i : Int32} (q0 : Nat) (he : w[q0]? = some (a, .inl (cy 2, n, .inr (.inl f)))) (hin : ¬ (i < 0 ∨ n ≤ i.toNatClampNeg)) (d : decode cc pc = .ok (.laload, 1)) (kk : J p l e R s m args below meth c nL (hR s) ce sl Q (pc + 1) lv (.long (f i.toNatClampNeg) :: st)) : J p l e R s m args below meth c nL (hR s) ce sl Q pc lv (.int i :: .ref a :: st) := by
  intro H locs ls hH hl
  have hP' : va_P D vwCl w H := by rw [hH.1]; exact hP
  exact va_lald F.1 F.2.1 hK hP' q0 2 he rfl hin d (kk H locs ls hH hl)
theorem jw_iast (F : Fx p s m args meth c cc own nL ret) (hK : va_K D vwCl (tys cy) s) {a n : Nat} {f : Nat → Int32} {i x : Int32} (q0 : Nat) (he : w[q0]? = some (a, .inl (cy 0, n, .inl f))) (hin : ¬ (i < 0 ∨ n ≤ i.toNatClampNeg)) (hw : w.set q0 (a, .inl (cy 0, n, .inl (upd f i.toNatClampNeg x))) = w') (d : decode cc pc = .ok (.iastore, 1)) (kk : J p l e R s m args below meth c nL (hW D A s w') ce sl Q (pc + 1) lv st) : J p l e R s m args below meth c nL (hW D A s w) ce sl Q pc lv (.int x :: .int i :: .ref a :: st) := by
  subst hw
  intro H locs ls hH hl
  exact va_iast F.1 F.2.1 hK hH.1 hH.2.1 hH.2.2 q0 0 he rfl hin d (fun H1 locs1 h1 h2 h3 => kk H1 locs1 ls ⟨h1, h2, h3⟩ hl)
theorem jw_last (F : Fx p s m args meth c cc own nL ret) (hK : va_K D vwCl (tys cy) s) {a n : Nat} {f : Nat → Int64} {i : Int32} {x : Int64} (q0 : Nat) (he : w[q0]? = some (a, .inl (cy 2, n, .inr (.inl f)))) (hin : ¬ (i < 0 ∨ n ≤ i.toNatClampNeg)) (hw : w.set q0 (a, .inl (cy 2, n, .inr (.inl (vp_updL f i.toNatClampNeg x)))) = w') (d : decode cc pc = .ok (.lastore, 1)) (kk : J p l e R s m args below meth c nL (hW D A s w') ce sl Q (pc + 1) lv st) : J p l e R s m args below meth c nL (hW D A s w) ce sl Q pc lv (.long x :: .int i :: .ref a :: st) := by
  subst hw
  intro H locs ls hH hl
  exact va_last F.1 F.2.1 hK hH.1 hH.2.1 hH.2.2 q0 2 he rfl hin d (fun H1 locs1 h1 h2 h3 => kk H1 locs1 ls ⟨h1, h2, h3⟩ hl)
theorem jw_alenc (F : Fx p s m args meth c cc own nL ret) (hK : va_K D vwCl (tys cy) s) {a n : Nat} {f : Nat → Int32} {v : Int32} (q0 : Nat) (he : w[q0]? = some (a, .inl (cy 1, n, .inl f))) (hv : Int32.ofNat n = v) (d : decode cc pc = .ok (.arraylength, 1)) (kk : J p l e R s m args below meth c nL (hW D A s w) ce sl Q (pc + 1) lv (.int v :: st)) : J p l e R s m args below meth c nL (hW D A s w) ce sl Q pc lv (.ref a :: st) := by
  intro H locs ls hH hl
  exact va_alen F.1 F.2.1 hK hH.1 q0 1 he rfl hv d (kk H locs ls hH hl)
/-- the static rows -/
theorem jr_gets (F : Fx p s m args meth c cc own nL ret) (hS : St g nA s s.heap) (k : Nat) (hk : k < 4) {index : Nat} (hlink : Cond.fieldLink own index (sC k) (sN k) "[I" ∈ tb) (d : decode cc pc = .ok (.getstatic index, 3)) (kk : J p l e R s m args below meth c nL (hR s) ce sl Q (pc + 3) lv (.ref (g.1 k) :: st)) : J p l e R s m args below meth c nL (hR s) ce sl Q pc lv st := by
  intro H locs ls hH hl
  have hS' : va_S nA s.heap H locs := by rw [hH.1, hH.2]; exact va_S.rf
  exact va_gets F.1 F.2.1 (hS.1 k hk).1 hS' F.2.2.2.2.1 (F.2.2.2.2.2.1 _ hlink) (fun _ h => h) d (kk H locs ls hH hl)
theorem jw_gets (F : Fx p s m args meth c cc own nL ret) (hS : St g A s s.heap) (k : Nat) (hk : k < 4) {index : Nat} (hlink : Cond.fieldLink own index (sC k) (sN k) "[I" ∈ tb) (d : decode cc pc = .ok (.getstatic index, 3)) (kk : J p l e R s m args below meth c nL (hW D A s w) ce sl Q (pc + 3) lv (.ref (g.1 k) :: st)) : J p l e R s m args below meth c nL (hW D A s w) ce sl Q pc lv st := by
  intro H locs ls hH hl
  exact va_gets F.1 F.2.1 (hS.1 k hk).1 hH.2.2 F.2.2.2.2.1 (F.2.2.2.2.2.1 _ hlink) (fun _ h => h) d (kk H locs ls hH hl)
theorem jr_sald (F : Fx p s m args meth c cc own nL ret) (hS : St g nA s s.heap) (k : Nat) (hk : k < 4) {i : Int32} (hin : ¬ (i < 0 ∨ sL k ≤ i.toNatClampNeg)) (d : decode cc pc = .ok (.iaload, 1)) (kk : J p l e R s m args below meth c nL (hR s) ce sl Q (pc + 1) lv (.int (sF k i.toNatClampNeg) :: st)) : J p l e R s m args below meth c nL (hR s) ce sl Q pc lv (.int i :: .ref (g.1 k) :: st) := by
  intro H locs ls hH hl
  have hS' : va_S nA s.heap H locs := by rw [hH.1, hH.2]; exact va_S.rf
  exact va_ti F.1 F.2.1 (hS.1 k hk).2 hS' hin rfl d (kk H locs ls hH hl)
theorem jw_sald (F : Fx p s m args meth c cc own nL ret) (hS : St g A s s.heap) (k : Nat) (hk : k < 4) {i : Int32} (hin : ¬ (i < 0 ∨ sL k ≤ i.toNatClampNeg)) (d : decode cc pc = .ok (.iaload, 1)) (kk : J p l e R s m args below meth c nL (hW D A s w) ce sl Q (pc + 1) lv (.int (sF k i.toNatClampNeg) :: st)) : J p l e R s m args below meth c nL (hW D A s w) ce sl Q pc lv (.int i :: .ref (g.1 k) :: st) := by
  intro H locs ls hH hl
  exact va_ti F.1 F.2.1 (hS.1 k hk).2 hH.2.2 hin rfl d (kk H locs ls hH hl)
theorem jr_slen (F : Fx p s m args meth c cc own nL ret) (hS : St g nA s s.heap) (k : Nat) (hk : k < 4) {v : Int32} (hv : Int32.ofNat (sL k) = v) (d : decode cc pc = .ok (.arraylength, 1)) (kk : J p l e R s m args below meth c nL (hR s) ce sl Q (pc + 1) lv (.int v :: st)) : J p l e R s m args below meth c nL (hR s) ce sl Q pc lv (.ref (g.1 k) :: st) := by
  intro H locs ls hH hl
  have hS' : va_S nA s.heap H locs := by rw [hH.1, hH.2]; exact va_S.rf
  exact va_tlen F.1 F.2.1 (hS.1 k hk).2 hS' hv d (kk H locs ls hH hl)
/-- a literal -/
theorem jr_ldcS (F : Fx p s m args meth c cc RX3 nL ret) (hS : St g nA s s.heap) (i : Nat) (hi : i < 16) {index : Nat} (hx : ixS i = index) (d : decode cc pc = .ok (.ldc index, 2)) (kk : J p l e R s m args below meth c nL (hR s) ce sl Q (pc + 2) lv (.ref (g.2.1 i) :: st)) : J p l e R s m args below meth c nL (hR s) ce sl Q pc lv st := by
  subst hx
  intro H locs ls hH hl
  exact va_ldcS F.1 F.2.1 F.2.2.2.2.1 (hS.2.2.1 i hi) d (kk H locs ls hH hl)
theorem jw_ldcS (F : Fx p s m args meth c cc RX3 nL ret) (hS : St g A s s.heap) (i : Nat) (hi : i < 16) {index : Nat} (hx : ixS i = index) (d : decode cc pc = .ok (.ldc index, 2)) (kk : J p l e R s m args below meth c nL (hW D A s w) ce sl Q (pc + 2) lv (.ref (g.2.1 i) :: st)) : J p l e R s m args below meth c nL (hW D A s w) ce sl Q pc lv st := by
  subst hx
  intro H locs ls hH hl
  exact va_ldcS F.1 F.2.1 F.2.2.2.2.1 (hS.2.2.1 i hi) d (kk H locs ls hH hl)
/-- calls of readers -/
theorem w_callR {H : Heap} {locs : List Loc} {ls : Array Slot} {v : Option Value} {a : Array Value} {st0 : List Value} (hr : CallRun p l e R s m args below meth c H locs ce sl 0 0 (F0 m pc ls st0) st (QR v a) nA) (kk : W p l e R s m args below meth c H locs ce sl Q (F0 m (pc + 3) ls (v.toList ++ st))) : W p l e R s m args below meth c H locs ce sl Q (F0 m pc ls st0) := by
  intro T hT X
  obtain ⟨v', st₀, t, T', L, h0, X', hL, e1, ⟨hv, hh⟩, sp⟩ := hr T hT X
  cases hv
  obtain ⟨t2, a1, b1⟩ := kk T' (by rw [e1, hh, h0]) (Stand.forget X' (fun q h => (hL q h).elim))
  exact ⟨t2, sp t2 a1, b1⟩
theorem j_callRV (F : Fx p s m args meth c cc own nL ret) (hK : va_K D vwCl (tys cy) s) (hpre : ∀ H locs, HP H locs → va_P D vwCl wc H ∧ St g nA s H) {y : MethodName} {cc' : ByteArray} {mL' fr lo n idx b ci : Nat} {ret' : Option FieldType} {As : List Value} {v : Option Value} {fs : List Value} {q : vw_C}
    (hM : CR l D cy g y cc' mL' ret' fr lo wc (.ref b :: As) v) (h1 : Cond.methodLink own idx y ∈ tb) (hf : cfV y cc' mL' ret' n) (hfr : fr + 1 ≤ R.frames) (hlo : 8 + (mL' + 11) + lo ≤ R.locals) (hce : ce ≤ R.cells ∧ sl ≤ R.slots) (q0 : Nat) (he : wc[q0]? = some (b, .inr (ci, fs))) (hc : vwCl[ci]? = some q) (hq : q.1 = y.cls) (hn : As.length = n) (hst : st0 = As.reverse ++ .ref b :: st) (hcat : (st.map fun v => v.category).sum ≤ 8) {st1 : List Value} (hs1 : v.toList ++ st = st1) (d : decode cc pc = .ok (.invokevirtual idx, 3))
    (kk : J p l e R s m args below meth c nL HP ce sl Q (pc + 3) lv st1) : J p l e R s m args below meth c nL HP ce sl Q pc lv st0 := by
  subst hst; subst hs1
  intro H locs ls hH hl
  obtain ⟨hPc, hSc⟩ := hpre H locs hH
  have hrc := va_recv hK hPc hc he
  rw [hq] at hrc
  exact w_callR (W.runV ⟨F.1, F.2.1, F.2.2.2.1, F.2.2.2.2.1, F.2.2.2.2.2.1⟩ hM (cwV n F.2.2.2.2.2.1 (goodV h1 hf) rfl rfl rfl ⟨rfl, hf.2.2.2.2.1, hf.2.2.2.2.2.1, hf.2.2.2.2.2.2⟩ ⟨hfr, hlo⟩) ⟨fun a U f mk h => ⟨h.1, h.2.blind f mk a⟩, hrc, fun U hU hW => ⟨rfl, by rw [hU]; exact hPc, va_K.moved hW.alike hK, by rw [hU]; exact hSc.warm hW⟩⟩ rfl hn hl.1 rfl (lv_room hcat) d hce) (kk H locs ls hH hl)
theorem j_callRS (F : Fx p s m args meth c cc own nL ret) (hK : va_K D vwCl (tys cy) s) (hpre : ∀ H locs, HP H locs → va_P D vwCl wc H ∧ St g nA s H) {y : MethodName} {cc' : ByteArray} {mL' fr lo n idx : Nat} {ret' : Option FieldType} {As : List Value} {v : Option Value}
    (hM : CR l D cy g y cc' mL' ret' fr lo wc As v) (h1 : Cond.methodLink own idx y ∈ tb) (hf : cfS y cc' mL' ret' n) (hfr : fr + 1 ≤ R.frames) (hlo : 8 + (mL' + 11) + lo ≤ R.locals) (hce : ce ≤ R.cells ∧ sl ≤ R.slots) (hn : As.length = n) (hst : st0 = As.reverse ++ st) (hcat : (st.map fun v => v.category).sum ≤ 8) {st1 : List Value} (hs1 : v.toList ++ st = st1) (d : decode cc pc = .ok (.invokestatic idx, 3))
    (kk : J p l e R s m args below meth c nL HP ce sl Q (pc + 3) lv st1) : J p l e R s m args below meth c nL HP ce sl Q pc lv st0 := by
  subst hst; subst hs1
  intro H locs ls hH hl
  obtain ⟨hPc, hSc⟩ := hpre H locs hH
  exact w_callR (W.runS ⟨F.1, F.2.1, F.2.2.2.1, F.2.2.2.2.1, F.2.2.2.2.2.1⟩ hM (va_cwS n F.2.2.2.2.2.1 (goodS h1 hf) rfl rfl rfl ⟨hf.2.2.2.1, hf.2.2.2.2.1, hf.2.2.2.2.2⟩ ⟨hfr, hlo⟩) ⟨fun a U f mk h => ⟨h.1, h.2.blind f mk a⟩, fun U hU hW => ⟨rfl, by rw [hU]; exact hPc, va_K.moved hW.alike hK, by rw [hU]; exact hSc.warm hW⟩⟩ rfl hn hl.1 rfl (lv_room hcat) d hce) (kk H locs ls hH hl)
theorem hpR (hP : va_P D vwCl w s.heap) (hS : St g nA s s.heap) (hs : ∀ H, va_P D vwCl w H → va_P D vwCl wc H) : ∀ H locs, hR s H locs → va_P D vwCl wc H ∧ St g nA s H := fun H locs h => by rw [h.1]; exact ⟨hs _ hP, hS⟩
theorem hpW (hS : St g A s s.heap) (hs : ∀ H, va_P D vwCl w H → va_P D vwCl wc H) : ∀ H locs, hW D A s w H locs → va_P D vwCl wc H ∧ St g nA s H := fun H locs h => ⟨hs _ h.1, (hS.kept (fun a h1 h2 => h.2.2.2.1 a h1 h2)).narrow (fun _ h => h.elim)⟩
theorem hp_id : ∀ H, va_P D vwCl w H → va_P D vwCl w H := fun _ h => h
theorem hp_nil : ∀ H, va_P D vwCl w H → va_P D vwCl [] H := fun _ _ => va_P_nil
theorem hp_sub (is : List Nat) (hs : is.filterMap (fun i => w[i]?) = wc) : ∀ H, va_P D vwCl w H → va_P D vwCl wc H := fun _ h => h.sub is hs
/-- calls of writers -/
theorem w_callW {H : Heap} {locs : List Loc} {ls : Array Slot} {v : Option Value} {a : Array Value} {st0 : List Value} {A1 : Nat → Prop} (hr : va_Run p l e R s m args below meth c H locs ce sl 0 0 (F0 m pc ls st0) st (QW D A1 v w' a) A1) (hS : va_S A s.heap H locs) (hA : ∀ q, A1 q → A q)
    (kk : ∀ (H1 : Heap) (locs1 : List Loc), va_P D vwCl w' H1 → va_D A1 w' → (∀ q : Nat, q < H.size → ¬ A1 q → H1[q]? = H[q]?) → va_S A s.heap H1 locs1 → W p l e R s m args below meth c H1 locs1 ce sl Q (F0 m (pc + 3) ls (v.toList ++ st))) : W p l e R s m args below meth c H locs ce sl Q (F0 m pc ls st0) := by
  intro T hT X
  obtain ⟨v', st₀, t, T', L, h0, X', hL, e1, e2, ⟨hv, hp, hd, hz, hk⟩, sp⟩ := hr T hT X
  cases hv
  rw [h0] at hz hk
  obtain ⟨t2, a1, b1⟩ := kk T'.heap (locs ++ L) (by rw [e1]; exact hp) hd (fun q h1 h2 => by rw [e1]; exact hk q h1 h2)
    ⟨Nat.le_trans hS.1 (by rw [e1]; exact hz), fun q h1 h2 => by rw [e1, hk q (Nat.lt_of_lt_of_le h1 hS.1) (fun z => h2 (hA q z))]; exact hS.2.1 q h1 h2, fun q hq => by
      rcases List.mem_append.mp hq with h | h
      · exact hS.2.2 q h
      · exact hA _ (hL q h)⟩ T' rfl X'
  exact ⟨t2, sp t2 a1, b1⟩
theorem j_callWV (F : Fx p s m args meth c cc own nL ret) (hK : va_K D vwCl (tys cy) s) (hS : St g A s s.heap) (hA : ∀ q, s.heap.size ≤ q → A q) {y : MethodName} {cc' : ByteArray} {mL' fr lo n idx b ci : Nat} {ret' : Option FieldType} {As : List Value} {v : Option Value} {fs : List Value} {q : vw_C} {w1 : va_W}
    (hM : CW l D cy g y cc' mL' ret' fr lo wc (.ref b :: As) v w1) (h1 : Cond.methodLink own idx y ∈ tb) (hf : cfV y cc' mL' ret' n) (hfr : fr + 1 ≤ R.frames) (hlo : 8 + (mL' + 11) + lo ≤ R.locals) (hce : ce ≤ R.cells ∧ sl ≤ R.slots) (q0 : Nat) (he : wc[q0]? = some (b, .inr (ci, fs))) (hc : vwCl[ci]? = some q) (hq : q.1 = y.cls) (hn : As.length = n) (hst : st0 = As.reverse ++ .ref b :: st) (hcat : (st.map fun v => v.category).sum ≤ 8)
    (isC isR is : List Nat) (hC : isC.map (fun i => w[i]?) = wc.map some) (hRr : isR.map (fun i => w[i]?) = wr.map some) (hnC : va_nd isC = true) (hnR : va_nd isR = true) (hdis : ∀ i ∈ isR, i ∉ isC) (hnI : va_nd is = true) (hw : is.map (fun i => (wr ++ w1)[i]?) = w'.map some) {st1 : List Value} (hs1 : v.toList ++ st = st1) (d : decode cc pc = .ok (.invokevirtual idx, 3))
    (kk : J p l e R s m args below meth c nL (hW D A s w') ce sl Q (pc + 3) lv st1) : J p l e R s m args below meth c nL (hW D A s w) ce sl Q pc lv st0 := by
  subst hst; subst hs1
  intro H locs ls hH hl
  obtain ⟨hP, hD, hSS⟩ := hH
  have fm : ∀ {a b : va_W} {k : List Nat}, k.map (fun i => a[i]?) = b.map some → k.filterMap (fun i => a[i]?) = b := by
    intro a b k hk
    have e1 := congrArg (List.filterMap id) hk
    rw [List.filterMap_map, List.filterMap_map] at e1
    simpa using e1
  have hPc : va_P D vwCl wc H := hP.sub isC (fm hC)
  have hDc : va_D A wc := hD.sub isC hnC hC
  have hFc := va_free (wc := wc) hD hSS hA isC hC
  have hSc : St g (va_A wc H.size) s H := (hS.kept (fun a h1 h2 => hSS.2.1 a h1 h2)).narrow hFc
  have hrc := va_recv hK hPc hc he
  rw [hq] at hrc
  refine w_callW (A := A) (va_runV ⟨F.1, F.2.1, F.2.2.2.1, F.2.2.2.2.1, F.2.2.2.2.2.1⟩ (hM H.size) (cwV n F.2.2.2.2.2.1 (goodV h1 hf) rfl rfl rfl ⟨rfl, hf.2.2.2.2.1, hf.2.2.2.2.2.1, hf.2.2.2.2.2.2⟩ ⟨hfr, hlo⟩) ⟨fun a U f mk h => ⟨h.1, h.2.1, h.2.2.1, h.2.2.2.blind f mk a⟩, hrc, fun U hU hW => ⟨rfl, by rw [hU], hDc.weaken (fun _ _ _ _ => trivial), by rw [hU]; exact hPc, va_K.moved hW.alike hK, by rw [hU]; exact hSc.warm hW⟩⟩ rfl hn hl.1 rfl (lv_room hcat) d hce) hSS hFc (fun H1 locs1 hP1 hD1 hk1 hS1 => ?_)
  obtain ⟨hP2, hD2⟩ := va_join (wr := wr) (w1 := w1) hP hD isC isR hC hRr hnR hdis hk1 hFc hP1 hD1
  exact kk H1 locs1 ls ⟨hP2.sub is (fm hw), hD2.sub is hnI hw, hS1⟩ hl
/-- the callee's world is the caller's -/
theorem j_callWs (F : Fx p s m args meth c cc own nL ret) (hK : va_K D vwCl (tys cy) s) (hS : St g A s s.heap) (hA : ∀ q, s.heap.size ≤ q → A q) {y : MethodName} {cc' : ByteArray} {mL' fr lo n idx b ci : Nat} {ret' : Option FieldType} {As : List Value} {v : Option Value} {fs : List Value} {q : vw_C}
    (hM : CW l D cy g y cc' mL' ret' fr lo w (.ref b :: As) v w') (h1 : Cond.methodLink own idx y ∈ tb) (hf : cfV y cc' mL' ret' n) (hfr : fr + 1 ≤ R.frames) (hlo : 8 + (mL' + 11) + lo ≤ R.locals) (hce : ce ≤ R.cells ∧ sl ≤ R.slots) (q0 : Nat) (he : w[q0]? = some (b, .inr (ci, fs))) (hc : vwCl[ci]? = some q) (hq : q.1 = y.cls) (hn : As.length = n) (hst : st0 = As.reverse ++ .ref b :: st) (hcat : (st.map fun v => v.category).sum ≤ 8) {st1 : List Value} (hs1 : v.toList ++ st = st1) (d : decode cc pc = .ok (.invokevirtual idx, 3))
    (kk : J p l e R s m args below meth c nL (hW D A s w') ce sl Q (pc + 3) lv st1) : J p l e R s m args below meth c nL (hW D A s w) ce sl Q pc lv st0 := by
  subst hst; subst hs1
  intro H locs ls hH hl
  obtain ⟨hP, hD, hSS⟩ := hH
  have hFc : ∀ q, va_A w H.size q → A q := by
    intro q hq
    rcases hq with ⟨k, e, hk⟩ | h
    · exact hD.2 k _ hk
    · exact hA q (Nat.le_trans hSS.1 h)
  have hSc : St g (va_A w H.size) s H := (hS.kept (fun a h1 h2 => hSS.2.1 a h1 h2)).narrow hFc
  have hrc := va_recv hK hP hc he
  rw [hq] at hrc
  exact w_callW (A := A) (va_runV ⟨F.1, F.2.1, F.2.2.2.1, F.2.2.2.2.1, F.2.2.2.2.2.1⟩ (hM H.size) (cwV n F.2.2.2.2.2.1 (goodV h1 hf) rfl rfl rfl ⟨rfl, hf.2.2.2.2.1, hf.2.2.2.2.2.1, hf.2.2.2.2.2.2⟩ ⟨hfr, hlo⟩) ⟨fun a U f mk h => ⟨h.1, h.2.1, h.2.2.1, h.2.2.2.blind f mk a⟩, hrc, fun U hU hW => ⟨rfl, by rw [hU], hD.weaken (fun _ _ _ _ => trivial), by rw [hU]; exact hP, va_K.moved hW.alike hK, by rw [hU]; exact hSc.warm hW⟩⟩ rfl hn hl.1 rfl (lv_room hcat) d hce) hSS hFc (fun H1 locs1 hP1 hD1 hk1 hS1 => kk H1 locs1 ls ⟨hP1, hD1.weaken (fun k q _ h => hFc _ h), hS1⟩ hl)
/-- switches -/
theorem j_tabIn (F : Fx p s m args meth c cc own nL ret) {dflt lo hi : Int} {offs : Array Int} {len tgt : Nat} {x : Int32} (v : Int32) {off : Int} (d : decode cc pc = .ok (.tableswitch dflt lo hi offs, len)) (hx : x = v) (h1 : ¬ v.toInt < lo) (h2 : ¬ hi < v.toInt) (ho : offs[(v.toInt - lo).toNat]? = some off) (ht : (pc : Int) + off = (tgt : Int)) (kk : J p l e R s m args below meth c nL HP ce sl Q tgt lv st) : J p l e R s m args below meth c nL HP ce sl Q pc lv (.int x :: st) := by
  subst hx
  intro H locs ls hH hl
  exact lv_tableIn F.1 F.2.1 d h1 h2 ho ht (kk H locs ls hH hl)
theorem j_tabOut (F : Fx p s m args meth c cc own nL ret) {dflt : Int} {n : Nat} {offs : Array Int} {len tgt : Nat} {x : Int32} (d : decode cc pc = .ok (.tableswitch dflt 0 (n : Int) offs, len)) (hn : n < 2 ^ 31) (hx : ∀ j, j < n + 1 → ¬ x = nI j) (ht : (pc : Int) + dflt = (tgt : Int)) (kk : J p l e R s m args below meth c nL HP ce sl Q tgt lv st) : J p l e R s m args below meth c nL HP ce sl Q pc lv (.int x :: st) := by
  intro H locs ls hH hl
  refine lv_tableOut F.1 F.2.1 d ?_ ht (kk H locs ls hH hl)
  by_cases h0 : x < 0
  · exact Or.inl (by rw [Int32.lt_iff_toInt_lt] at h0; simpa using h0)
  · obtain ⟨j, hj, e⟩ := nI_of h0
    right
    rw [e, nI_toInt hj]
    by_cases h : j < n + 1
    · exact absurd e (hx j h)
    · omega
theorem j_lcmp (F : Fx p s m args meth c cc own nL ret) {x y : Int64} (d : decode cc pc = .ok (.lcmp, 1)) (kk : J p l e R s m args below meth c nL HP ce sl Q (pc + 1) lv (.int (lg_cmp x y) :: st)) : J p l e R s m args below meth c nL HP ce sl Q pc lv (.long y :: .long x :: st) := fun H locs ls hH hl => W.lcmp F.1 F.2.1 d (kk H locs ls hH hl)
end WORLD
/-- a name for a number -/
def lt {α β : Type} (x : α) (f : α → β) : β := f x
theorem of_lt {α β : Type} {x : α} {f : α → β} {o : β} (h : lt x f = o) : ∃ y, y = x ∧ f y = o := ⟨x, rfl, h⟩
section TOP
variable {p : Program} {l : Launch} {e : Env} {R : Room} {s : State} {m : MethodId} {args : Array Value} {below : List Frame} {meth : Method} {c : Code} {nL : Nat} {HP : Heap → List Loc → Prop} {Q : State → Prop} {ce sl : Nat} {pc : Nat} {lv : List (Nat × Value)} {st : List Value}
theorem j_topi {x y : Int32} (h : y = x) (k : J p l e R s m args below meth c nL HP ce sl Q pc lv (.int y :: st)) : J p l e R s m args below meth c nL HP ce sl Q pc lv (.int x :: st) := h ▸ k
theorem j_topl {x y : Int64} (h : y = x) (k : J p l e R s m args below meth c nL HP ce sl Q pc lv (.long y :: st)) : J p l e R s m args below meth c nL HP ce sl Q pc lv (.long x :: st) := h ▸ k
end TOP
