/-! STRING LITERALS: length(), charAt(k) of the JDK's own code, over a literal by its place -/
def sCh (i k : Nat) : Int32 := (bytS.getD i []).getD k 0 &&& 255
section STRS
variable {p : Program} {l : Launch} {e : Env} {R : Room} {s : State} {m : MethodId} {args : Array Value} {below : List Frame} {meth : Method} {c : Code}
variable {cc : ByteArray} {own : String} {nL : Nat} {ret : Option FieldType} {HP : Heap → List Loc → Prop} {Q : State → Prop} {ce sl : Nat}
variable {pc : Nat} {lv lv' : List (Nat × Value)} {st st0 : List Value} {D : va_G} {cy : Nat → ClassId} {g : Gs} {A : Nat → Prop} {w w' wc wr : va_W}
theorem hR_S {H : Heap} {locs : List Loc} (h : hR s H locs) : va_S nA s.heap H locs := by rw [h.1, h.2]; exact va_S.rf
theorem jr_getS (F : Fx p s m args meth c cc own nL ret) {o n d : String} {index q : Nat} {v : Value} (hE : va_OF o n d v q nA s s.heap) (hlink : Cond.fieldLink own index o n d ∈ tb) (dg : decode cc pc = .ok (.getfield index, 3)) (kk : J p l e R s m args below meth c nL (hR s) ce sl Q (pc + 3) lv (v :: st)) : J p l e R s m args below meth c nL (hR s) ce sl Q pc lv (.ref q :: st) :=
  fun H locs ls hH hl => vk_getf F.1 F.2.1 hE (hR_S hH) F.2.2.2.2.1 (F.2.2.2.2.2.1 _ hlink) (fun _ h => h) dg (kk H locs ls hH hl)
theorem jr_getZ (F : Fx p s m args meth c cc own nL ret) {C n d : String} {index : Nat} {v : Value} (hZ : va_Z C n d v nA s s.heap) (hlink : Cond.fieldLink own index C n d ∈ tb) (dg : decode cc pc = .ok (.getstatic index, 3)) (kk : J p l e R s m args below meth c nL (hR s) ce sl Q (pc + 3) lv (v :: st)) : J p l e R s m args below meth c nL (hR s) ce sl Q pc lv st :=
  fun H locs ls hH hl => va_gets F.1 F.2.1 hZ (hR_S hH) F.2.2.2.2.1 (F.2.2.2.2.2.1 _ hlink) (fun _ h => h) dg (kk H locs ls hH hl)
theorem jr_lenB (F : Fx p s m args meth c cc own nL ret) {t N : Nat} {f : Nat → Value} (hT : va_T .byte t N f nA s s.heap) (dg : decode cc pc = .ok (.arraylength, 1)) (kk : J p l e R s m args below meth c nL (hR s) ce sl Q (pc + 1) lv (.int (nI N) :: st)) : J p l e R s m args below meth c nL (hR s) ce sl Q pc lv (.ref t :: st) :=
  fun H locs ls hH hl => va_tlen F.1 F.2.1 hT (hR_S hH) rfl dg (kk H locs ls hH hl)
theorem jr_bald (F : Fx p s m args meth c cc own nL ret) {t N : Nat} {f : Nat → Value} {i : Int32} {v : Value} (hT : va_T .byte t N f nA s s.heap) (hin : ¬ (i < 0 ∨ N ≤ i.toNatClampNeg)) (hv : f i.toNatClampNeg = v) (dg : decode cc pc = .ok (.baload, 1)) (kk : J p l e R s m args below meth c nL (hR s) ce sl Q (pc + 1) lv (v :: st)) : J p l e R s m args below meth c nL (hR s) ce sl Q pc lv (.int i :: .ref t :: st) :=
  fun H locs ls hH hl => va_tb F.1 F.2.1 hT (hR_S hH) hin hv dg (kk H locs ls hH hl)
/-- an answer of a small type -/
theorem j_sretR {x : Int32} {ty : FieldType} (F : Fx p s m args meth c cc own nL (some ty)) (hn : narrow ty (.int x) = .int x) (d : decode cc pc = .ok (.ireturn, 1)) : J p l e R s m args below meth c nL (hR s) 0 0 (MQ below (QR (some (.int x))) args s 0 0 nA) pc lv [.int x] := by
  intro H locs ls hH hl
  exact W.zret F.1 F.2.1 F.2.2.1 hn (fun t ht _ => ⟨rfl, by rw [ht]; exact hH.1⟩) (by rw [hH.2]; intro q h; cases h) d F.2.2.2.2.2.2
theorem j_vretR (F : Fx p s m args meth c cc own nL none) (d : decode cc pc = .ok (.return_, 1)) : J p l e R s m args below meth c nL (hR s) 0 0 (MQ below (QR none) args s 0 0 nA) pc lv [] := by
  intro H locs ls hH hl
  exact W.vret F.1 F.2.1 F.2.2.1 (fun t ht _ => ⟨rfl, by rw [ht]; exact hH.1⟩) (by rw [hH.2]; intro q h; cases h) d F.2.2.2.2.2.2
/-- a call whose receiver is told by itself -/
theorem j_callRVq (F : Fx p s m args meth c cc own nL ret) (hK : va_K D vwCl (tys cy) s) (hpre : ∀ H locs, HP H locs → va_P D vwCl wc H ∧ St g nA s H) {y : MethodName} {cc' : ByteArray} {mL' fr lo n idx b : Nat} {ret' : Option FieldType} {As : List Value} {v : Option Value}
    (hM : CR l D cy g y cc' mL' ret' fr lo wc (.ref b :: As) v) (h1 : Cond.methodLink own idx y ∈ tb) (hf : cfV y cc' mL' ret' n) (hfr : fr + 1 ≤ R.frames) (hlo : 8 + (mL' + 11) + lo ≤ R.locals) (hce : ce ≤ R.cells ∧ sl ≤ R.slots) (hrc : ∀ H locs, HP H locs → ∃ cell : Cell, H[b]? = some cell ∧ cell.vm.isStatics = false ∧ s.vm.findClass y.cls = some cell.cls) (hn : As.length = n) (hst : st0 = As.reverse ++ .ref b :: st) (hcat : (st.map fun v => v.category).sum ≤ 8) {st1 : List Value} (hs1 : v.toList ++ st = st1) (d : decode cc pc = .ok (.invokevirtual idx, 3))
    (kk : J p l e R s m args below meth c nL HP ce sl Q (pc + 3) lv st1) : J p l e R s m args below meth c nL HP ce sl Q pc lv st0 := by
  subst hst; subst hs1
  intro H locs ls hH hl
  obtain ⟨hPc, hSc⟩ := hpre H locs hH
  exact w_callR (W.runV ⟨F.1, F.2.1, F.2.2.2.1, F.2.2.2.2.1, F.2.2.2.2.2.1⟩ hM (cwV n F.2.2.2.2.2.1 (goodV h1 hf) rfl rfl rfl ⟨rfl, hf.2.2.2.2.1, hf.2.2.2.2.2.1, hf.2.2.2.2.2.2⟩ ⟨hfr, hlo⟩) ⟨fun a U f mk h => ⟨h.1, h.2.blind f mk a⟩, hrc H locs hH, fun U hU hW => ⟨rfl, by rw [hU]; exact hPc, va_K.moved hW.alike hK, by rw [hU]; exact hSc.warm hW⟩⟩ rfl hn hl.1 rfl (lv_room hcat) d hce) (kk H locs ls hH hl)
theorem rcS {i : Nat} (hi : i < 16) (hS : St g nA s s.heap) : ∀ H locs, hR s H locs → ∃ cell : Cell, H[g.2.1 i]? = some cell ∧ cell.vm.isStatics = false ∧ s.vm.findClass RJ0 = some cell.cls := fun _ _ h => by
  obtain ⟨cell, h1, h2, h3, -⟩ := (hS.2.1 i hi).1.kept (hR_S h).2.1
  exact ⟨cell, h1, h2, h3⟩
end STRS
theorem len_lt : ∀ i, i < 16 → lenS.getD i 0 < 2 ^ 31 := by decide +kernel
set_option maxRecDepth 100000 in
theorem c_J0_coder {l : Launch} {D : va_G} {cy : Nat → ClassId} {g : Gs} {i : Nat} (hi : i < 16) : CR l D cy g yJ0_coder_7d493 cJ0_coder_7d493 1 (some .byte) 0 0 [] [.ref (g.2.1 i)] (some (.int 0)) := by
  refine met_R (lv := [(0, .ref (g.2.1 i))]) (by decide) (Nat.le_of_ble_eq_true rfl) rfl ?_
  intro p e s m args below meth c F hP hK hS
  refine jr_getZ (pc := 0) F hS.2.2.2.1 tm_508 dJ0_coder_7d493_0 ?_
  refine j_if_eq (pc := 3) (tgt := 13) F dJ0_coder_7d493_3 rfl (fun h => absurd h (by decide)) (fun _ => ?_)
  refine j_aload_n (pc := 6) F 0 dJ0_coder_7d493_6 rfl rfl ?_
  refine jr_getS (pc := 7) F (hS.2.1 i hi).2.1 tm_1185 dJ0_coder_7d493_7 ?_
  refine j_goto (pc := 10) (tgt := 14) F dJ0_coder_7d493_10 rfl ?_
  exact j_sretR (pc := 14) F rfl dJ0_coder_7d493_14
theorem cf_J0_coder : cfV yJ0_coder_7d493 cJ0_coder_7d493 1 (some .byte) 0 := ⟨tm_505, tm_506, tm_63, tm_507, by decide, by decide, by decide +kernel⟩
set_option maxRecDepth 100000 in
theorem c_J0_isLatin1 {l : Launch} {D : va_G} {cy : Nat → ClassId} {g : Gs} {i : Nat} (hi : i < 16) : CR l D cy g yJ0_isLatin1_aae02 cJ0_isLatin1_aae02 1 (some .boolean) 0 0 [] [.ref (g.2.1 i)] (some (.int 1)) := by
  refine met_R (lv := [(0, .ref (g.2.1 i))]) (by decide) (Nat.le_of_ble_eq_true rfl) rfl ?_
  intro p e s m args below meth c F hP hK hS
  refine jr_getZ (pc := 0) F hS.2.2.2.1 tm_508 dJ0_isLatin1_aae02_0 ?_
  refine j_if_eq (pc := 3) (tgt := 17) F dJ0_isLatin1_aae02_3 rfl (fun h => absurd h (by decide)) (fun _ => ?_)
  refine j_aload_n (pc := 6) F 0 dJ0_isLatin1_aae02_6 rfl rfl ?_
  refine jr_getS (pc := 7) F (hS.2.1 i hi).2.1 tm_1185 dJ0_isLatin1_aae02_7 ?_
  refine j_if_ne (pc := 10) (tgt := 17) F dJ0_isLatin1_aae02_10 rfl (fun h => absurd rfl h) (fun _ => ?_)
  refine j_iconst (pc := 13) F (v := 1) dJ0_isLatin1_aae02_13 rfl ?_
  refine j_goto (pc := 14) (tgt := 18) F dJ0_isLatin1_aae02_14 rfl ?_
  exact j_sretR (pc := 18) F rfl dJ0_isLatin1_aae02_18
theorem cf_J0_isLatin1 : cfV yJ0_isLatin1_aae02 cJ0_isLatin1_aae02 1 (some .boolean) 0 := ⟨tm_515, tm_516, tm_63, tm_517, by decide, by decide, by decide +kernel⟩
set_option maxRecDepth 100000 in
theorem c_J0_length {l : Launch} {D : va_G} {cy : Nat → ClassId} {g : Gs} {i : Nat} (hi : i < 16) : CR l D cy g yJ0_length_8abf5 cJ0_length_8abf5 1 (some .int) 1 20 [] [.ref (g.2.1 i)] (some (.int (nI (lenS.getD i 0)))) := by
  refine met_R (lv := [(0, .ref (g.2.1 i))]) (by decide) (Nat.le_of_ble_eq_true rfl) rfl ?_
  intro p e s m args below meth c F hP hK hS
  refine j_aload_n (pc := 0) F 0 dJ0_length_8abf5_0 rfl rfl ?_
  refine jr_getS (pc := 1) F (hS.2.1 i hi).2.2.1 tm_1184 dJ0_length_8abf5_1 ?_
  refine jr_lenB (pc := 4) F (hS.2.1 i hi).2.2.2 dJ0_length_8abf5_4 ?_
  refine j_aload_n (pc := 5) F 0 dJ0_length_8abf5_5 rfl rfl ?_
  refine j_callRVq (pc := 6) (st := [.int (nI (lenS.getD i 0))]) (st1 := [.int 0, .int (nI (lenS.getD i 0))]) F hK (hpR hP hS hp_nil) (c_J0_coder (l := l) (D := D) (cy := cy) (g := g) hi) tm_504 cf_J0_coder (Nat.le_of_ble_eq_true rfl) (Nat.le_of_ble_eq_true rfl) ⟨Nat.zero_le _, Nat.zero_le _⟩ (rcS hi hS) rfl rfl (Nat.le_of_ble_eq_true rfl) rfl dJ0_length_8abf5_6 ?_
  refine j_ishr (pc := 9) F dJ0_length_8abf5_9 ?_
  exact j_iretR (pc := 10) F dJ0_length_8abf5_10 (sc_shr0 (len_lt i hi))
theorem cf_J0_length : cfV yJ0_length_8abf5 cJ0_length_8abf5 1 (some .int) 0 := ⟨tm_501, tm_502, tm_63, tm_503, by decide, by decide, by decide +kernel⟩
set_option maxRecDepth 100000 in
theorem c_J3_checkIndex {l : Launch} {D : va_G} {cy : Nat → ClassId} {g : Gs} {x n : Int32} {r : Option Nat} (h0 : ¬ x < 0) (h1 : x < n) : CR l D cy g yJ3_checkIndex_8e157 cJ3_checkIndex_8e157 3 (some .int) 0 0 [] [.int x, .int n, va_rf r] (some (.int x)) := by
  have hlv : lv_args 0 [.int x, .int n, va_rf r] = [(0, .int x), (1, .int n), (2, va_rf r)] := by cases r <;> rfl
  have hn : (lg_sl [.int x, .int n, va_rf r]).length ≤ 3 := by cases r <;> exact Nat.le_of_ble_eq_true rfl
  refine met_R (lv := [(0, .int x), (1, .int n), (2, va_rf r)]) (by decide) hn hlv ?_
  intro p e s m args below meth c F hP hK hS
  refine j_iload_n (pc := 0) F 0 dJ3_checkIndex_8e157_0 rfl rfl ?_
  refine j_if_lt (pc := 1) (tgt := 9) F dJ3_checkIndex_8e157_1 rfl (fun h => absurd h h0) (fun _ => ?_)
  refine j_iload_n (pc := 4) F 0 dJ3_checkIndex_8e157_4 rfl rfl ?_
  refine j_iload_n (pc := 5) F 1 dJ3_checkIndex_8e157_5 rfl rfl ?_
  refine j_icmp_lt (pc := 6) (tgt := 16) F dJ3_checkIndex_8e157_6 rfl (fun _ => ?_) (fun h => absurd h1 h)
  refine j_iload_n (pc := 16) F 0 dJ3_checkIndex_8e157_16 rfl rfl ?_
  exact j_iretR (pc := 17) F dJ3_checkIndex_8e157_17 rfl
theorem cf_J3_checkIndex : cfS yJ3_checkIndex_8e157 cJ3_checkIndex_8e157 3 (some .int) 3 := ⟨tm_527, tm_65, tm_528, by decide, by decide, by decide +kernel⟩
set_option maxRecDepth 100000 in
theorem c_J0_checkIndex {l : Launch} {D : va_G} {cy : Nat → ClassId} {g : Gs} {x n : Int32} (h0 : ¬ x < 0) (h1 : x < n) : CR l D cy g yJ0_checkIndex_df160 cJ0_checkIndex_df160 2 none 1 22 [] [.int x, .int n] none := by
  refine met_R (lv := [(0, .int x), (1, .int n)]) (by decide) (Nat.le_of_ble_eq_true rfl) rfl ?_
  intro p e s m args below meth c F hP hK hS
  refine j_iload_n (pc := 0) F 0 dJ0_checkIndex_df160_0 rfl rfl ?_
  refine j_iload_n (pc := 1) F 1 dJ0_checkIndex_df160_1 rfl rfl ?_
  obtain ⟨r, hr⟩ : ∃ r : Option Nat, va_Z "jdk/internal/util/Preconditions" "SIOOBE_FORMATTER" "Ljava/util/function/BiFunction;" (va_rf r) nA s s.heap := by
    rcases hS.2.2.2.2.1 with h | ⟨t, h⟩
    · exact ⟨none, h⟩
    · exact ⟨some t, h⟩
  refine jr_getZ (pc := 2) F hr tm_524 dJ0_checkIndex_df160_2 ?_
  refine j_callRS (pc := 5) (st := []) (st1 := [.int x]) F hK (hpR hP hS hp_nil) (c_J3_checkIndex (l := l) (D := D) (cy := cy) (g := g) (r := r) h0 h1) tm_526 cf_J3_checkIndex (Nat.le_of_ble_eq_true rfl) (Nat.le_of_ble_eq_true rfl) ⟨Nat.zero_le _, Nat.zero_le _⟩ rfl rfl (Nat.le_of_ble_eq_true rfl) rfl dJ0_checkIndex_df160_5 ?_
  refine j_pop (pc := 8) F dJ0_checkIndex_df160_8 rfl ?_
  exact j_vretR (pc := 9) F dJ0_checkIndex_df160_9
theorem cf_J0_checkIndex : cfS yJ0_checkIndex_df160 cJ0_checkIndex_df160 2 none 2 := ⟨tm_522, tm_63, tm_523, by decide, by decide, by decide +kernel⟩
theorem in_lt {x : Int32} {n : Nat} (hn : n < 2 ^ 31) (h : ¬ (x < 0 ∨ n ≤ x.toNatClampNeg)) : x < nI n := by
  obtain ⟨j, hj, rfl⟩ := vp_in_of (n := n) h hn
  exact nI_lt hj hn
set_option maxRecDepth 100000 in
theorem c_J1_charAt {l : Launch} {D : va_G} {cy : Nat → ClassId} {g : Gs} {i : Nat} {x : Int32} (hi : i < 16) (h : ¬ (x < 0 ∨ lenS.getD i 0 ≤ x.toNatClampNeg)) : CR l D cy g yJ1_charAt_3b067 cJ1_charAt_3b067 2 (some .char) 2 43 [] [.ref (g.2.2 i), .int x] (some (.int (sCh i x.toNatClampNeg))) := by
  refine met_R (lv := [(0, .ref (g.2.2 i)), (1, .int x)]) (by decide) (Nat.le_of_ble_eq_true rfl) rfl ?_
  intro p e s m args below meth c F hP hK hS
  refine j_iload_n (pc := 0) F 1 dJ1_charAt_3b067_0 rfl rfl ?_
  refine j_aload_n (pc := 1) F 0 dJ1_charAt_3b067_1 rfl rfl ?_
  refine jr_lenB (pc := 2) F (hS.2.1 i hi).2.2.2 dJ1_charAt_3b067_2 ?_
  refine j_callRS (pc := 3) (st := []) (st1 := []) F hK (hpR hP hS hp_nil) (c_J0_checkIndex (l := l) (D := D) (cy := cy) (g := g) (fun z => h (Or.inl z)) (in_lt (len_lt i hi) h)) tm_521 cf_J0_checkIndex (Nat.le_of_ble_eq_true rfl) (Nat.le_of_ble_eq_true rfl) ⟨Nat.zero_le _, Nat.zero_le _⟩ rfl rfl (Nat.le_of_ble_eq_true rfl) rfl dJ1_charAt_3b067_3 ?_
  refine j_aload_n (pc := 6) F 0 dJ1_charAt_3b067_6 rfl rfl ?_
  refine j_iload_n (pc := 7) F 1 dJ1_charAt_3b067_7 rfl rfl ?_
  refine jr_bald (pc := 8) F (hS.2.1 i hi).2.2.2 h rfl dJ1_charAt_3b067_8 ?_
  refine j_sipush (pc := 9) F (v := 255) dJ1_charAt_3b067_9 rfl ?_
  refine j_iand (pc := 12) F dJ1_charAt_3b067_12 ?_
  refine j_i2c (pc := 13) F dJ1_charAt_3b067_13 ?_
  refine j_topi (y := sCh i x.toNatClampNeg) (sc_c2 _).symm ?_
  exact j_sretR (pc := 14) F (sc_nar _) dJ1_charAt_3b067_14
theorem cf_J1_charAt : cfS yJ1_charAt_3b067 cJ1_charAt_3b067 2 (some .char) 2 := ⟨tm_519, tm_64, tm_520, by decide, by decide, by decide +kernel⟩
set_option maxRecDepth 100000 in
theorem c_J0_charAt {l : Launch} {D : va_G} {cy : Nat → ClassId} {g : Gs} {i : Nat} {x : Int32} (hi : i < 16) (h : ¬ (x < 0 ∨ lenS.getD i 0 ≤ x.toNatClampNeg)) : CR l D cy g yJ0_charAt_5068e cJ0_charAt_5068e 2 (some .char) 3 64 [] [.ref (g.2.1 i), .int x] (some (.int (sCh i x.toNatClampNeg))) := by
  refine met_R (lv := [(0, .ref (g.2.1 i)), (1, .int x)]) (by decide) (Nat.le_of_ble_eq_true rfl) rfl ?_
  intro p e s m args below meth c F hP hK hS
  refine j_aload_n (pc := 0) F 0 dJ0_charAt_5068e_0 rfl rfl ?_
  refine j_callRVq (pc := 1) (st := []) (st1 := [.int 1]) F hK (hpR hP hS hp_nil) (c_J0_isLatin1 (l := l) (D := D) (cy := cy) (g := g) hi) tm_514 cf_J0_isLatin1 (Nat.le_of_ble_eq_true rfl) (Nat.le_of_ble_eq_true rfl) ⟨Nat.zero_le _, Nat.zero_le _⟩ (rcS hi hS) rfl rfl (Nat.le_of_ble_eq_true rfl) rfl dJ0_charAt_5068e_1 ?_
  refine j_if_eq (pc := 4) (tgt := 16) F dJ0_charAt_5068e_4 rfl (fun h => absurd h (by decide)) (fun _ => ?_)
  refine j_aload_n (pc := 7) F 0 dJ0_charAt_5068e_7 rfl rfl ?_
  refine jr_getS (pc := 8) F (hS.2.1 i hi).2.2.1 tm_1184 dJ0_charAt_5068e_8 ?_
  refine j_iload_n (pc := 11) F 1 dJ0_charAt_5068e_11 rfl rfl ?_
  refine j_callRS (pc := 12) (st := []) (st1 := [.int (sCh i x.toNatClampNeg)]) F hK (hpR hP hS hp_nil) (c_J1_charAt (l := l) (D := D) (cy := cy) (g := g) hi h) tm_518 cf_J1_charAt (Nat.le_of_ble_eq_true rfl) (Nat.le_of_ble_eq_true rfl) ⟨Nat.zero_le _, Nat.zero_le _⟩ rfl rfl (Nat.le_of_ble_eq_true rfl) rfl dJ0_charAt_5068e_12 ?_
  exact j_sretR (pc := 15) F (sc_nar _) dJ0_charAt_5068e_15
theorem cf_J0_charAt : cfV yJ0_charAt_5068e cJ0_charAt_5068e 2 (some .char) 1 := ⟨tm_511, tm_512, tm_63, tm_513, by decide, by decide, by decide +kernel⟩
