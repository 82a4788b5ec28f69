theorem tl_m1 {w : Cond} (h : w ∈ tables_1_1) : w ∈ lw_tbl := List.mem_append_right _ (List.mem_append_left _ h)
theorem tl_m2 {w : Cond} (h : w ∈ tables_1_2) : w ∈ lw_tbl := List.mem_append_right _ (List.mem_append_right _ (List.mem_append_left _ h))
theorem tl_m3 {w : Cond} (h : w ∈ tables_1_3) : w ∈ lw_tbl := List.mem_append_right _ (List.mem_append_right _ (List.mem_append_right _ (List.mem_append_left _ h)))
theorem tl_m4 {w : Cond} (h : w ∈ tables_1_4) : w ∈ lw_tbl := List.mem_append_right _ (List.mem_append_right _ (List.mem_append_right _ (List.mem_append_right _ (List.mem_append_left _ h))))
theorem tl_m5 {w : Cond} (h : w ∈ tables_1_5) : w ∈ lw_tbl := List.mem_append_right _ (List.mem_append_right _ (List.mem_append_right _ (List.mem_append_right _ (List.mem_append_right _ h))))
theorem tl_over : (.arrayOver (.object RX0) : Cond) ∈ lw_tbl := tl_m1 (List.mem_of_getElem? (i := 99) rfl)
theorem tl_st0 : (.laysStatic (sC 0) (sN 0) "[I" : Cond) ∈ lw_tbl := tl_m1 (List.mem_of_getElem? (i := 238) rfl)
theorem tl_st1 : (.laysStatic (sC 1) (sN 1) "[I" : Cond) ∈ lw_tbl := tl_m2 (List.mem_of_getElem? (i := 80) rfl)
theorem tl_st2 : (.laysStatic (sC 2) (sN 2) "[I" : Cond) ∈ lw_tbl := tl_m3 (List.mem_of_getElem? (i := 64) rfl)
theorem tl_st3 : (.laysStatic (sC 3) (sN 3) "[I" : Cond) ∈ lw_tbl := tl_m3 (List.mem_of_getElem? (i := 66) rfl)
theorem tl_cs : (.laysStatic "java/lang/String" "COMPACT_STRINGS" "Z" : Cond) ∈ lw_tbl := tl_m2 (List.mem_of_getElem? (i := 217) rfl)
theorem tl_sf : (.laysStatic "jdk/internal/util/Preconditions" "SIOOBE_FORMATTER" "Ljava/util/function/BiFunction;" : Cond) ∈ lw_tbl := tl_m2 (List.mem_of_getElem? (i := 233) rfl)
theorem tl_str0 : (.stringRef RX3 (ixS 0) (txS 0) : Cond) ∈ lw_tbl := tl_m2 (List.mem_of_getElem? (i := 203) rfl)
theorem tl_str1 : (.stringRef RX3 (ixS 1) (txS 1) : Cond) ∈ lw_tbl := tl_m3 (List.mem_of_getElem? (i := 16) rfl)
theorem tl_str2 : (.stringRef RX3 (ixS 2) (txS 2) : Cond) ∈ lw_tbl := tl_m3 (List.mem_of_getElem? (i := 25) rfl)
theorem tl_str3 : (.stringRef RX3 (ixS 3) (txS 3) : Cond) ∈ lw_tbl := tl_m3 (List.mem_of_getElem? (i := 26) rfl)
theorem tl_str4 : (.stringRef RX3 (ixS 4) (txS 4) : Cond) ∈ lw_tbl := tl_m3 (List.mem_of_getElem? (i := 27) rfl)
theorem tl_str5 : (.stringRef RX3 (ixS 5) (txS 5) : Cond) ∈ lw_tbl := tl_m3 (List.mem_of_getElem? (i := 32) rfl)
theorem tl_str6 : (.stringRef RX3 (ixS 6) (txS 6) : Cond) ∈ lw_tbl := tl_m3 (List.mem_of_getElem? (i := 33) rfl)
theorem tl_str7 : (.stringRef RX3 (ixS 7) (txS 7) : Cond) ∈ lw_tbl := tl_m3 (List.mem_of_getElem? (i := 42) rfl)
theorem tl_str8 : (.stringRef RX3 (ixS 8) (txS 8) : Cond) ∈ lw_tbl := tl_m3 (List.mem_of_getElem? (i := 51) rfl)
theorem tl_str9 : (.stringRef RX3 (ixS 9) (txS 9) : Cond) ∈ lw_tbl := tl_m3 (List.mem_of_getElem? (i := 52) rfl)
theorem tl_str10 : (.stringRef RX3 (ixS 10) (txS 10) : Cond) ∈ lw_tbl := tl_m3 (List.mem_of_getElem? (i := 53) rfl)
theorem tl_str11 : (.stringRef RX3 (ixS 11) (txS 11) : Cond) ∈ lw_tbl := tl_m3 (List.mem_of_getElem? (i := 54) rfl)
theorem tl_str12 : (.stringRef RX3 (ixS 12) (txS 12) : Cond) ∈ lw_tbl := tl_m3 (List.mem_of_getElem? (i := 71) rfl)
theorem tl_str13 : (.stringRef RX3 (ixS 13) (txS 13) : Cond) ∈ lw_tbl := tl_m3 (List.mem_of_getElem? (i := 82) rfl)
theorem tl_str14 : (.stringRef RX3 (ixS 14) (txS 14) : Cond) ∈ lw_tbl := tl_m3 (List.mem_of_getElem? (i := 83) rfl)
theorem tl_str15 : (.stringRef RX3 (ixS 15) (txS 15) : Cond) ∈ lw_tbl := tl_m3 (List.mem_of_getElem? (i := 84) rfl)
def fl1 : List Cond := flatC (Jvm.Cond.and given_1 narrow_1)
def stT (k : Nat) : Term := .static (sC k) (sN k) "[I"
def strT (i : Nat) : Term := .string RX3 (ixS i)
theorem fl_st : ∀ k, k < 4 → (Cond.arrayOf (stT k) .int ∈ fl1 ∧ Cond.eq (.length (stT k)) (.int (Int32.ofNat (sL k))) ∈ fl1 ∧ ∀ j, j < sL k → Cond.eq (.elem (stT k) (.int (Int32.ofNat j))) (.int (sF k j)) ∈ fl1) := by decide +kernel
theorem fl_cs : Cond.eq (.static "java/lang/String" "COMPACT_STRINGS" "Z") (.int 1) ∈ fl1 := by decide +kernel
theorem fl_sf : Cond.isRef (.static "jdk/internal/util/Preconditions" "SIOOBE_FORMATTER" "Ljava/util/function/BiFunction;") ∈ fl1 := by decide +kernel
theorem fl_str : ∀ i, i < 16 → (Cond.exactly (strT i) "java/lang/String" ∈ fl1 ∧ Cond.eq (.field (strT i) "java/lang/String" "coder" "B") (.int 0) ∈ fl1 ∧ Cond.arrayOf (.field (strT i) "java/lang/String" "value" "[B") .byte ∈ fl1 ∧ Cond.eq (.length (.field (strT i) "java/lang/String" "value" "[B")) (.int (Int32.ofNat (lenS.getD i 0))) ∈ fl1 ∧ ∀ j, j < lenS.getD i 0 → Cond.eq (.elem (.field (strT i) "java/lang/String" "value" "[B") (.int (Int32.ofNat j))) (.int ((bytS.getD i []).getD j 0)) ∈ fl1) := by decide +kernel
theorem len16 : ∀ i, i < 16 → lenS.getD i 0 < 2 ^ 31 := by decide +kernel
theorem of_arrayClass {args : Array Value} {s : State} {ty : FieldType} (h : (Cond.arrayClass ty).before args s = true) : ∃ c : ClassId, ArrOfT s c ty ∧ s.vm.findClass ("[" ++ ty.toString) = some c := by
  obtain ⟨c, k, comp, h1, h2, h3⟩ := Cond.arrayClass_spec h
  exact ⟨c, fun n z => ⟨fun k h => (by cases h), k, h2, comp, h3⟩, h1⟩
theorem of_arrayOver {args : Array Value} {s : State} {C : String} (h : (Cond.arrayOver (.object C)).before args s = true) : ∃ c : ClassId, ArrOfT s c (.object C) ∧ va_RA s c (.object C) := by
  obtain ⟨comp, c, k, h1, h2, h3, h4, h5⟩ := Cond.arrayOver_spec h
  exact ⟨c, fun n z => ⟨fun k h => (by cases h), k, h3, comp, h4⟩, k, comp, h3, h4, h1, h5⟩
theorem start_S {args : Array Value} {s : State} (hts : ∀ w ∈ lw_tbl, w.before args s = true) (hgv : (Jvm.Cond.and given_1 narrow_1).before args s = true) : ∃ g : Gs, St g (fun q => s.heap.size ≤ q) s s.heap := by
  have hs := flat_of_before _ hgv
  have hA : ∀ a : Nat, a < s.heap.size → ¬ (fun q => s.heap.size ≤ q) a := fun a h => Nat.not_le.mpr h
  have hz : ∀ k : Nat, ∃ t : Nat, k < 4 → (va_Z (sC k) (sN k) "[I" (.ref t) (fun q => s.heap.size ≤ q) s s.heap ∧ va_T .int t (sL k) (fun j => .int (sF k j)) (fun q => s.heap.size ≤ q) s s.heap) := by
    intro k
    by_cases hk : k < 4
    · obtain ⟨f1, f2, f3⟩ := fl_st k hk
      have hN : sL k < 2 ^ 31 := by
        match k, hk with
        | 0, _ => decide
        | 1, _ => decide
        | 2, _ => decide
        | 3, _ => decide
        | k + 4, h => exact absurd h (by omega)
      obtain ⟨t, ht, hT⟩ := va_Tof (args := args) (s := s) (tm := stT k) (ty := .int) (N := sL k) (f := fun j => .int (sF k j)) (A := fun q => s.heap.size ≤ q) hN (hs _ f1) (va_eqt (hs _ f2)) (fun j hj => va_eqt (hs _ (f3 j hj))) hA
      refine ⟨t, fun _ => ⟨?_, hT⟩⟩
      match k, hk with
      | 0, _ => exact va_Zref (hts _ tl_st0) (hts _ (tb_tbl tm_54)) ht hA
      | 1, _ => exact va_Zref (hts _ tl_st1) (hts _ (tb_tbl tm_62)) ht hA
      | 2, _ => exact va_Zref (hts _ tl_st2) (hts _ (tb_tbl tm_59)) ht hA
      | 3, _ => exact va_Zref (hts _ tl_st3) (hts _ (tb_tbl tm_59)) ht hA
      | k + 4, h => exact absurd h (by omega)
    · exact ⟨0, fun h => absurd h hk⟩
  obtain ⟨tt, htt⟩ := Classical.axiomOfChoice hz
  have h1 : ∀ i : Nat, ∃ q : Nat × Nat, i < 16 → (strT i).eval args s none [] s = some (.ref q.1) ∧ va_O "java/lang/String" q.1 (fun q => s.heap.size ≤ q) s s.heap ∧ va_OF "java/lang/String" "coder" "B" (.int 0) q.1 (fun q => s.heap.size ≤ q) s s.heap ∧ va_OF "java/lang/String" "value" "[B" (.ref q.2) q.1 (fun q => s.heap.size ≤ q) s s.heap ∧ va_T .byte q.2 (lenS.getD i 0) (fun j => .int ((bytS.getD i []).getD j 0)) (fun q => s.heap.size ≤ q) s s.heap := by
    intro i
    by_cases hi : i < 16
    · obtain ⟨f1, f2, f3, f4, f5⟩ := fl_str i hi
      obtain ⟨a, c, cA, kA, q1, q2, q3, q4, q5, q6, -⟩ := Cond.exactly_spec (args := args) (first := s) (o := none) (s := s) (idx := []) (t := strT i) (cls := "java/lang/String") (hs _ f1)
      obtain ⟨t, ht, hT⟩ := va_Tof (f := fun j => .int ((bytS.getD i []).getD j 0)) (A := fun q => s.heap.size ≤ q) (len16 i hi) (hs _ f3) (va_eqt (hs _ f4)) (fun j hj => va_eqt (hs _ (f5 j hj))) hA
      exact ⟨(a, t), fun _ => ⟨q1, ⟨cA, q3, q5, by rw [q6]; exact q2, hA a (Array.getElem?_eq_some_iff.mp q3).1⟩, vk_OFof q1 (va_eqt (hs _ f2)) hA, vk_OFof q1 ht hA, hT⟩⟩
    · exact ⟨(0, 0), fun h => absurd h hi⟩
  obtain ⟨ad, had⟩ := Classical.axiomOfChoice h1
  refine ⟨(tt, fun i => (ad i).1, fun i => (ad i).2), fun k hk => htt k hk, fun i hi => (had i hi).2, fun i hi => ?_, va_Zof (hts _ tl_cs) (hts _ (tb_tbl tm_63)) (va_eqi (hs _ fl_cs)) hA, va_Zqof (hts _ tl_sf) (hts _ (tb_tbl tm_65)) (hs _ fl_sf) hA, va_AO.of (hts _ tl_over)⟩
  have h2 := (had i hi).1
  match i, hi with
  | 0, _ => exact vk_R.of (hts _ tl_str0) h2
  | 1, _ => exact vk_R.of (hts _ tl_str1) h2
  | 2, _ => exact vk_R.of (hts _ tl_str2) h2
  | 3, _ => exact vk_R.of (hts _ tl_str3) h2
  | 4, _ => exact vk_R.of (hts _ tl_str4) h2
  | 5, _ => exact vk_R.of (hts _ tl_str5) h2
  | 6, _ => exact vk_R.of (hts _ tl_str6) h2
  | 7, _ => exact vk_R.of (hts _ tl_str7) h2
  | 8, _ => exact vk_R.of (hts _ tl_str8) h2
  | 9, _ => exact vk_R.of (hts _ tl_str9) h2
  | 10, _ => exact vk_R.of (hts _ tl_str10) h2
  | 11, _ => exact vk_R.of (hts _ tl_str11) h2
  | 12, _ => exact vk_R.of (hts _ tl_str12) h2
  | 13, _ => exact vk_R.of (hts _ tl_str13) h2
  | 14, _ => exact vk_R.of (hts _ tl_str14) h2
  | 15, _ => exact vk_R.of (hts _ tl_str15) h2
  | i + 16, h => exact absurd h (by omega)
set_option maxHeartbeats 4000000 in
theorem start_K {args : Array Value} {s : State} (hts : ∀ w ∈ lw_tbl, w.before args s = true) : ∃ (D : va_G) (cy : Nat → ClassId), va_K D vwCl (tys cy) s := by
  have htb : ∀ w ∈ tb, w.before args s = true := fun w h => hts w (tb_tbl h)
  obtain ⟨c0, iS0, hKn0⟩ := u_known (C := RX0) (T := TX0) (N := 7) (n := 7) htb ix_0 (htb (.instantiable RX0 7) tm_152)
  obtain ⟨c1, iS1, hKn1⟩ := u_known (C := RX1) (T := TX1) (N := 2) (n := 2) htb ix_1 (htb (.instantiable RX1 2) tm_145)
  obtain ⟨c2, iS2, hKn2⟩ := u_known (C := RX3) (T := TX3) (N := 11) (n := 11) htb ix_3 (htb (.instantiable RX3 11) tm_187)
  obtain ⟨c3, iS3, hKn3⟩ := u_known (C := RX4) (T := TX4) (N := 4) (n := 4) htb ix_4 (htb (.instantiable RX4 4) tm_126)
  obtain ⟨c4, iS4, hKn4⟩ := u_known (C := RX5) (T := TX5) (N := 9) (n := 9) htb ix_5 (htb (.instantiable RX5 9) tm_78)
  obtain ⟨c5, iS5, hKn5⟩ := u_known (C := RX6) (T := TX6) (N := 2) (n := 2) htb ix_6 (htb (.instantiable RX6 2) tm_113)
  obtain ⟨c6, iS6, hKn6⟩ := u_known (C := RX7) (T := TX7) (N := 5) (n := 5) htb ix_7 (htb (.instantiable RX7 5) tm_70)
  obtain ⟨c7, iS7, hKn7⟩ := u_known (C := RX8) (T := TX8) (N := 50) (n := 50) htb ix_8 (htb (.instantiable RX8 50) tm_810)
  obtain ⟨y0, hy0, hn0⟩ := of_arrayClass (htb (.arrayClass .int) tm_111)
  obtain ⟨y1, hy1, hn1⟩ := of_arrayClass (htb (.arrayClass .char) tm_967)
  obtain ⟨y2, hy2, hn2⟩ := of_arrayClass (htb (.arrayClass .long) tm_966)
  obtain ⟨y3, hy3, hn3⟩ := of_arrayOver (hts _ tl_over)
  refine ⟨(fun k => if k = 0 then c0 else if k = 1 then c1 else if k = 2 then c2 else if k = 3 then c3 else if k = 4 then c4 else if k = 5 then c5 else if k = 6 then c6 else c7, fun k => if k = 0 then iS0 else if k = 1 then iS1 else if k = 2 then iS2 else if k = 3 then iS3 else if k = 4 then iS4 else if k = 5 then iS5 else if k = 6 then iS6 else iS7), fun k => if k = 0 then y0 else if k = 1 then y1 else if k = 2 then y2 else y3, ?_, ?_⟩
  · intro k q hq
    match k, hq with
    | 0, hq => cases hq; exact hKn0
    | 1, hq => cases hq; exact hKn1
    | 2, hq => cases hq; exact hKn2
    | 3, hq => cases hq; exact hKn3
    | 4, hq => cases hq; exact hKn4
    | 5, hq => cases hq; exact hKn5
    | 6, hq => cases hq; exact hKn6
    | 7, hq => cases hq; exact hKn7
    | k + 8, hq => simp [vwCl] at hq
  · intro k q hq
    match k, hq with
    | 0, hq => cases hq; exact ⟨hy0, hn0⟩
    | 1, hq => cases hq; exact ⟨hy1, hn1⟩
    | 2, hq => cases hq; exact ⟨hy2, hn2⟩
    | 3, hq => cases hq; exact ⟨hy3, hn3⟩
    | k + 4, hq => simp [tys] at hq

set_option maxHeartbeats 4000000 in
set_option maxRecDepth 100000 in
/-- THE LAW, from its entry, over an invariant that every call keeps -/
theorem start_of {p : Program} {e : Env} {s : State} {m : MethodId} {below : List Frame} {meth : Method} {c : Code} (l : Launch) {b L : Nat} {xs : Nat → Int32} {N : Nat} {Inv : Nat → St2 → St2 → St2 → St2 × (Nat → Nat) → (Nat → (St2 × Int64)) → St2 → St2 × (Nat → Int64) → Prop} (hI : Steps N Inv) (h0 : Inv 0 s0S z0 z0 (z0, fun i => i) (fun _ => (z0, 0)) s0D m0) (hL : L ≤ 3072) (C0 : lw_At p s m meth c b L xs) : W p l e room_1 s m #[Value.ref b] below meth c s.heap [] 0 0 (lw_Z below #[Value.ref b] s) (entryFrame m ([Value.ref b] : List Value).toArray 4) := by
  obtain ⟨hx, hb, hr, hml, hown, hts, hX, hbl, hlocks, hgv⟩ := C0
  have F : Fx p s m #[Value.ref b] meth c code R_law 4 ret := ⟨hx, hb, hr, hml, hown, fun w h => hts w (tb_tbl h), hlocks⟩
  obtain ⟨g, hS⟩ := start_S hts hgv
  obtain ⟨D, cy, hK⟩ := start_K hts
  have hA : ∀ q : Nat, s.heap.size ≤ q → (fun q : Nat => s.heap.size ≤ q) q := fun _ h => h
  have main : J p l e room_1 s m #[Value.ref b] below meth c 4 (hW D (fun q => s.heap.size ≤ q) s []) 0 0 (lw_Z below #[Value.ref b] s) 0 [(0, .ref b)] [] := by
    refine jc_new (pc := 0) (ci := 6) (fs := [.null, .null, .null, .null, .null]) (ce' := 1) (sl' := 5) F hK hA ix_7 tyX7 tyX7_ok tm_69 tm_70 tm_53 rfl (fun j hj => match j, hj with | 0, _ => rfl | 1, _ => rfl | 2, _ => rfl | 3, _ => rfl | 4, _ => rfl | j + 5, hj => absurd hj (by omega)) (Nat.le_of_ble_eq_true rfl) (Nat.le_of_ble_eq_true rfl) rfl rfl dL_law_0 (fun q1 => ?_)
    refine j_dup (pc := 3) F dL_law_3 rfl ?_
    refine jc_call (pc := 4) (st := [.ref q1]) (ce' := 30) (sl' := 5765) (wr := []) F hK hS hA (List.Perm.refl _) (c_X7_init (l := l) (D := D) (cy := cy) (g := g) (q := q1)) tm_71 cf_X7_init (Nat.le_of_ble_eq_true rfl) (Nat.le_of_ble_eq_true rfl) ⟨Nat.le_of_ble_eq_true rfl, Nat.le_of_ble_eq_true rfl⟩ rfl rfl rfl rfl (Nat.le_of_ble_eq_true rfl) dL_law_4 (fun aa haa => ?_)
    obtain ⟨aH, aS, aT, aR, aV, aD, aQ⟩ := aa
    change aH 0 = q1 at haa
    subst haa
    refine j_wd (w' := wHs aH aS aT aR aV aD aQ cy s0S z0 z0 (z0, fun i => i) (fun _ => (z0, 0)) s0D .null) rfl ?_
    refine j_astore_n (pc := 7) (lv' := [(1, .ref (aH 0)), (0, .ref b)]) F dL_law_7 rfl (by decide) rfl ?_
    refine jc_new (pc := 8) (ci := 7) (fs := [.int 0, .int 0, .int 0, .int 0, .int 0, .null, .null, .null, .null, .null, .int 0, .int 0, .int 0, .null, .int 0, .int 0, .int 0, .int 0, .int 0, .int 0, .int 0, .int 0, .int 0, .null, .null, .null, .int 0, .null, .null, .null, .null, .null, .int 0, .int 0, .null, .null, .null, .null, .null, .null, .null, .null, .null, .null, .null, .null, .null, .null, .null, .null]) (ce' := 31) (sl' := 5815) F hK hA ix_8 tyX8 tyX8_ok tm_809 tm_810 tm_60 rfl (fun j hj => match j, hj with | 0, _ => rfl | 1, _ => rfl | 2, _ => rfl | 3, _ => rfl | 4, _ => rfl | 5, _ => rfl | 6, _ => rfl | 7, _ => rfl | 8, _ => rfl | 9, _ => rfl | 10, _ => rfl | 11, _ => rfl | 12, _ => rfl | 13, _ => rfl | 14, _ => rfl | 15, _ => rfl | 16, _ => rfl | 17, _ => rfl | 18, _ => rfl | 19, _ => rfl | 20, _ => rfl | 21, _ => rfl | 22, _ => rfl | 23, _ => rfl | 24, _ => rfl | 25, _ => rfl | 26, _ => rfl | 27, _ => rfl | 28, _ => rfl | 29, _ => rfl | 30, _ => rfl | 31, _ => rfl | 32, _ => rfl | 33, _ => rfl | 34, _ => rfl | 35, _ => rfl | 36, _ => rfl | 37, _ => rfl | 38, _ => rfl | 39, _ => rfl | 40, _ => rfl | 41, _ => rfl | 42, _ => rfl | 43, _ => rfl | 44, _ => rfl | 45, _ => rfl | 46, _ => rfl | 47, _ => rfl | 48, _ => rfl | 49, _ => rfl | j + 50, hj => absurd hj (by omega)) (Nat.le_of_ble_eq_true rfl) (Nat.le_of_ble_eq_true rfl) rfl rfl dL_law_8 (fun q2 => ?_)
    refine j_dup (pc := 11) F dL_law_11 rfl ?_
    refine jc_call (pc := 12) (st := [.ref q2]) (ce' := 61) (sl' := 42210) (wr := wHs aH aS aT aR aV aD aQ cy s0S z0 z0 (z0, fun i => i) (fun _ => (z0, 0)) s0D .null) F hK hS hA List.perm_append_comm (c_X8_init (l := l) (D := D) (cy := cy) (g := g) (q := q2)) tm_811 cf_X8_init (Nat.le_of_ble_eq_true rfl) (Nat.le_of_ble_eq_true rfl) ⟨Nat.le_of_ble_eq_true rfl, Nat.le_of_ble_eq_true rfl⟩ rfl rfl rfl rfl (Nat.le_of_ble_eq_true rfl) dL_law_12 (fun aM haM => ?_)
    change aM 0 = q2 at haM
    subst haM
    refine j_astore_n (pc := 15) (lv' := [(2, .ref (aM 0)), (1, .ref (aH 0)), (0, .ref b)]) F dL_law_15 rfl (by decide) rfl ?_
    refine j_iconst (pc := 16) F (v := 0) dL_law_16 rfl ?_
    refine j_istore_n (pc := 17) (lv' := [(3, .int 0), (2, .ref (aM 0)), (1, .ref (aH 0)), (0, .ref b)]) F dL_law_17 rfl (by decide) rfl ?_
    refine j_sub [3, 2, 1, 0] rfl ?_
    exact law_loop hI hL F hK hS hX hbl (L + 1) 0 s0S z0 z0 (z0, fun i => i) (fun _ => (z0, 0)) s0D .null m0 (by omega) (by omega) h0
  have hl := lv_entry ([.ref b]) (n := 4) (Nat.le_of_ble_eq_true rfl)
  rw [lg_entry_eq]
  exact main s.heap [] _ ⟨fun k q h => by simp at h, ⟨fun i j p q h => by simp at h, fun k q h => by simp at h⟩, va_S.rf⟩ hl
