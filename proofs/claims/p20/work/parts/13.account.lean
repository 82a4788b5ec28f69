def f_X0_clear_22 (N : Nat) : Nat → (St2 × (Int64)) → Int32 → Option ((St2 × (Int64)))
  | 0, _, _ => none
  | n + 1, σA, y2 => if 4 ≤ y2 then some (up2 σA.1 0 6 0, σA.2) else if y2 < 0 ∨ 4 ≤ Int32.toNatClampNeg y2 then none else f_X0_clear_22 N n (up2 σA.1 5 (Int32.toNatClampNeg y2) (-1), σA.2) (y2 + 1)
def f_X0_clear (N : Nat) (σA : St2 × (Int64)) (x1 : Int32) : Option ((St2 × (Int64))) := f_X0_clear_22 N N (up2 (up2 (up2 (up2 σA.1 0 0 0) 0 1 0) 0 2 x1) 0 3 0, σA.2) 0
set_option maxHeartbeats 4000000 in
set_option maxRecDepth 100000 in
theorem b_X0_clear_22 {l : Launch} {D : va_G} {cy : Nat → ClassId} {g : Gs} {p : Program} {e : Env} {s : State} {m : MethodId} {args : Array Value} {below : List Frame} {meth : Method} {c : Code} {A : Nat → Prop} {aA : Nat → Nat} {N : Nat} {out : (St2 × (Int64))} (F : Fx p s m args meth c cX0_clear RX0 3 none) (hK : va_K D vwCl (tys cy) s) (hS : St g A s s.heap) (hA : ∀ q, s.heap.size ≤ q → A q) :
    ∀ (n : Nat) (σA : St2 × (Int64)) (y2 : Int32), f_X0_clear_22 N n σA y2 = some out → J p l e { frames := 0, cells := 0, slots := 0, locals := 0 } s m args below meth c 3 (hW D A s (wA aA cy σA)) 0 0 (MQ below (QW D A none (wA aA cy out)) args s 0 0 A) 22 [(0, .ref (aA 0)), (2, .int y2)] [] := by
  intro n
  induction n with
  | zero =>
    intro σA y2 hf
    cases hf
  | succ n ih =>
    intro σA y2 hf
    rw [f_X0_clear_22] at hf
    refine j_iload_n (pc := 22) F 1 dX0_clear_22 rfl rfl ?_
    refine j_iconst (pc := 23) F (v := 4) dX0_clear_23 rfl ?_
    refine j_icmp_ge (pc := 24) (tgt := 40) F dX0_clear_24 rfl (fun c_1 => ?_) (fun c_1 => ?_)
    · have hf := of_pos c_1 hf
      refine j_aload_n (pc := 40) F 0 dX0_clear_40 rfl rfl ?_
      refine j_iconst (pc := 41) F (v := 0) dX0_clear_41 rfl ?_
      refine jw_put (pc := 42) (w' := wA aA cy (up2 σA.1 0 6 0, σA.2)) F hK ix_0 tyX0 tyX0_ok nmX0 0 rfl rfl 6 (by decide) tm_163 rfl rfl rfl rfl rfl (Nat.le_of_ble_eq_true rfl) (wA_put_6 _ _ _ _) dX0_clear_42 ?_
      have hf := (Option.some.inj hf)
      subst hf
      exact j_vretW (pc := 45) F dX0_clear_45 rfl
    · have hf := of_neg c_1 hf
      refine j_aload_n (pc := 27) F 0 dX0_clear_27 rfl rfl ?_
      refine jw_get (pc := 28) (v := .ref (aA 5)) F hK ix_0 0 rfl rfl 4 (by decide) tm_161 rfl rfl dX0_clear_28 ?_
      refine j_iload_n (pc := 31) F 1 dX0_clear_31 rfl rfl ?_
      refine j_iconst (pc := 32) F (v := (-1)) dX0_clear_32 rfl ?_
      have c_2 : ¬ (y2 < 0 ∨ 4 ≤ Int32.toNatClampNeg y2) := fun z => by rw [if_pos z] at hf; cases hf
      have hf := of_neg c_2 hf
      refine jw_iast (pc := 33) (w' := wA aA cy (up2 σA.1 5 (Int32.toNatClampNeg y2) (-1), σA.2)) F hK 1 rfl c_2 (wA_row_5 _ _ _ _ _) dX0_clear_33 ?_
      refine j_iinc (pc := 34) (v := y2 + 1) (lv' := [(2, .int (y2 + 1)), (0, .ref (aA 0))]) F 1 dX0_clear_34 rfl rfl (by decide) rfl ?_
      refine j_goto (pc := 37) F (tgt := 22) dX0_clear_37 rfl ?_
      refine j_sub [1, 0] rfl ?_
      exact ih (up2 σA.1 5 (Int32.toNatClampNeg y2) (-1), σA.2) (y2 + 1) hf
set_option maxHeartbeats 4000000 in
set_option maxRecDepth 100000 in
theorem c_X0_clear {l : Launch} {D : va_G} {cy : Nat → ClassId} {g : Gs} {aA : Nat → Nat} {σA : St2 × (Int64)} {N : Nat} {x1 : Int32} {out : (St2 × (Int64))} (hf : f_X0_clear N σA x1 = some out) : CW l D cy g yX0_clear cX0_clear 3 none 0 0 (wA aA cy σA) [.ref (aA 0), .int x1] none (wA aA cy out) := by
  unfold f_X0_clear at hf
  refine met_W (lv := [(0, .ref (aA 0)), (1, .int x1)]) (by decide) (Nat.le_of_ble_eq_true rfl) rfl ?_
  intro p e s m args below meth c A F hK hS hA
  refine j_aload_n (pc := 0) F 0 dX0_clear_0 rfl rfl ?_
  refine j_iconst (pc := 1) F (v := 0) dX0_clear_1 rfl ?_
  refine jw_put (pc := 2) (w' := wA aA cy (up2 σA.1 0 0 0, σA.2)) F hK ix_0 tyX0 tyX0_ok nmX0 0 rfl rfl 0 (by decide) tm_157 rfl rfl rfl rfl rfl (Nat.le_of_ble_eq_true rfl) (wA_put_0 _ _ _ _) dX0_clear_2 ?_
  refine j_aload_n (pc := 5) F 0 dX0_clear_5 rfl rfl ?_
  refine j_iconst (pc := 6) F (v := 0) dX0_clear_6 rfl ?_
  refine jw_put (pc := 7) (w' := wA aA cy (up2 (up2 σA.1 0 0 0) 0 1 0, σA.2)) F hK ix_0 tyX0 tyX0_ok nmX0 0 rfl rfl 1 (by decide) tm_158 rfl rfl rfl rfl rfl (Nat.le_of_ble_eq_true rfl) (wA_put_1 _ _ _ _) dX0_clear_7 ?_
  refine j_aload_n (pc := 10) F 0 dX0_clear_10 rfl rfl ?_
  refine j_iload_n (pc := 11) F 1 dX0_clear_11 rfl rfl ?_
  refine jw_put (pc := 12) (w' := wA aA cy (up2 (up2 (up2 σA.1 0 0 0) 0 1 0) 0 2 x1, σA.2)) F hK ix_0 tyX0 tyX0_ok nmX0 0 rfl rfl 2 (by decide) tm_159 rfl rfl rfl rfl rfl (Nat.le_of_ble_eq_true rfl) (wA_put_2 _ _ _ _) dX0_clear_12 ?_
  refine j_aload_n (pc := 15) F 0 dX0_clear_15 rfl rfl ?_
  refine j_iconst (pc := 16) F (v := 0) dX0_clear_16 rfl ?_
  refine jw_put (pc := 17) (w' := wA aA cy (up2 (up2 (up2 (up2 σA.1 0 0 0) 0 1 0) 0 2 x1) 0 3 0, σA.2)) F hK ix_0 tyX0 tyX0_ok nmX0 0 rfl rfl 3 (by decide) tm_160 rfl rfl rfl rfl rfl (Nat.le_of_ble_eq_true rfl) (wA_put_3 _ _ _ _) dX0_clear_17 ?_
  refine j_iconst (pc := 20) F (v := 0) dX0_clear_20 rfl ?_
  refine j_istore_n (pc := 21) (lv' := [(2, .int 0), (0, .ref (aA 0)), (1, .int x1)]) F dX0_clear_21 rfl (by decide) rfl ?_
  refine j_sub [1, 0] rfl ?_
  exact b_X0_clear_22 F hK hS hA N (up2 (up2 (up2 (up2 σA.1 0 0 0) 0 1 0) 0 2 x1) 0 3 0, σA.2) 0 hf
theorem cf_X0_clear : cfV yX0_clear cX0_clear 3 none 1 := ⟨tm_471, tm_472, tm_58, tm_473, by decide, by decide, by decide +kernel⟩

def f_X0_setKinds (σA : St2 × (Int64)) (x1 : Int32) : (St2 × (Int64)) := (up2 σA.1 0 0 x1, σA.2)
set_option maxHeartbeats 4000000 in
set_option maxRecDepth 100000 in
theorem c_X0_setKinds {l : Launch} {D : va_G} {cy : Nat → ClassId} {g : Gs} {aA : Nat → Nat} {σA : St2 × (Int64)} {x1 : Int32} {out : (St2 × (Int64))} (hf : f_X0_setKinds σA x1 = out) : CW l D cy g yX0_setKinds cX0_setKinds 2 none 0 0 (wA aA cy σA) [.ref (aA 0), .int x1] none (wA aA cy out) := by
  unfold f_X0_setKinds at hf
  refine met_W (lv := [(0, .ref (aA 0)), (1, .int x1)]) (by decide) (Nat.le_of_ble_eq_true rfl) rfl ?_
  intro p e s m args below meth c A F hK hS hA
  refine j_aload_n (pc := 0) F 0 dX0_setKinds_0 rfl rfl ?_
  refine j_iload_n (pc := 1) F 1 dX0_setKinds_1 rfl rfl ?_
  refine jw_put (pc := 2) (w' := wA aA cy (up2 σA.1 0 0 x1, σA.2)) F hK ix_0 tyX0 tyX0_ok nmX0 0 rfl rfl 0 (by decide) tm_157 rfl rfl rfl rfl rfl (Nat.le_of_ble_eq_true rfl) (wA_put_0 _ _ _ _) dX0_setKinds_2 ?_
  have hf := hf
  subst hf
  exact j_vretW (pc := 5) F dX0_setKinds_5 rfl
theorem cf_X0_setKinds : cfV yX0_setKinds cX0_setKinds 2 none 1 := ⟨tm_567, tm_568, tm_58, tm_569, by decide, by decide, by decide +kernel⟩

def f_X0_setCalendar (σA : St2 × (Int64)) (x1 : Int32) : (St2 × (Int64)) := (up2 σA.1 0 1 x1, σA.2)
set_option maxHeartbeats 4000000 in
set_option maxRecDepth 100000 in
theorem c_X0_setCalendar {l : Launch} {D : va_G} {cy : Nat → ClassId} {g : Gs} {aA : Nat → Nat} {σA : St2 × (Int64)} {x1 : Int32} {out : (St2 × (Int64))} (hf : f_X0_setCalendar σA x1 = out) : CW l D cy g yX0_setCalendar cX0_setCalendar 2 none 0 0 (wA aA cy σA) [.ref (aA 0), .int x1] none (wA aA cy out) := by
  unfold f_X0_setCalendar at hf
  refine met_W (lv := [(0, .ref (aA 0)), (1, .int x1)]) (by decide) (Nat.le_of_ble_eq_true rfl) rfl ?_
  intro p e s m args below meth c A F hK hS hA
  refine j_aload_n (pc := 0) F 0 dX0_setCalendar_0 rfl rfl ?_
  refine j_iload_n (pc := 1) F 1 dX0_setCalendar_1 rfl rfl ?_
  refine jw_put (pc := 2) (w' := wA aA cy (up2 σA.1 0 1 x1, σA.2)) F hK ix_0 tyX0 tyX0_ok nmX0 0 rfl rfl 1 (by decide) tm_158 rfl rfl rfl rfl rfl (Nat.le_of_ble_eq_true rfl) (wA_put_1 _ _ _ _) dX0_setCalendar_2 ?_
  have hf := hf
  subst hf
  exact j_vretW (pc := 5) F dX0_setCalendar_5 rfl
theorem cf_X0_setCalendar : cfV yX0_setCalendar cX0_setCalendar 2 none 1 := ⟨tm_618, tm_619, tm_58, tm_620, by decide, by decide, by decide +kernel⟩

def f_X0_setYearZero (σA : St2 × (Int64)) (x1 : Int32) : (St2 × (Int64)) := (up2 σA.1 0 3 x1, σA.2)
set_option maxHeartbeats 4000000 in
set_option maxRecDepth 100000 in
theorem c_X0_setYearZero {l : Launch} {D : va_G} {cy : Nat → ClassId} {g : Gs} {aA : Nat → Nat} {σA : St2 × (Int64)} {x1 : Int32} {out : (St2 × (Int64))} (hf : f_X0_setYearZero σA x1 = out) : CW l D cy g yX0_setYearZero cX0_setYearZero 2 none 0 0 (wA aA cy σA) [.ref (aA 0), .int x1] none (wA aA cy out) := by
  unfold f_X0_setYearZero at hf
  refine met_W (lv := [(0, .ref (aA 0)), (1, .int x1)]) (by decide) (Nat.le_of_ble_eq_true rfl) rfl ?_
  intro p e s m args below meth c A F hK hS hA
  refine j_aload_n (pc := 0) F 0 dX0_setYearZero_0 rfl rfl ?_
  refine j_iload_n (pc := 1) F 1 dX0_setYearZero_1 rfl rfl ?_
  refine jw_put (pc := 2) (w' := wA aA cy (up2 σA.1 0 3 x1, σA.2)) F hK ix_0 tyX0 tyX0_ok nmX0 0 rfl rfl 3 (by decide) tm_160 rfl rfl rfl rfl rfl (Nat.le_of_ble_eq_true rfl) (wA_put_3 _ _ _ _) dX0_setYearZero_2 ?_
  have hf := hf
  subst hf
  exact j_vretW (pc := 5) F dX0_setYearZero_5 rfl
theorem cf_X0_setYearZero : cfV yX0_setYearZero cX0_setYearZero 2 none 1 := ⟨tm_642, tm_643, tm_58, tm_644, by decide, by decide, by decide +kernel⟩

def f_X0_setNumber (σA : St2 × (Int64)) (x1 : Int32) (x2 : Int32) : Option ((St2 × (Int64))) := if x1 < 0 then some σA else if 4 ≤ x1 then some σA else if x1 < 0 ∨ 4 ≤ Int32.toNatClampNeg x1 then none else some (up2 σA.1 5 (Int32.toNatClampNeg x1) x2, σA.2)
set_option maxHeartbeats 4000000 in
set_option maxRecDepth 100000 in
theorem c_X0_setNumber {l : Launch} {D : va_G} {cy : Nat → ClassId} {g : Gs} {aA : Nat → Nat} {σA : St2 × (Int64)} {x1 : Int32} {x2 : Int32} {out : (St2 × (Int64))} (hf : f_X0_setNumber σA x1 x2 = some out) : CW l D cy g yX0_setNumber cX0_setNumber 3 none 0 0 (wA aA cy σA) [.ref (aA 0), .int x1, .int x2] none (wA aA cy out) := by
  unfold f_X0_setNumber at hf
  refine met_W (lv := [(0, .ref (aA 0)), (1, .int x1), (2, .int x2)]) (by decide) (Nat.le_of_ble_eq_true rfl) rfl ?_
  intro p e s m args below meth c A F hK hS hA
  refine j_iload_n (pc := 0) F 1 dX0_setNumber_0 rfl rfl ?_
  refine j_if_lt (pc := 1) (tgt := 16) F dX0_setNumber_1 rfl (fun c_1 => ?_) (fun c_1 => ?_)
  · have hf := of_pos c_1 hf
    have hf := (Option.some.inj hf)
    subst hf
    exact j_vretW (pc := 16) F dX0_setNumber_16 rfl
  · have hf := of_neg c_1 hf
    refine j_iload_n (pc := 4) F 1 dX0_setNumber_4 rfl rfl ?_
    refine j_iconst (pc := 5) F (v := 4) dX0_setNumber_5 rfl ?_
    refine j_icmp_ge (pc := 6) (tgt := 16) F dX0_setNumber_6 rfl (fun c_2 => ?_) (fun c_2 => ?_)
    · have hf := of_pos c_2 hf
      have hf := (Option.some.inj hf)
      subst hf
      exact j_vretW (pc := 16) F dX0_setNumber_16 rfl
    · have hf := of_neg c_2 hf
      refine j_aload_n (pc := 9) F 0 dX0_setNumber_9 rfl rfl ?_
      refine jw_get (pc := 10) (v := .ref (aA 5)) F hK ix_0 0 rfl rfl 4 (by decide) tm_161 rfl rfl dX0_setNumber_10 ?_
      refine j_iload_n (pc := 13) F 1 dX0_setNumber_13 rfl rfl ?_
      refine j_iload_n (pc := 14) F 2 dX0_setNumber_14 rfl rfl ?_
      have c_3 : ¬ (x1 < 0 ∨ 4 ≤ Int32.toNatClampNeg x1) := fun z => by rw [if_pos z] at hf; cases hf
      have hf := of_neg c_3 hf
      refine jw_iast (pc := 15) (w' := wA aA cy (up2 σA.1 5 (Int32.toNatClampNeg x1) x2, σA.2)) F hK 1 rfl c_3 (wA_row_5 _ _ _ _ _) dX0_setNumber_15 ?_
      have hf := (Option.some.inj hf)
      subst hf
      exact j_vretW (pc := 16) F dX0_setNumber_16 rfl
theorem cf_X0_setNumber : cfV yX0_setNumber cX0_setNumber 3 none 2 := ⟨tm_600, tm_601, tm_58, tm_602, by decide, by decide, by decide +kernel⟩

def f_X0_has (σA : St2 × (Int64)) (x1 : Int32) : Option (Bool) := if x1 < 0 then some false else if 4 ≤ x1 then some false else if x1 < 0 ∨ 4 ≤ Int32.toNatClampNeg x1 then none else if (σA.1 5 (Int32.toNatClampNeg x1)) = (-1) then some false else some true
set_option maxHeartbeats 4000000 in
set_option maxRecDepth 100000 in
theorem c_X0_has {l : Launch} {D : va_G} {cy : Nat → ClassId} {g : Gs} {aA : Nat → Nat} {σA : St2 × (Int64)} {x1 : Int32} {out : Bool} (hf : f_X0_has σA x1 = some out) : CR l D cy g yX0_has cX0_has 2 (some .boolean) 0 0 (wA aA cy σA) [.ref (aA 0), .int x1] (some (.int (bI out))) := by
  unfold f_X0_has at hf
  refine met_R (lv := [(0, .ref (aA 0)), (1, .int x1)]) (by decide) (Nat.le_of_ble_eq_true rfl) rfl ?_
  intro p e s m args below meth c F hP hK hS
  refine j_iload_n (pc := 0) F 1 dX0_has_0 rfl rfl ?_
  refine j_if_lt (pc := 1) (tgt := 23) F dX0_has_1 rfl (fun c_1 => ?_) (fun c_1 => ?_)
  · have hf := of_pos c_1 hf
    refine j_iconst (pc := 23) F (v := 0) dX0_has_23 rfl ?_
    exact j_zretR (pc := 24) F dX0_has_24 (congrArg bI (Option.some.inj hf))
  · have hf := of_neg c_1 hf
    refine j_iload_n (pc := 4) F 1 dX0_has_4 rfl rfl ?_
    refine j_iconst (pc := 5) F (v := 4) dX0_has_5 rfl ?_
    refine j_icmp_ge (pc := 6) (tgt := 23) F dX0_has_6 rfl (fun c_2 => ?_) (fun c_2 => ?_)
    · have hf := of_pos c_2 hf
      refine j_iconst (pc := 23) F (v := 0) dX0_has_23 rfl ?_
      exact j_zretR (pc := 24) F dX0_has_24 (congrArg bI (Option.some.inj hf))
    · have hf := of_neg c_2 hf
      refine j_aload_n (pc := 9) F 0 dX0_has_9 rfl rfl ?_
      refine jr_get (pc := 10) (v := .ref (aA 5)) F hK hP ix_0 0 rfl rfl 4 (by decide) tm_161 rfl rfl dX0_has_10 ?_
      refine j_iload_n (pc := 13) F 1 dX0_has_13 rfl rfl ?_
      have c_3 : ¬ (x1 < 0 ∨ 4 ≤ Int32.toNatClampNeg x1) := fun z => by rw [if_pos z] at hf; cases hf
      have hf := of_neg c_3 hf
      refine jr_iald (pc := 14) F hK hP 1 rfl c_3 dX0_has_14 ?_
      refine j_iconst (pc := 15) F (v := (-1)) dX0_has_15 rfl ?_
      refine j_icmp_eq (pc := 16) (tgt := 23) F dX0_has_16 rfl (fun c_4 => ?_) (fun c_4 => ?_)
      · have hf := of_pos c_4 hf
        refine j_iconst (pc := 23) F (v := 0) dX0_has_23 rfl ?_
        exact j_zretR (pc := 24) F dX0_has_24 (congrArg bI (Option.some.inj hf))
      · have hf := of_neg c_4 hf
        refine j_iconst (pc := 19) F (v := 1) dX0_has_19 rfl ?_
        refine j_goto (pc := 20) F (tgt := 24) dX0_has_20 rfl ?_
        exact j_zretR (pc := 24) F dX0_has_24 (congrArg bI (Option.some.inj hf))
theorem cf_X0_has : cfV yX0_has cX0_has 2 (some .boolean) 1 := ⟨tm_588, tm_589, tm_58, tm_590, by decide, by decide, by decide +kernel⟩

def f_X0_hoursAt (σA : St2 × (Int64)) (x1 : Int32) (x2 : Int32) : Option (Int32) := (f_J9_floorDiv_7cf53 (f_X5_minuteSeen x1 (σA.1 0 2) x2) 60).bind fun o_2 => some o_2
set_option maxHeartbeats 4000000 in
set_option maxRecDepth 100000 in
theorem c_X0_hoursAt {l : Launch} {D : va_G} {cy : Nat → ClassId} {g : Gs} {aA : Nat → Nat} {σA : St2 × (Int64)} {x1 : Int32} {x2 : Int32} {out : Int32} (hf : f_X0_hoursAt σA x1 x2 = some out) : CR l D cy g yX0_hoursAt cX0_hoursAt 3 (some .int) 1 23 (wA aA cy σA) [.ref (aA 0), .int x1, .int x2] (some (.int out)) := by
  unfold f_X0_hoursAt at hf
  refine met_R (lv := [(0, .ref (aA 0)), (1, .int x1), (2, .int x2)]) (by decide) (Nat.le_of_ble_eq_true rfl) rfl ?_
  intro p e s m args below meth c F hP hK hS
  refine j_iload_n (pc := 0) F 1 dX0_hoursAt_0 rfl rfl ?_
  refine j_aload_n (pc := 1) F 0 dX0_hoursAt_1 rfl rfl ?_
  refine jr_get (pc := 2) (v := .int (σA.1 0 2)) F hK hP ix_0 0 rfl rfl 2 (by decide) tm_159 rfl rfl dX0_hoursAt_2 ?_
  refine j_iload_n (pc := 5) F 2 dX0_hoursAt_5 rfl rfl ?_
  refine j_callRS (pc := 6) (st := []) (st1 := [.int (f_X5_minuteSeen x1 (σA.1 0 2) x2)]) F hK (hpR hP hS hp_nil) (c_X5_minuteSeen (l := l) (D := D) (cy := cy) (g := g) (rfl : f_X5_minuteSeen x1 (σA.1 0 2) x2 = _)) tm_703 cf_X5_minuteSeen (Nat.le_of_ble_eq_true rfl) (Nat.le_of_ble_eq_true rfl) ⟨Nat.zero_le _, Nat.zero_le _⟩ rfl rfl (Nat.le_of_ble_eq_true rfl) rfl dX0_hoursAt_6 ?_
  refine j_bipush (pc := 9) F (v := 60) dX0_hoursAt_9 rfl ?_
  obtain ⟨o_2, ho_2, hf⟩ := of_bnd hf
  refine j_callRS (pc := 11) (st := []) (st1 := [.int o_2]) F hK (hpR hP hS hp_nil) (c_J9_floorDiv_7cf53 (l := l) (D := D) (cy := cy) (g := g) ho_2) tm_704 cf_J9_floorDiv_7cf53 (Nat.le_of_ble_eq_true rfl) (Nat.le_of_ble_eq_true rfl) ⟨Nat.zero_le _, Nat.zero_le _⟩ rfl rfl (Nat.le_of_ble_eq_true rfl) rfl dX0_hoursAt_11 ?_
  exact j_iretR (pc := 14) F dX0_hoursAt_14 (Option.some.inj hf)
theorem cf_X0_hoursAt : cfV yX0_hoursAt cX0_hoursAt 3 (some .int) 2 := ⟨tm_701, tm_22, tm_58, tm_702, by decide, by decide, by decide +kernel⟩

def f_X0_isSeenAt_28 (y1 : Int32) (t0 : Int32) : Bool := if t0 = y1 then true else false
def f_X0_isSeenAt_27 (y1 : Int32) : Bool := f_X0_isSeenAt_28 y1 0
def f_X0_isSeenAt (x0 : Int32) (x1 : Int32) : Bool := if 0 ≤ x0 then if (x0 - x0 / 24 * 24) < 6 then f_X0_isSeenAt_27 x1 else if 17 < (x0 - x0 / 24 * 24) then f_X0_isSeenAt_27 x1 else f_X0_isSeenAt_28 x1 1 else false
set_option maxHeartbeats 4000000 in
set_option maxRecDepth 100000 in
theorem b_X0_isSeenAt_28 {l : Launch} {D : va_G} {cy : Nat → ClassId} {g : Gs} {p : Program} {e : Env} {s : State} {m : MethodId} {args : Array Value} {below : List Frame} {meth : Method} {c : Code} {out : Bool} (F : Fx p s m args meth c cX0_isSeenAt RX0 4 (some .boolean)) (hP : va_P D vwCl ([]) s.heap) (hK : va_K D vwCl (tys cy) s) (hS : St g nA s s.heap) :
    ∀ (y1 : Int32) (t0 : Int32), f_X0_isSeenAt_28 y1 t0 = out → J p l e { frames := 0, cells := 0, slots := 0, locals := 0 } s m args below meth c 4 (hR s) 0 0 (MQ below (QR (some (.int (bI out)))) args s 0 0 nA) 28 [(1, .int y1)] [.int t0] := by
  intro y1 t0 hf
  unfold f_X0_isSeenAt_28 at hf
  refine j_istore_n (pc := 28) (lv' := [(3, .int t0), (1, .int y1)]) F dX0_isSeenAt_28 rfl (by decide) rfl ?_
  refine j_iload_n (pc := 29) F 0 dX0_isSeenAt_29 rfl rfl ?_
  refine j_iload_n (pc := 30) F 1 dX0_isSeenAt_30 rfl rfl ?_
  refine j_icmp_ne (pc := 31) (tgt := 38) F dX0_isSeenAt_31 rfl (fun c_1 => ?_) (fun c_1 => ?_)
  · have hf := of_neg c_1 hf
    refine j_iconst (pc := 38) F (v := 0) dX0_isSeenAt_38 rfl ?_
    exact j_zretR (pc := 39) F dX0_isSeenAt_39 (congrArg bI hf)
  · have hf := of_pos c_1 hf
    refine j_iconst (pc := 34) F (v := 1) dX0_isSeenAt_34 rfl ?_
    refine j_goto (pc := 35) F (tgt := 39) dX0_isSeenAt_35 rfl ?_
    exact j_zretR (pc := 39) F dX0_isSeenAt_39 (congrArg bI hf)
set_option maxHeartbeats 4000000 in
set_option maxRecDepth 100000 in
theorem b_X0_isSeenAt_27 {l : Launch} {D : va_G} {cy : Nat → ClassId} {g : Gs} {p : Program} {e : Env} {s : State} {m : MethodId} {args : Array Value} {below : List Frame} {meth : Method} {c : Code} {out : Bool} (F : Fx p s m args meth c cX0_isSeenAt RX0 4 (some .boolean)) (hP : va_P D vwCl ([]) s.heap) (hK : va_K D vwCl (tys cy) s) (hS : St g nA s s.heap) :
    ∀ (y1 : Int32), f_X0_isSeenAt_27 y1 = out → J p l e { frames := 0, cells := 0, slots := 0, locals := 0 } s m args below meth c 4 (hR s) 0 0 (MQ below (QR (some (.int (bI out)))) args s 0 0 nA) 27 [(1, .int y1)] [] := by
  intro y1 hf
  unfold f_X0_isSeenAt_27 at hf
  refine j_iconst (pc := 27) F (v := 0) dX0_isSeenAt_27 rfl ?_
  exact b_X0_isSeenAt_28 F hP hK hS y1 0 hf
set_option maxHeartbeats 4000000 in
set_option maxRecDepth 100000 in
theorem c_X0_isSeenAt {l : Launch} {D : va_G} {cy : Nat → ClassId} {g : Gs} {x0 : Int32} {x1 : Int32} {out : Bool} (hf : f_X0_isSeenAt x0 x1 = out) : CR l D cy g yX0_isSeenAt cX0_isSeenAt 4 (some .boolean) 0 0 ([]) [.int x0, .int x1] (some (.int (bI out))) := by
  unfold f_X0_isSeenAt at hf
  refine met_R (lv := [(0, .int x0), (1, .int x1)]) (by decide) (Nat.le_of_ble_eq_true rfl) rfl ?_
  intro p e s m args below meth c F hP hK hS
  refine j_iload_n (pc := 0) F 0 dX0_isSeenAt_0 rfl rfl ?_
  refine j_if_ge (pc := 1) (tgt := 6) F dX0_isSeenAt_1 rfl (fun c_1 => ?_) (fun c_1 => ?_)
  · have hf := of_pos c_1 hf
    refine j_iload_n (pc := 6) F 0 dX0_isSeenAt_6 rfl rfl ?_
    refine j_bipush (pc := 7) F (v := 24) dX0_isSeenAt_7 rfl ?_
    refine j_irem (pc := 9) F dX0_isSeenAt_9 (by decide) ?_
    refine j_istore_n (pc := 10) (lv' := [(2, .int (x0 - x0 / 24 * 24)), (0, .int x0), (1, .int x1)]) F dX0_isSeenAt_10 rfl (by decide) rfl ?_
    refine j_iload_n (pc := 11) F 0 dX0_isSeenAt_11 rfl rfl ?_
    refine j_bipush (pc := 12) F (v := 6) dX0_isSeenAt_12 rfl ?_
    refine j_icmp_lt (pc := 14) (tgt := 27) F dX0_isSeenAt_14 rfl (fun c_2 => ?_) (fun c_2 => ?_)
    · have hf := of_pos c_2 hf
      refine j_sub [2] rfl ?_
      exact b_X0_isSeenAt_27 F hP hK hS x1 hf
    · have hf := of_neg c_2 hf
      refine j_iload_n (pc := 17) F 0 dX0_isSeenAt_17 rfl rfl ?_
      refine j_bipush (pc := 18) F (v := 17) dX0_isSeenAt_18 rfl ?_
      refine j_icmp_gt (pc := 20) (tgt := 27) F dX0_isSeenAt_20 rfl (fun c_3 => ?_) (fun c_3 => ?_)
      · have hf := of_pos c_3 hf
        refine j_sub [2] rfl ?_
        exact b_X0_isSeenAt_27 F hP hK hS x1 hf
      · have hf := of_neg c_3 hf
        refine j_iconst (pc := 23) F (v := 1) dX0_isSeenAt_23 rfl ?_
        refine j_goto (pc := 24) F (tgt := 28) dX0_isSeenAt_24 rfl ?_
        refine j_sub [2] rfl ?_
        exact b_X0_isSeenAt_28 F hP hK hS x1 1 hf
  · have hf := of_neg c_1 hf
    refine j_iconst (pc := 4) F (v := 0) dX0_isSeenAt_4 rfl ?_
    exact j_zretR (pc := 5) F dX0_isSeenAt_5 (congrArg bI hf)
theorem cf_X0_isSeenAt : cfS yX0_isSeenAt cX0_isSeenAt 4 (some .boolean) 2 := ⟨tm_714, tm_58, tm_715, by decide, by decide, by decide +kernel⟩

def f_X0_canTell (x0 : Int32) : Bool := if x0 < 0 then false else if 999 < x0 then false else true
set_option maxHeartbeats 4000000 in
set_option maxRecDepth 100000 in
theorem c_X0_canTell {l : Launch} {D : va_G} {cy : Nat → ClassId} {g : Gs} {x0 : Int32} {out : Bool} (hf : f_X0_canTell x0 = out) : CR l D cy g yX0_canTell cX0_canTell 1 (some .boolean) 0 0 ([]) [.int x0] (some (.int (bI out))) := by
  unfold f_X0_canTell at hf
  refine met_R (lv := [(0, .int x0)]) (by decide) (Nat.le_of_ble_eq_true rfl) rfl ?_
  intro p e s m args below meth c F hP hK hS
  refine j_iload_n (pc := 0) F 0 dX0_canTell_0 rfl rfl ?_
  refine j_if_lt (pc := 1) (tgt := 15) F dX0_canTell_1 rfl (fun c_1 => ?_) (fun c_1 => ?_)
  · have hf := of_pos c_1 hf
    refine j_iconst (pc := 15) F (v := 0) dX0_canTell_15 rfl ?_
    exact j_zretR (pc := 16) F dX0_canTell_16 (congrArg bI hf)
  · have hf := of_neg c_1 hf
    refine j_iload_n (pc := 4) F 0 dX0_canTell_4 rfl rfl ?_
    refine j_sipush (pc := 5) F (v := 999) dX0_canTell_5 rfl ?_
    refine j_icmp_gt (pc := 8) (tgt := 15) F dX0_canTell_8 rfl (fun c_2 => ?_) (fun c_2 => ?_)
    · have hf := of_pos c_2 hf
      refine j_iconst (pc := 15) F (v := 0) dX0_canTell_15 rfl ?_
      exact j_zretR (pc := 16) F dX0_canTell_16 (congrArg bI hf)
    · have hf := of_neg c_2 hf
      refine j_iconst (pc := 11) F (v := 1) dX0_canTell_11 rfl ?_
      refine j_goto (pc := 12) F (tgt := 16) dX0_canTell_12 rfl ?_
      exact j_zretR (pc := 16) F dX0_canTell_16 (congrArg bI hf)
theorem cf_X0_canTell : cfS yX0_canTell cX0_canTell 1 (some .boolean) 1 := ⟨tm_727, tm_58, tm_728, by decide, by decide, by decide +kernel⟩

def f_X0_slipOf (σA : St2 × (Int64)) (x1 : Int32) (x2 : Int32) : Option (Int32) := (f_X0_has σA x1).bind fun o_1 => if (bI o_1) = 0 then some 0 else if x1 < 0 ∨ 4 ≤ Int32.toNatClampNeg x1 then none else if (σA.1 5 (Int32.toNatClampNeg x1)) = x2 then some 0 else some 1
set_option maxHeartbeats 4000000 in
set_option maxRecDepth 100000 in
theorem c_X0_slipOf {l : Launch} {D : va_G} {cy : Nat → ClassId} {g : Gs} {aA : Nat → Nat} {σA : St2 × (Int64)} {x1 : Int32} {x2 : Int32} {out : Int32} (hf : f_X0_slipOf σA x1 x2 = some out) : CR l D cy g yX0_slipOf cX0_slipOf 3 (some .int) 1 21 (wA aA cy σA) [.ref (aA 0), .int x1, .int x2] (some (.int out)) := by
  unfold f_X0_slipOf at hf
  refine met_R (lv := [(0, .ref (aA 0)), (1, .int x1), (2, .int x2)]) (by decide) (Nat.le_of_ble_eq_true rfl) rfl ?_
  intro p e s m args below meth c F hP hK hS
  refine j_aload_n (pc := 0) F 0 dX0_slipOf_0 rfl rfl ?_
  refine j_iload_n (pc := 1) F 1 dX0_slipOf_1 rfl rfl ?_
  obtain ⟨o_1, ho_1, hf⟩ := of_bnd hf
  refine j_callRV (pc := 2) (st := []) (st1 := [.int (bI o_1)]) F hK (hpR hP hS hp_id) (c_X0_has (l := l) (D := D) (cy := cy) (g := g) (aA := aA) ho_1) tm_724 cf_X0_has (Nat.le_of_ble_eq_true rfl) (Nat.le_of_ble_eq_true rfl) ⟨Nat.zero_le _, Nat.zero_le _⟩ 0 rfl rfl rfl rfl rfl (Nat.le_of_ble_eq_true rfl) rfl dX0_slipOf_2 ?_
  refine j_if_eq (pc := 5) (tgt := 18) F dX0_slipOf_5 rfl (fun c_2 => ?_) (fun c_2 => ?_)
  · have hf := of_pos c_2 hf
    refine j_iconst (pc := 18) F (v := 0) dX0_slipOf_18 rfl ?_
    refine j_goto (pc := 19) F (tgt := 23) dX0_slipOf_19 rfl ?_
    exact j_iretR (pc := 23) F dX0_slipOf_23 (Option.some.inj hf)
  · have hf := of_neg c_2 hf
    refine j_aload_n (pc := 8) F 0 dX0_slipOf_8 rfl rfl ?_
    refine jr_get (pc := 9) (v := .ref (aA 5)) F hK hP ix_0 0 rfl rfl 4 (by decide) tm_161 rfl rfl dX0_slipOf_9 ?_
    refine j_iload_n (pc := 12) F 1 dX0_slipOf_12 rfl rfl ?_
    have c_3 : ¬ (x1 < 0 ∨ 4 ≤ Int32.toNatClampNeg x1) := fun z => by rw [if_pos z] at hf; cases hf
    have hf := of_neg c_3 hf
    refine jr_iald (pc := 13) F hK hP 1 rfl c_3 dX0_slipOf_13 ?_
    refine j_iload_n (pc := 14) F 2 dX0_slipOf_14 rfl rfl ?_
    refine j_icmp_ne (pc := 15) (tgt := 22) F dX0_slipOf_15 rfl (fun c_4 => ?_) (fun c_4 => ?_)
    · have hf := of_neg c_4 hf
      refine j_iconst (pc := 22) F (v := 1) dX0_slipOf_22 rfl ?_
      exact j_iretR (pc := 23) F dX0_slipOf_23 (Option.some.inj hf)
    · have hf := of_pos c_4 hf
      refine j_iconst (pc := 18) F (v := 0) dX0_slipOf_18 rfl ?_
      refine j_goto (pc := 19) F (tgt := 23) dX0_slipOf_19 rfl ?_
      exact j_iretR (pc := 23) F dX0_slipOf_23 (Option.some.inj hf)
theorem cf_X0_slipOf : cfV yX0_slipOf cX0_slipOf 3 (some .int) 2 := ⟨tm_722, tm_24, tm_58, tm_723, by decide, by decide, by decide +kernel⟩

def f_X0_slipsAt_119 (N : Nat) (σA : St2 × (Int64)) (y3 : Int32) (y4 : Int32) (y5 : Int32) : Option (Int32) := (f_X2_monthDayOf N (σA.1 0 1) y5 y4).bind fun o_1 => (f_X0_slipOf σA 1 (f_X2_monthIn o_1)).bind fun o_3 => (f_X0_slipOf σA 2 (f_X2_dayIn o_1)).bind fun o_5 => some ((y3 + o_3) + o_5)
def f_X0_slipsAt_81 (N : Nat) (σA : St2 × (Int64)) (y2 : Int32) (y3 : Int32) (y4 : Int32) (y5 : Int32) : Option (Int32) := (f_X0_slipOf σA 0 (y5 - (σA.1 0 3))).bind fun o_1 => if y2 < (y3 + o_1) then some (y3 + o_1) else (f_X0_has σA 1).bind fun o_3 => if (bI o_3) = 0 then (f_X0_has σA 2).bind fun o_5 => if (bI o_5) = 0 then some (y3 + o_1) else f_X0_slipsAt_119 N σA (y3 + o_1) y4 y5 else f_X0_slipsAt_119 N σA (y3 + o_1) y4 y5
def f_X0_slipsAt_41 (N : Nat) (σA : St2 × (Int64)) (y1 : Int32) (y2 : Int32) (y3 : Int32) : Option (Int32) := (f_X0_has σA 0).bind fun o_2 => if (bI o_2) = 0 then f_X0_slipsAt_81 N σA y2 y3 (y1 / 24) (f_X2_yearOf (σA.1 0 1) (y1 / 24)) else if (bI (f_X0_canTell ((f_X2_yearOf (σA.1 0 1) (y1 / 24)) - (σA.1 0 3)))) = 0 then some 5 else f_X0_slipsAt_81 N σA y2 y3 (y1 / 24) (f_X2_yearOf (σA.1 0 1) (y1 / 24))
def f_X0_slipsAt (N : Nat) (σA : St2 × (Int64)) (x1 : Int32) (x2 : Int32) : Option (Int32) := (f_X0_slipOf σA 3 (x1 - x1 / 24 * 24)).bind fun o_1 => if x2 < o_1 then some o_1 else (f_X0_has σA 0).bind fun o_3 => if (bI o_3) = 0 then (f_X0_has σA 1).bind fun o_5 => if (bI o_5) = 0 then (f_X0_has σA 2).bind fun o_7 => if (bI o_7) = 0 then some o_1 else f_X0_slipsAt_41 N σA x1 x2 o_1 else f_X0_slipsAt_41 N σA x1 x2 o_1 else f_X0_slipsAt_41 N σA x1 x2 o_1
set_option maxHeartbeats 4000000 in
set_option maxRecDepth 100000 in
theorem b_X0_slipsAt_119 {l : Launch} {D : va_G} {cy : Nat → ClassId} {g : Gs} {p : Program} {e : Env} {s : State} {m : MethodId} {args : Array Value} {below : List Frame} {meth : Method} {c : Code} {aA : Nat → Nat} {σA : St2 × (Int64)} {N : Nat} {out : Int32} (F : Fx p s m args meth c cX0_slipsAt RX0 7 (some .int)) (hP : va_P D vwCl (wA aA cy σA) s.heap) (hK : va_K D vwCl (tys cy) s) (hS : St g nA s s.heap) :
    ∀ (y3 : Int32) (y4 : Int32) (y5 : Int32), f_X0_slipsAt_119 N σA y3 y4 y5 = some out → J p l e { frames := 2, cells := 0, slots := 0, locals := 47 } s m args below meth c 7 (hR s) 0 0 (MQ below (QR (some (.int out))) args s 0 0 nA) 119 [(0, .ref (aA 0)), (3, .int y3), (4, .int y4), (5, .int y5)] [] := by
  intro y3 y4 y5 hf
  unfold f_X0_slipsAt_119 at hf
  refine j_aload_n (pc := 119) F 0 dX0_slipsAt_119 rfl rfl ?_
  refine jr_get (pc := 120) (v := .int (σA.1 0 1)) F hK hP ix_0 0 rfl rfl 1 (by decide) tm_158 rfl rfl dX0_slipsAt_120 ?_
  refine j_iload (pc := 123) F 3 dX0_slipsAt_123 rfl ?_
  refine j_iload (pc := 125) F 2 dX0_slipsAt_125 rfl ?_
  obtain ⟨o_1, ho_1, hf⟩ := of_bnd hf
  refine j_callRS (pc := 127) (st := []) (st1 := [.int o_1]) F hK (hpR hP hS hp_nil) (c_X2_monthDayOf (l := l) (D := D) (cy := cy) (g := g) ho_1) tm_729 cf_X2_monthDayOf (Nat.le_of_ble_eq_true rfl) (Nat.le_of_ble_eq_true rfl) ⟨Nat.zero_le _, Nat.zero_le _⟩ rfl rfl (Nat.le_of_ble_eq_true rfl) rfl dX0_slipsAt_127 ?_
  refine j_istore (pc := 130) (lv' := [(6, .int o_1), (0, .ref (aA 0)), (3, .int y3), (4, .int y4), (5, .int y5)]) F dX0_slipsAt_130 (by decide) rfl ?_
  refine j_iload_n (pc := 132) F 2 dX0_slipsAt_132 rfl rfl ?_
  refine j_aload_n (pc := 133) F 1 dX0_slipsAt_133 rfl rfl ?_
  refine j_iconst (pc := 134) F (v := 1) dX0_slipsAt_134 rfl ?_
  refine j_iload (pc := 135) F 0 dX0_slipsAt_135 rfl ?_
  refine j_callRS (pc := 137) (st := [.int 1, .ref (aA 0), .int y3]) (st1 := [.int (f_X2_monthIn o_1), .int 1, .ref (aA 0), .int y3]) F hK (hpR hP hS hp_nil) (c_X2_monthIn (l := l) (D := D) (cy := cy) (g := g) (rfl : f_X2_monthIn o_1 = _)) tm_730 cf_X2_monthIn (Nat.le_of_ble_eq_true rfl) (Nat.le_of_ble_eq_true rfl) ⟨Nat.zero_le _, Nat.zero_le _⟩ rfl rfl (Nat.le_of_ble_eq_true rfl) rfl dX0_slipsAt_137 ?_
  obtain ⟨o_3, ho_3, hf⟩ := of_bnd hf
  refine j_callRV (pc := 140) (st := [.int y3]) (st1 := [.int o_3, .int y3]) F hK (hpR hP hS hp_id) (c_X0_slipOf (l := l) (D := D) (cy := cy) (g := g) (aA := aA) ho_3) tm_720 cf_X0_slipOf (Nat.le_of_ble_eq_true rfl) (Nat.le_of_ble_eq_true rfl) ⟨Nat.zero_le _, Nat.zero_le _⟩ 0 rfl rfl rfl rfl rfl (Nat.le_of_ble_eq_true rfl) rfl dX0_slipsAt_140 ?_
  refine j_iadd (pc := 143) F dX0_slipsAt_143 ?_
  refine j_aload_n (pc := 144) F 1 dX0_slipsAt_144 rfl rfl ?_
  refine j_iconst (pc := 145) F (v := 2) dX0_slipsAt_145 rfl ?_
  refine j_iload (pc := 146) F 0 dX0_slipsAt_146 rfl ?_
  refine j_callRS (pc := 148) (st := [.int 2, .ref (aA 0), .int (y3 + o_3)]) (st1 := [.int (f_X2_dayIn o_1), .int 2, .ref (aA 0), .int (y3 + o_3)]) F hK (hpR hP hS hp_nil) (c_X2_dayIn (l := l) (D := D) (cy := cy) (g := g) (rfl : f_X2_dayIn o_1 = _)) tm_731 cf_X2_dayIn (Nat.le_of_ble_eq_true rfl) (Nat.le_of_ble_eq_true rfl) ⟨Nat.zero_le _, Nat.zero_le _⟩ rfl rfl (Nat.le_of_ble_eq_true rfl) rfl dX0_slipsAt_148 ?_
  obtain ⟨o_5, ho_5, hf⟩ := of_bnd hf
  refine j_callRV (pc := 151) (st := [.int (y3 + o_3)]) (st1 := [.int o_5, .int (y3 + o_3)]) F hK (hpR hP hS hp_id) (c_X0_slipOf (l := l) (D := D) (cy := cy) (g := g) (aA := aA) ho_5) tm_720 cf_X0_slipOf (Nat.le_of_ble_eq_true rfl) (Nat.le_of_ble_eq_true rfl) ⟨Nat.zero_le _, Nat.zero_le _⟩ 0 rfl rfl rfl rfl rfl (Nat.le_of_ble_eq_true rfl) rfl dX0_slipsAt_151 ?_
  refine j_iadd (pc := 154) F dX0_slipsAt_154 ?_
  exact j_iretR (pc := 155) F dX0_slipsAt_155 (Option.some.inj hf)
set_option maxHeartbeats 4000000 in
set_option maxRecDepth 100000 in
theorem b_X0_slipsAt_81 {l : Launch} {D : va_G} {cy : Nat → ClassId} {g : Gs} {p : Program} {e : Env} {s : State} {m : MethodId} {args : Array Value} {below : List Frame} {meth : Method} {c : Code} {aA : Nat → Nat} {σA : St2 × (Int64)} {N : Nat} {out : Int32} (F : Fx p s m args meth c cX0_slipsAt RX0 7 (some .int)) (hP : va_P D vwCl (wA aA cy σA) s.heap) (hK : va_K D vwCl (tys cy) s) (hS : St g nA s s.heap) :
    ∀ (y2 : Int32) (y3 : Int32) (y4 : Int32) (y5 : Int32), f_X0_slipsAt_81 N σA y2 y3 y4 y5 = some out → J p l e { frames := 2, cells := 0, slots := 0, locals := 47 } s m args below meth c 7 (hR s) 0 0 (MQ below (QR (some (.int out))) args s 0 0 nA) 81 [(0, .ref (aA 0)), (2, .int y2), (3, .int y3), (4, .int y4), (5, .int y5)] [] := by
  intro y2 y3 y4 y5 hf
  unfold f_X0_slipsAt_81 at hf
  refine j_iload_n (pc := 81) F 2 dX0_slipsAt_81 rfl rfl ?_
  refine j_aload_n (pc := 82) F 0 dX0_slipsAt_82 rfl rfl ?_
  refine j_iconst (pc := 83) F (v := 0) dX0_slipsAt_83 rfl ?_
  refine j_iload (pc := 84) F 4 dX0_slipsAt_84 rfl ?_
  refine j_aload_n (pc := 86) F 0 dX0_slipsAt_86 rfl rfl ?_
  refine jr_get (pc := 87) (v := .int (σA.1 0 3)) F hK hP ix_0 0 rfl rfl 3 (by decide) tm_160 rfl rfl dX0_slipsAt_87 ?_
  refine j_isub (pc := 90) F dX0_slipsAt_90 ?_
  obtain ⟨o_1, ho_1, hf⟩ := of_bnd hf
  refine j_callRV (pc := 91) (st := [.int y3]) (st1 := [.int o_1, .int y3]) F hK (hpR hP hS hp_id) (c_X0_slipOf (l := l) (D := D) (cy := cy) (g := g) (aA := aA) ho_1) tm_720 cf_X0_slipOf (Nat.le_of_ble_eq_true rfl) (Nat.le_of_ble_eq_true rfl) ⟨Nat.zero_le _, Nat.zero_le _⟩ 0 rfl rfl rfl rfl rfl (Nat.le_of_ble_eq_true rfl) rfl dX0_slipsAt_91 ?_
  refine j_iadd (pc := 94) F dX0_slipsAt_94 ?_
  refine j_istore_n (pc := 95) (lv' := [(3, .int (y3 + o_1)), (0, .ref (aA 0)), (2, .int y2), (4, .int y4), (5, .int y5)]) F dX0_slipsAt_95 rfl (by decide) rfl ?_
  refine j_iload_n (pc := 96) F 0 dX0_slipsAt_96 rfl rfl ?_
  refine j_iload_n (pc := 97) F 2 dX0_slipsAt_97 rfl rfl ?_
  refine j_icmp_gt (pc := 98) (tgt := 117) F dX0_slipsAt_98 rfl (fun c_2 => ?_) (fun c_2 => ?_)
  · have hf := of_pos c_2 hf
    refine j_iload_n (pc := 117) F 0 dX0_slipsAt_117 rfl rfl ?_
    exact j_iretR (pc := 118) F dX0_slipsAt_118 (Option.some.inj hf)
  · have hf := of_neg c_2 hf
    refine j_aload_n (pc := 101) F 1 dX0_slipsAt_101 rfl rfl ?_
    refine j_iconst (pc := 102) F (v := 1) dX0_slipsAt_102 rfl ?_
    obtain ⟨o_3, ho_3, hf⟩ := of_bnd hf
    refine j_callRV (pc := 103) (st := []) (st1 := [.int (bI o_3)]) F hK (hpR hP hS hp_id) (c_X0_has (l := l) (D := D) (cy := cy) (g := g) (aA := aA) ho_3) tm_724 cf_X0_has (Nat.le_of_ble_eq_true rfl) (Nat.le_of_ble_eq_true rfl) ⟨Nat.zero_le _, Nat.zero_le _⟩ 0 rfl rfl rfl rfl rfl (Nat.le_of_ble_eq_true rfl) rfl dX0_slipsAt_103 ?_
    refine j_if_ne (pc := 106) (tgt := 119) F dX0_slipsAt_106 rfl (fun c_4 => ?_) (fun c_4 => ?_)
    · have hf := of_neg c_4 hf
      refine j_sub [1, 0, 3, 4] rfl ?_
      exact b_X0_slipsAt_119 F hP hK hS (y3 + o_1) y4 y5 hf
    · have hf := of_pos c_4 hf
      refine j_aload_n (pc := 109) F 1 dX0_slipsAt_109 rfl rfl ?_
      refine j_iconst (pc := 110) F (v := 2) dX0_slipsAt_110 rfl ?_
      obtain ⟨o_5, ho_5, hf⟩ := of_bnd hf
      refine j_callRV (pc := 111) (st := []) (st1 := [.int (bI o_5)]) F hK (hpR hP hS hp_id) (c_X0_has (l := l) (D := D) (cy := cy) (g := g) (aA := aA) ho_5) tm_724 cf_X0_has (Nat.le_of_ble_eq_true rfl) (Nat.le_of_ble_eq_true rfl) ⟨Nat.zero_le _, Nat.zero_le _⟩ 0 rfl rfl rfl rfl rfl (Nat.le_of_ble_eq_true rfl) rfl dX0_slipsAt_111 ?_
      refine j_if_ne (pc := 114) (tgt := 119) F dX0_slipsAt_114 rfl (fun c_6 => ?_) (fun c_6 => ?_)
      · have hf := of_neg c_6 hf
        refine j_sub [1, 0, 3, 4] rfl ?_
        exact b_X0_slipsAt_119 F hP hK hS (y3 + o_1) y4 y5 hf
      · have hf := of_pos c_6 hf
        refine j_iload_n (pc := 117) F 0 dX0_slipsAt_117 rfl rfl ?_
        exact j_iretR (pc := 118) F dX0_slipsAt_118 (Option.some.inj hf)
set_option maxHeartbeats 4000000 in
set_option maxRecDepth 100000 in
theorem b_X0_slipsAt_41 {l : Launch} {D : va_G} {cy : Nat → ClassId} {g : Gs} {p : Program} {e : Env} {s : State} {m : MethodId} {args : Array Value} {below : List Frame} {meth : Method} {c : Code} {aA : Nat → Nat} {σA : St2 × (Int64)} {N : Nat} {out : Int32} (F : Fx p s m args meth c cX0_slipsAt RX0 7 (some .int)) (hP : va_P D vwCl (wA aA cy σA) s.heap) (hK : va_K D vwCl (tys cy) s) (hS : St g nA s s.heap) :
    ∀ (y1 : Int32) (y2 : Int32) (y3 : Int32), f_X0_slipsAt_41 N σA y1 y2 y3 = some out → J p l e { frames := 2, cells := 0, slots := 0, locals := 47 } s m args below meth c 7 (hR s) 0 0 (MQ below (QR (some (.int out))) args s 0 0 nA) 41 [(0, .ref (aA 0)), (1, .int y1), (2, .int y2), (3, .int y3)] [] := by
  intro y1 y2 y3 hf
  unfold f_X0_slipsAt_41 at hf
  refine j_iload_n (pc := 41) F 1 dX0_slipsAt_41 rfl rfl ?_
  refine j_bipush (pc := 42) F (v := 24) dX0_slipsAt_42 rfl ?_
  refine j_idiv (pc := 44) F dX0_slipsAt_44 (by decide) ?_
  refine j_istore (pc := 45) (lv' := [(4, .int (y1 / 24)), (0, .ref (aA 0)), (1, .int y1), (2, .int y2), (3, .int y3)]) F dX0_slipsAt_45 (by decide) rfl ?_
  refine j_aload_n (pc := 47) F 1 dX0_slipsAt_47 rfl rfl ?_
  refine jr_get (pc := 48) (v := .int (σA.1 0 1)) F hK hP ix_0 0 rfl rfl 1 (by decide) tm_158 rfl rfl dX0_slipsAt_48 ?_
  refine j_iload (pc := 51) F 0 dX0_slipsAt_51 rfl ?_
  refine j_callRS (pc := 53) (st := []) (st1 := [.int (f_X2_yearOf (σA.1 0 1) (y1 / 24))]) F hK (hpR hP hS hp_nil) (c_X2_yearOf (l := l) (D := D) (cy := cy) (g := g) (rfl : f_X2_yearOf (σA.1 0 1) (y1 / 24) = _)) tm_725 cf_X2_yearOf (Nat.le_of_ble_eq_true rfl) (Nat.le_of_ble_eq_true rfl) ⟨Nat.zero_le _, Nat.zero_le _⟩ rfl rfl (Nat.le_of_ble_eq_true rfl) rfl dX0_slipsAt_53 ?_
  refine j_istore (pc := 56) (lv' := [(5, .int (f_X2_yearOf (σA.1 0 1) (y1 / 24))), (4, .int (y1 / 24)), (0, .ref (aA 0)), (1, .int y1), (2, .int y2), (3, .int y3)]) F dX0_slipsAt_56 (by decide) rfl ?_
  refine j_aload_n (pc := 58) F 2 dX0_slipsAt_58 rfl rfl ?_
  refine j_iconst (pc := 59) F (v := 0) dX0_slipsAt_59 rfl ?_
  obtain ⟨o_2, ho_2, hf⟩ := of_bnd hf
  refine j_callRV (pc := 60) (st := []) (st1 := [.int (bI o_2)]) F hK (hpR hP hS hp_id) (c_X0_has (l := l) (D := D) (cy := cy) (g := g) (aA := aA) ho_2) tm_724 cf_X0_has (Nat.le_of_ble_eq_true rfl) (Nat.le_of_ble_eq_true rfl) ⟨Nat.zero_le _, Nat.zero_le _⟩ 0 rfl rfl rfl rfl rfl (Nat.le_of_ble_eq_true rfl) rfl dX0_slipsAt_60 ?_
  refine j_if_eq (pc := 63) (tgt := 81) F dX0_slipsAt_63 rfl (fun c_3 => ?_) (fun c_3 => ?_)
  · have hf := of_pos c_3 hf
    refine j_sub [2, 4, 5, 1, 0] rfl ?_
    exact b_X0_slipsAt_81 F hP hK hS y2 y3 (y1 / 24) (f_X2_yearOf (σA.1 0 1) (y1 / 24)) hf
  · have hf := of_neg c_3 hf
    refine j_iload (pc := 66) F 0 dX0_slipsAt_66 rfl ?_
    refine j_aload_n (pc := 68) F 2 dX0_slipsAt_68 rfl rfl ?_
    refine jr_get (pc := 69) (v := .int (σA.1 0 3)) F hK hP ix_0 0 rfl rfl 3 (by decide) tm_160 rfl rfl dX0_slipsAt_69 ?_
    refine j_isub (pc := 72) F dX0_slipsAt_72 ?_
    refine j_callRS (pc := 73) (st := []) (st1 := [.int (bI (f_X0_canTell ((f_X2_yearOf (σA.1 0 1) (y1 / 24)) - (σA.1 0 3))))]) F hK (hpR hP hS hp_nil) (c_X0_canTell (l := l) (D := D) (cy := cy) (g := g) (rfl : f_X0_canTell ((f_X2_yearOf (σA.1 0 1) (y1 / 24)) - (σA.1 0 3)) = _)) tm_726 cf_X0_canTell (Nat.le_of_ble_eq_true rfl) (Nat.le_of_ble_eq_true rfl) ⟨Nat.zero_le _, Nat.zero_le _⟩ rfl rfl (Nat.le_of_ble_eq_true rfl) rfl dX0_slipsAt_73 ?_
    refine j_if_ne (pc := 76) (tgt := 81) F dX0_slipsAt_76 rfl (fun c_5 => ?_) (fun c_5 => ?_)
    · have hf := of_neg c_5 hf
      refine j_sub [2, 4, 5, 1, 0] rfl ?_
      exact b_X0_slipsAt_81 F hP hK hS y2 y3 (y1 / 24) (f_X2_yearOf (σA.1 0 1) (y1 / 24)) hf
    · have hf := of_pos c_5 hf
      refine j_iconst (pc := 79) F (v := 5) dX0_slipsAt_79 rfl ?_
      exact j_iretR (pc := 80) F dX0_slipsAt_80 (Option.some.inj hf)
set_option maxHeartbeats 4000000 in
set_option maxRecDepth 100000 in
theorem c_X0_slipsAt {l : Launch} {D : va_G} {cy : Nat → ClassId} {g : Gs} {aA : Nat → Nat} {σA : St2 × (Int64)} {N : Nat} {x1 : Int32} {x2 : Int32} {out : Int32} (hf : f_X0_slipsAt N σA x1 x2 = some out) : CR l D cy g yX0_slipsAt cX0_slipsAt 7 (some .int) 2 47 (wA aA cy σA) [.ref (aA 0), .int x1, .int x2] (some (.int out)) := by
  unfold f_X0_slipsAt at hf
  refine met_R (lv := [(0, .ref (aA 0)), (1, .int x1), (2, .int x2)]) (by decide) (Nat.le_of_ble_eq_true rfl) rfl ?_
  intro p e s m args below meth c F hP hK hS
  refine j_aload_n (pc := 0) F 0 dX0_slipsAt_0 rfl rfl ?_
  refine j_iconst (pc := 1) F (v := 3) dX0_slipsAt_1 rfl ?_
  refine j_iload_n (pc := 2) F 1 dX0_slipsAt_2 rfl rfl ?_
  refine j_bipush (pc := 3) F (v := 24) dX0_slipsAt_3 rfl ?_
  refine j_irem (pc := 5) F dX0_slipsAt_5 (by decide) ?_
  obtain ⟨o_1, ho_1, hf⟩ := of_bnd hf
  refine j_callRV (pc := 6) (st := []) (st1 := [.int o_1]) F hK (hpR hP hS hp_id) (c_X0_slipOf (l := l) (D := D) (cy := cy) (g := g) (aA := aA) ho_1) tm_720 cf_X0_slipOf (Nat.le_of_ble_eq_true rfl) (Nat.le_of_ble_eq_true rfl) ⟨Nat.zero_le _, Nat.zero_le _⟩ 0 rfl rfl rfl rfl rfl (Nat.le_of_ble_eq_true rfl) rfl dX0_slipsAt_6 ?_
  refine j_istore_n (pc := 9) (lv' := [(3, .int o_1), (0, .ref (aA 0)), (1, .int x1), (2, .int x2)]) F dX0_slipsAt_9 rfl (by decide) rfl ?_
  refine j_iload_n (pc := 10) F 0 dX0_slipsAt_10 rfl rfl ?_
  refine j_iload_n (pc := 11) F 3 dX0_slipsAt_11 rfl rfl ?_
  refine j_icmp_gt (pc := 12) (tgt := 39) F dX0_slipsAt_12 rfl (fun c_2 => ?_) (fun c_2 => ?_)
  · have hf := of_pos c_2 hf
    refine j_iload_n (pc := 39) F 0 dX0_slipsAt_39 rfl rfl ?_
    exact j_iretR (pc := 40) F dX0_slipsAt_40 (Option.some.inj hf)
  · have hf := of_neg c_2 hf
    refine j_aload_n (pc := 15) F 1 dX0_slipsAt_15 rfl rfl ?_
    refine j_iconst (pc := 16) F (v := 0) dX0_slipsAt_16 rfl ?_
    obtain ⟨o_3, ho_3, hf⟩ := of_bnd hf
    refine j_callRV (pc := 17) (st := []) (st1 := [.int (bI o_3)]) F hK (hpR hP hS hp_id) (c_X0_has (l := l) (D := D) (cy := cy) (g := g) (aA := aA) ho_3) tm_724 cf_X0_has (Nat.le_of_ble_eq_true rfl) (Nat.le_of_ble_eq_true rfl) ⟨Nat.zero_le _, Nat.zero_le _⟩ 0 rfl rfl rfl rfl rfl (Nat.le_of_ble_eq_true rfl) rfl dX0_slipsAt_17 ?_
    refine j_if_ne (pc := 20) (tgt := 41) F dX0_slipsAt_20 rfl (fun c_4 => ?_) (fun c_4 => ?_)
    · have hf := of_neg c_4 hf
      refine j_sub [1, 2, 3, 0] rfl ?_
      exact b_X0_slipsAt_41 F hP hK hS x1 x2 o_1 hf
    · have hf := of_pos c_4 hf
      refine j_aload_n (pc := 23) F 1 dX0_slipsAt_23 rfl rfl ?_
      refine j_iconst (pc := 24) F (v := 1) dX0_slipsAt_24 rfl ?_
      obtain ⟨o_5, ho_5, hf⟩ := of_bnd hf
      refine j_callRV (pc := 25) (st := []) (st1 := [.int (bI o_5)]) F hK (hpR hP hS hp_id) (c_X0_has (l := l) (D := D) (cy := cy) (g := g) (aA := aA) ho_5) tm_724 cf_X0_has (Nat.le_of_ble_eq_true rfl) (Nat.le_of_ble_eq_true rfl) ⟨Nat.zero_le _, Nat.zero_le _⟩ 0 rfl rfl rfl rfl rfl (Nat.le_of_ble_eq_true rfl) rfl dX0_slipsAt_25 ?_
      refine j_if_ne (pc := 28) (tgt := 41) F dX0_slipsAt_28 rfl (fun c_6 => ?_) (fun c_6 => ?_)
      · have hf := of_neg c_6 hf
        refine j_sub [1, 2, 3, 0] rfl ?_
        exact b_X0_slipsAt_41 F hP hK hS x1 x2 o_1 hf
      · have hf := of_pos c_6 hf
        refine j_aload_n (pc := 31) F 1 dX0_slipsAt_31 rfl rfl ?_
        refine j_iconst (pc := 32) F (v := 2) dX0_slipsAt_32 rfl ?_
        obtain ⟨o_7, ho_7, hf⟩ := of_bnd hf
        refine j_callRV (pc := 33) (st := []) (st1 := [.int (bI o_7)]) F hK (hpR hP hS hp_id) (c_X0_has (l := l) (D := D) (cy := cy) (g := g) (aA := aA) ho_7) tm_724 cf_X0_has (Nat.le_of_ble_eq_true rfl) (Nat.le_of_ble_eq_true rfl) ⟨Nat.zero_le _, Nat.zero_le _⟩ 0 rfl rfl rfl rfl rfl (Nat.le_of_ble_eq_true rfl) rfl dX0_slipsAt_33 ?_
        refine j_if_ne (pc := 36) (tgt := 41) F dX0_slipsAt_36 rfl (fun c_8 => ?_) (fun c_8 => ?_)
        · have hf := of_neg c_8 hf
          refine j_sub [1, 2, 3, 0] rfl ?_
          exact b_X0_slipsAt_41 F hP hK hS x1 x2 o_1 hf
        · have hf := of_pos c_8 hf
          refine j_iload_n (pc := 39) F 0 dX0_slipsAt_39 rfl rfl ?_
          exact j_iretR (pc := 40) F dX0_slipsAt_40 (Option.some.inj hf)
theorem cf_X0_slipsAt : cfV yX0_slipsAt cX0_slipsAt 7 (some .int) 2 := ⟨tm_718, tm_23, tm_58, tm_719, by decide, by decide, by decide +kernel⟩

def f_X0_slowsWithin_30 (N : Nat) (K5 : (St2 × (Int64)) → Int32 → Int32 → Int64 → Int32 → Option (Int64)) (σA : St2 × (Int64)) (y1 : Int32) (y2 : Int32) (y3 : Int64) (y5 : Int32) : Option (Int64) := K5 σA y1 y2 y3 (y5 + 1)
def f_X0_slowsWithin_5 (N : Nat) : Nat → (St2 × (Int64)) → Int32 → Int32 → Int64 → Int32 → Option (Int64)
  | 0, _, _, _, _, _ => none
  | n + 1, σA, y1, y2, y3, y5 => if 60 < y5 then some y3 else (f_X0_hoursAt σA y2 y5).bind fun o_2 => if o_2 = y1 then f_X0_slowsWithin_30 N (f_X0_slowsWithin_5 N n) σA y1 y2 (y3 ||| ((1 : Int64) <<< (y5.toInt64 &&& 63))) y5 else f_X0_slowsWithin_30 N (f_X0_slowsWithin_5 N n) σA y1 y2 y3 y5
def f_X0_slowsWithin (N : Nat) (σA : St2 × (Int64)) (x1 : Int32) (x2 : Int32) : Option (Int64) := f_X0_slowsWithin_5 N N σA x1 x2 0 0
set_option maxHeartbeats 4000000 in
set_option maxRecDepth 100000 in
theorem b_X0_slowsWithin_30 {l : Launch} {D : va_G} {cy : Nat → ClassId} {g : Gs} {p : Program} {e : Env} {s : State} {m : MethodId} {args : Array Value} {below : List Frame} {meth : Method} {c : Code} {aA : Nat → Nat} {σA : St2 × (Int64)} {N : Nat} {out : Int64} {K5 : (St2 × (Int64)) → Int32 → Int32 → Int64 → Int32 → Option (Int64)} (F : Fx p s m args meth c cX0_slowsWithin RX0 6 (some .long)) (hP : va_P D vwCl (wA aA cy σA) s.heap) (hK : va_K D vwCl (tys cy) s) (hS : St g nA s s.heap) (hK5 : ∀ (y1 : Int32) (y2 : Int32) (y3 : Int64) (y5 : Int32), K5 σA y1 y2 y3 y5 = some out → J p l e { frames := 2, cells := 0, slots := 0, locals := 45 } s m args below meth c 6 (hR s) 0 0 (MQ below (QR (some (.long out))) args s 0 0 nA) 5 [(0, .ref (aA 0)), (1, .int y1), (2, .int y2), (3, .long y3), (5, .int y5)] []) :
    ∀ (y1 : Int32) (y2 : Int32) (y3 : Int64) (y5 : Int32), f_X0_slowsWithin_30 N K5 σA y1 y2 y3 y5 = some out → J p l e { frames := 2, cells := 0, slots := 0, locals := 45 } s m args below meth c 6 (hR s) 0 0 (MQ below (QR (some (.long out))) args s 0 0 nA) 30 [(0, .ref (aA 0)), (1, .int y1), (2, .int y2), (3, .long y3), (5, .int y5)] [] := by
  intro y1 y2 y3 y5 hf
  unfold f_X0_slowsWithin_30 at hf
  refine j_iinc (pc := 30) (v := y5 + 1) (lv' := [(5, .int (y5 + 1)), (0, .ref (aA 0)), (1, .int y1), (2, .int y2), (3, .long y3)]) F 4 dX0_slowsWithin_30 rfl rfl (by decide) rfl ?_
  refine j_goto (pc := 33) F (tgt := 5) dX0_slowsWithin_33 rfl ?_
  refine j_sub [1, 2, 3, 4, 0] rfl ?_
  exact hK5 y1 y2 y3 (y5 + 1) hf
set_option maxHeartbeats 4000000 in
set_option maxRecDepth 100000 in
theorem b_X0_slowsWithin_5 {l : Launch} {D : va_G} {cy : Nat → ClassId} {g : Gs} {p : Program} {e : Env} {s : State} {m : MethodId} {args : Array Value} {below : List Frame} {meth : Method} {c : Code} {aA : Nat → Nat} {σA : St2 × (Int64)} {N : Nat} {out : Int64} (F : Fx p s m args meth c cX0_slowsWithin RX0 6 (some .long)) (hP : va_P D vwCl (wA aA cy σA) s.heap) (hK : va_K D vwCl (tys cy) s) (hS : St g nA s s.heap) :
    ∀ (n : Nat) (y1 : Int32) (y2 : Int32) (y3 : Int64) (y5 : Int32), f_X0_slowsWithin_5 N n σA y1 y2 y3 y5 = some out → J p l e { frames := 2, cells := 0, slots := 0, locals := 45 } s m args below meth c 6 (hR s) 0 0 (MQ below (QR (some (.long out))) args s 0 0 nA) 5 [(0, .ref (aA 0)), (1, .int y1), (2, .int y2), (3, .long y3), (5, .int y5)] [] := by
  intro n
  induction n with
  | zero =>
    intro y1 y2 y3 y5 hf
    cases hf
  | succ n ih =>
    intro y1 y2 y3 y5 hf
    rw [f_X0_slowsWithin_5] at hf
    refine j_iload (pc := 5) F 4 dX0_slowsWithin_5 rfl ?_
    refine j_bipush (pc := 7) F (v := 60) dX0_slowsWithin_7 rfl ?_
    refine j_icmp_gt (pc := 9) (tgt := 36) F dX0_slowsWithin_9 rfl (fun c_1 => ?_) (fun c_1 => ?_)
    · have hf := of_pos c_1 hf
      refine j_lload_n (pc := 36) F 3 dX0_slowsWithin_36 rfl rfl ?_
      exact j_lretR (pc := 37) F dX0_slowsWithin_37 (Option.some.inj hf)
    · have hf := of_neg c_1 hf
      refine j_aload_n (pc := 12) F 0 dX0_slowsWithin_12 rfl rfl ?_
      refine j_iload_n (pc := 13) F 2 dX0_slowsWithin_13 rfl rfl ?_
      refine j_iload (pc := 14) F 4 dX0_slowsWithin_14 rfl ?_
      obtain ⟨o_2, ho_2, hf⟩ := of_bnd hf
      refine j_callRV (pc := 16) (st := []) (st1 := [.int o_2]) F hK (hpR hP hS hp_id) (c_X0_hoursAt (l := l) (D := D) (cy := cy) (g := g) (aA := aA) ho_2) tm_699 cf_X0_hoursAt (Nat.le_of_ble_eq_true rfl) (Nat.le_of_ble_eq_true rfl) ⟨Nat.zero_le _, Nat.zero_le _⟩ 0 rfl rfl rfl rfl rfl (Nat.le_of_ble_eq_true rfl) rfl dX0_slowsWithin_16 ?_
      refine j_iload_n (pc := 19) F 1 dX0_slowsWithin_19 rfl rfl ?_
      refine j_icmp_ne (pc := 20) (tgt := 30) F dX0_slowsWithin_20 rfl (fun c_3 => ?_) (fun c_3 => ?_)
      · have hf := of_neg c_3 hf
        exact b_X0_slowsWithin_30 F hP hK hS ih y1 y2 y3 y5 hf
      · have hf := of_pos c_3 hf
        refine j_lload_n (pc := 23) F 3 dX0_slowsWithin_23 rfl rfl ?_
        refine j_lconst (pc := 24) F (v := 1) dX0_slowsWithin_24 rfl ?_
        refine j_iload (pc := 25) F 4 dX0_slowsWithin_25 rfl ?_
        refine j_lshl (pc := 27) F dX0_slowsWithin_27 ?_
        refine j_lor (pc := 28) F dX0_slowsWithin_28 ?_
        refine j_lstore_n (pc := 29) (lv' := [(3, .long (y3 ||| ((1 : Int64) <<< (y5.toInt64 &&& 63)))), (0, .ref (aA 0)), (1, .int y1), (2, .int y2), (5, .int y5)]) F dX0_slowsWithin_29 rfl (by decide) rfl ?_
        refine j_sub [1, 2, 3, 0, 4] rfl ?_
        exact b_X0_slowsWithin_30 F hP hK hS ih y1 y2 (y3 ||| ((1 : Int64) <<< (y5.toInt64 &&& 63))) y5 hf
set_option maxHeartbeats 4000000 in
set_option maxRecDepth 100000 in
theorem c_X0_slowsWithin {l : Launch} {D : va_G} {cy : Nat → ClassId} {g : Gs} {aA : Nat → Nat} {σA : St2 × (Int64)} {N : Nat} {x1 : Int32} {x2 : Int32} {out : Int64} (hf : f_X0_slowsWithin N σA x1 x2 = some out) : CR l D cy g yX0_slowsWithin cX0_slowsWithin 6 (some .long) 2 45 (wA aA cy σA) [.ref (aA 0), .int x1, .int x2] (some (.long out)) := by
  unfold f_X0_slowsWithin at hf
  refine met_R (lv := [(0, .ref (aA 0)), (1, .int x1), (2, .int x2)]) (by decide) (Nat.le_of_ble_eq_true rfl) rfl ?_
  intro p e s m args below meth c F hP hK hS
  refine j_lconst (pc := 0) F (v := 0) dX0_slowsWithin_0 rfl ?_
  refine j_lstore_n (pc := 1) (lv' := [(3, .long 0), (0, .ref (aA 0)), (1, .int x1), (2, .int x2)]) F dX0_slowsWithin_1 rfl (by decide) rfl ?_
  refine j_iconst (pc := 2) F (v := 0) dX0_slowsWithin_2 rfl ?_
  refine j_istore (pc := 3) (lv' := [(5, .int 0), (3, .long 0), (0, .ref (aA 0)), (1, .int x1), (2, .int x2)]) F dX0_slowsWithin_3 (by decide) rfl ?_
  refine j_sub [2, 3, 4, 1, 0] rfl ?_
  exact b_X0_slowsWithin_5 F hP hK hS N x1 x2 0 0 hf
theorem cf_X0_slowsWithin : cfV yX0_slowsWithin cX0_slowsWithin 6 (some .long) 2 := ⟨tm_769, tm_26, tm_58, tm_770, by decide, by decide, by decide +kernel⟩

def f_X0_isOfKind (σA : St2 × (Int64)) (σS : St2) (x2 : Int32) : Option (Bool) := (f_X5_kindAt σS x2).bind fun o_1 => if (((σA.1 0 0) >>> (o_1 &&& 31)) &&& 1) = 0 then some false else some true
set_option maxHeartbeats 4000000 in
set_option maxRecDepth 100000 in
theorem c_X0_isOfKind {l : Launch} {D : va_G} {cy : Nat → ClassId} {g : Gs} {aA : Nat → Nat} {aS : Nat → Nat} {σA : St2 × (Int64)} {σS : St2} {x2 : Int32} {out : Bool} (hf : f_X0_isOfKind σA σS x2 = some out) : CR l D cy g yX0_isOfKind cX0_isOfKind 3 (some .boolean) 2 42 (wA aA cy σA ++ wS aS cy σS) [.ref (aA 0), .ref (aS 0), .int x2] (some (.int (bI out))) := by
  unfold f_X0_isOfKind at hf
  refine met_R (lv := [(0, .ref (aA 0)), (1, .ref (aS 0)), (2, .int x2)]) (by decide) (Nat.le_of_ble_eq_true rfl) rfl ?_
  intro p e s m args below meth c F hP hK hS
  refine j_aload_n (pc := 0) F 0 dX0_isOfKind_0 rfl rfl ?_
  refine jr_get (pc := 1) (v := .int (σA.1 0 0)) F hK hP ix_0 0 rfl rfl 0 (by decide) tm_157 rfl rfl dX0_isOfKind_1 ?_
  refine j_aload_n (pc := 4) F 1 dX0_isOfKind_4 rfl rfl ?_
  refine j_iload_n (pc := 5) F 2 dX0_isOfKind_5 rfl rfl ?_
  obtain ⟨o_1, ho_1, hf⟩ := of_bnd hf
  refine j_callRV (pc := 6) (st := [.int (σA.1 0 0)]) (st1 := [.int o_1, .int (σA.1 0 0)]) F hK (hpR hP hS (hp_sub [2, 3, 4, 5] rfl)) (c_X5_kindAt (l := l) (D := D) (cy := cy) (g := g) (aS := aS) ho_1) tm_687 cf_X5_kindAt (Nat.le_of_ble_eq_true rfl) (Nat.le_of_ble_eq_true rfl) ⟨Nat.zero_le _, Nat.zero_le _⟩ 0 rfl rfl rfl rfl rfl (Nat.le_of_ble_eq_true rfl) rfl dX0_isOfKind_6 ?_
  refine j_ishr (pc := 9) F dX0_isOfKind_9 ?_
  refine j_iconst (pc := 10) F (v := 1) dX0_isOfKind_10 rfl ?_
  refine j_iand (pc := 11) F dX0_isOfKind_11 ?_
  refine j_if_eq (pc := 12) (tgt := 19) F dX0_isOfKind_12 rfl (fun c_2 => ?_) (fun c_2 => ?_)
  · have hf := of_pos c_2 hf
    refine j_iconst (pc := 19) F (v := 0) dX0_isOfKind_19 rfl ?_
    exact j_zretR (pc := 20) F dX0_isOfKind_20 (congrArg bI (Option.some.inj hf))
  · have hf := of_neg c_2 hf
    refine j_iconst (pc := 15) F (v := 1) dX0_isOfKind_15 rfl ?_
    refine j_goto (pc := 16) F (tgt := 20) dX0_isOfKind_16 rfl ?_
    exact j_zretR (pc := 20) F dX0_isOfKind_20 (congrArg bI (Option.some.inj hf))
theorem cf_X0_isOfKind : cfV yX0_isOfKind cX0_isOfKind 3 (some .boolean) 2 := ⟨tm_685, tm_20, tm_58, tm_686, by decide, by decide, by decide +kernel⟩

def f_X0_hoursSeen (σA : St2 × (Int64)) (σS : St2) (x2 : Int32) (x3 : Int32) : Option (Int32) := (f_X0_isOfKind σA σS x2).bind fun o_1 => if (bI o_1) = 0 then some (-1) else (f_X5_timeAt σS x2).bind fun o_3 => (f_X0_hoursAt σA o_3 x3).bind fun o_4 => (f_X5_isOfSunAt σS x2).bind fun o_5 => if (bI (f_X0_isSeenAt o_4 (bI o_5))) = 0 then some (-1) else some o_4
set_option maxHeartbeats 4000000 in
set_option maxRecDepth 100000 in
theorem c_X0_hoursSeen {l : Launch} {D : va_G} {cy : Nat → ClassId} {g : Gs} {aA : Nat → Nat} {aS : Nat → Nat} {σA : St2 × (Int64)} {σS : St2} {x2 : Int32} {x3 : Int32} {out : Int32} (hf : f_X0_hoursSeen σA σS x2 x3 = some out) : CR l D cy g yX0_hoursSeen cX0_hoursSeen 5 (some .int) 3 64 (wA aA cy σA ++ wS aS cy σS) [.ref (aA 0), .ref (aS 0), .int x2, .int x3] (some (.int out)) := by
  unfold f_X0_hoursSeen at hf
  refine met_R (lv := [(0, .ref (aA 0)), (1, .ref (aS 0)), (2, .int x2), (3, .int x3)]) (by decide) (Nat.le_of_ble_eq_true rfl) rfl ?_
  intro p e s m args below meth c F hP hK hS
  refine j_aload_n (pc := 0) F 0 dX0_hoursSeen_0 rfl rfl ?_
  refine j_aload_n (pc := 1) F 1 dX0_hoursSeen_1 rfl rfl ?_
  refine j_iload_n (pc := 2) F 2 dX0_hoursSeen_2 rfl rfl ?_
  obtain ⟨o_1, ho_1, hf⟩ := of_bnd hf
  refine j_callRV (pc := 3) (st := []) (st1 := [.int (bI o_1)]) F hK (hpR hP hS hp_id) (c_X0_isOfKind (l := l) (D := D) (cy := cy) (g := g) (aA := aA) (aS := aS) ho_1) tm_683 cf_X0_isOfKind (Nat.le_of_ble_eq_true rfl) (Nat.le_of_ble_eq_true rfl) ⟨Nat.zero_le _, Nat.zero_le _⟩ 0 rfl rfl rfl rfl rfl (Nat.le_of_ble_eq_true rfl) rfl dX0_hoursSeen_3 ?_
  refine j_if_ne (pc := 6) (tgt := 11) F dX0_hoursSeen_6 rfl (fun c_2 => ?_) (fun c_2 => ?_)
  · have hf := of_neg c_2 hf
    refine j_aload_n (pc := 11) F 0 dX0_hoursSeen_11 rfl rfl ?_
    refine j_aload_n (pc := 12) F 1 dX0_hoursSeen_12 rfl rfl ?_
    refine j_iload_n (pc := 13) F 2 dX0_hoursSeen_13 rfl rfl ?_
    obtain ⟨o_3, ho_3, hf⟩ := of_bnd hf
    refine j_callRV (pc := 14) (st := [.ref (aA 0)]) (st1 := [.int o_3, .ref (aA 0)]) F hK (hpR hP hS (hp_sub [2, 3, 4, 5] rfl)) (c_X5_timeAt (l := l) (D := D) (cy := cy) (g := g) (aS := aS) ho_3) tm_695 cf_X5_timeAt (Nat.le_of_ble_eq_true rfl) (Nat.le_of_ble_eq_true rfl) ⟨Nat.zero_le _, Nat.zero_le _⟩ 0 rfl rfl rfl rfl rfl (Nat.le_of_ble_eq_true rfl) rfl dX0_hoursSeen_14 ?_
    refine j_iload_n (pc := 17) F 3 dX0_hoursSeen_17 rfl rfl ?_
    obtain ⟨o_4, ho_4, hf⟩ := of_bnd hf
    refine j_callRV (pc := 18) (st := []) (st1 := [.int o_4]) F hK (hpR hP hS (hp_sub [0, 1] rfl)) (c_X0_hoursAt (l := l) (D := D) (cy := cy) (g := g) (aA := aA) ho_4) tm_699 cf_X0_hoursAt (Nat.le_of_ble_eq_true rfl) (Nat.le_of_ble_eq_true rfl) ⟨Nat.zero_le _, Nat.zero_le _⟩ 0 rfl rfl rfl rfl rfl (Nat.le_of_ble_eq_true rfl) rfl dX0_hoursSeen_18 ?_
    refine j_istore (pc := 21) (lv' := [(4, .int o_4), (0, .ref (aA 0)), (1, .ref (aS 0)), (2, .int x2), (3, .int x3)]) F dX0_hoursSeen_21 (by decide) rfl ?_
    refine j_iload (pc := 23) F 0 dX0_hoursSeen_23 rfl ?_
    refine j_aload_n (pc := 25) F 2 dX0_hoursSeen_25 rfl rfl ?_
    refine j_iload_n (pc := 26) F 3 dX0_hoursSeen_26 rfl rfl ?_
    obtain ⟨o_5, ho_5, hf⟩ := of_bnd hf
    refine j_callRV (pc := 27) (st := [.int o_4]) (st1 := [.int (bI o_5), .int o_4]) F hK (hpR hP hS (hp_sub [2, 3, 4, 5] rfl)) (c_X5_isOfSunAt (l := l) (D := D) (cy := cy) (g := g) (aS := aS) ho_5) tm_705 cf_X5_isOfSunAt (Nat.le_of_ble_eq_true rfl) (Nat.le_of_ble_eq_true rfl) ⟨Nat.zero_le _, Nat.zero_le _⟩ 0 rfl rfl rfl rfl rfl (Nat.le_of_ble_eq_true rfl) rfl dX0_hoursSeen_27 ?_
    refine j_callRS (pc := 30) (st := []) (st1 := [.int (bI (f_X0_isSeenAt o_4 (bI o_5)))]) F hK (hpR hP hS hp_nil) (c_X0_isSeenAt (l := l) (D := D) (cy := cy) (g := g) (rfl : f_X0_isSeenAt o_4 (bI o_5) = _)) tm_713 cf_X0_isSeenAt (Nat.le_of_ble_eq_true rfl) (Nat.le_of_ble_eq_true rfl) ⟨Nat.zero_le _, Nat.zero_le _⟩ rfl rfl (Nat.le_of_ble_eq_true rfl) rfl dX0_hoursSeen_30 ?_
    refine j_if_eq (pc := 33) (tgt := 41) F dX0_hoursSeen_33 rfl (fun c_7 => ?_) (fun c_7 => ?_)
    · have hf := of_pos c_7 hf
      refine j_iconst (pc := 41) F (v := (-1)) dX0_hoursSeen_41 rfl ?_
      exact j_iretR (pc := 42) F dX0_hoursSeen_42 (Option.some.inj hf)
    · have hf := of_neg c_7 hf
      refine j_iload (pc := 36) F 0 dX0_hoursSeen_36 rfl ?_
      refine j_goto (pc := 38) F (tgt := 42) dX0_hoursSeen_38 rfl ?_
      exact j_iretR (pc := 42) F dX0_hoursSeen_42 (Option.some.inj hf)
  · have hf := of_pos c_2 hf
    refine j_iconst (pc := 9) F (v := (-1)) dX0_hoursSeen_9 rfl ?_
    exact j_iretR (pc := 10) F dX0_hoursSeen_10 (Option.some.inj hf)
theorem cf_X0_hoursSeen : cfV yX0_hoursSeen cX0_hoursSeen 5 (some .int) 3 := ⟨tm_681, tm_19, tm_58, tm_682, by decide, by decide, by decide +kernel⟩

def f_X0_isMeant (N : Nat) (σA : St2 × (Int64)) (σS : St2) (x2 : Int32) (x3 : Int32) : Option (Bool) := (f_X0_hoursSeen σA σS x2 x3).bind fun o_1 => if o_1 = (-1) then some false else (f_X0_slipsAt N σA o_1 0).bind fun o_3 => if o_3 = 0 then some true else some false
set_option maxHeartbeats 4000000 in
set_option maxRecDepth 100000 in
theorem c_X0_isMeant {l : Launch} {D : va_G} {cy : Nat → ClassId} {g : Gs} {aA : Nat → Nat} {aS : Nat → Nat} {σA : St2 × (Int64)} {σS : St2} {N : Nat} {x2 : Int32} {x3 : Int32} {out : Bool} (hf : f_X0_isMeant N σA σS x2 x3 = some out) : CR l D cy g yX0_isMeant cX0_isMeant 5 (some .boolean) 4 88 (wA aA cy σA ++ wS aS cy σS) [.ref (aA 0), .ref (aS 0), .int x2, .int x3] (some (.int (bI out))) := by
  unfold f_X0_isMeant at hf
  refine met_R (lv := [(0, .ref (aA 0)), (1, .ref (aS 0)), (2, .int x2), (3, .int x3)]) (by decide) (Nat.le_of_ble_eq_true rfl) rfl ?_
  intro p e s m args below meth c F hP hK hS
  refine j_aload_n (pc := 0) F 0 dX0_isMeant_0 rfl rfl ?_
  refine j_aload_n (pc := 1) F 1 dX0_isMeant_1 rfl rfl ?_
  refine j_iload_n (pc := 2) F 2 dX0_isMeant_2 rfl rfl ?_
  refine j_iload_n (pc := 3) F 3 dX0_isMeant_3 rfl rfl ?_
  obtain ⟨o_1, ho_1, hf⟩ := of_bnd hf
  refine j_callRV (pc := 4) (st := []) (st1 := [.int o_1]) F hK (hpR hP hS hp_id) (c_X0_hoursSeen (l := l) (D := D) (cy := cy) (g := g) (aA := aA) (aS := aS) ho_1) tm_679 cf_X0_hoursSeen (Nat.le_of_ble_eq_true rfl) (Nat.le_of_ble_eq_true rfl) ⟨Nat.zero_le _, Nat.zero_le _⟩ 0 rfl rfl rfl rfl rfl (Nat.le_of_ble_eq_true rfl) rfl dX0_isMeant_4 ?_
  refine j_istore (pc := 7) (lv' := [(4, .int o_1), (0, .ref (aA 0)), (1, .ref (aS 0)), (2, .int x2), (3, .int x3)]) F dX0_isMeant_7 (by decide) rfl ?_
  refine j_iload (pc := 9) F 0 dX0_isMeant_9 rfl ?_
  refine j_iconst (pc := 11) F (v := (-1)) dX0_isMeant_11 rfl ?_
  refine j_icmp_eq (pc := 12) (tgt := 29) F dX0_isMeant_12 rfl (fun c_2 => ?_) (fun c_2 => ?_)
  · have hf := of_pos c_2 hf
    refine j_iconst (pc := 29) F (v := 0) dX0_isMeant_29 rfl ?_
    exact j_zretR (pc := 30) F dX0_isMeant_30 (congrArg bI (Option.some.inj hf))
  · have hf := of_neg c_2 hf
    refine j_aload_n (pc := 15) F 1 dX0_isMeant_15 rfl rfl ?_
    refine j_iload (pc := 16) F 0 dX0_isMeant_16 rfl ?_
    refine j_iconst (pc := 18) F (v := 0) dX0_isMeant_18 rfl ?_
    obtain ⟨o_3, ho_3, hf⟩ := of_bnd hf
    refine j_callRV (pc := 19) (st := []) (st1 := [.int o_3]) F hK (hpR hP hS (hp_sub [0, 1] rfl)) (c_X0_slipsAt (l := l) (D := D) (cy := cy) (g := g) (aA := aA) ho_3) tm_716 cf_X0_slipsAt (Nat.le_of_ble_eq_true rfl) (Nat.le_of_ble_eq_true rfl) ⟨Nat.zero_le _, Nat.zero_le _⟩ 0 rfl rfl rfl rfl rfl (Nat.le_of_ble_eq_true rfl) rfl dX0_isMeant_19 ?_
    refine j_if_ne (pc := 22) (tgt := 29) F dX0_isMeant_22 rfl (fun c_4 => ?_) (fun c_4 => ?_)
    · have hf := of_neg c_4 hf
      refine j_iconst (pc := 29) F (v := 0) dX0_isMeant_29 rfl ?_
      exact j_zretR (pc := 30) F dX0_isMeant_30 (congrArg bI (Option.some.inj hf))
    · have hf := of_pos c_4 hf
      refine j_iconst (pc := 25) F (v := 1) dX0_isMeant_25 rfl ?_
      refine j_goto (pc := 26) F (tgt := 30) dX0_isMeant_26 rfl ?_
      exact j_zretR (pc := 30) F dX0_isMeant_30 (congrArg bI (Option.some.inj hf))
theorem cf_X0_isMeant : cfV yX0_isMeant cX0_isMeant 5 (some .boolean) 3 := ⟨tm_677, tm_18, tm_58, tm_678, by decide, by decide, by decide +kernel⟩

def f_X0_slowsMeaning_72 (N : Nat) (K33 : (St2 × (Int64)) → St2 → Int32 → Int32 → Int32 → Int64 → Int32 → Option (Int64)) (σA : St2 × (Int64)) (σS : St2) (y3 : Int32) (y4 : Int32) (y5 : Int32) (y6 : Int64) (y8 : Int32) : Option (Int64) := K33 σA σS y3 y4 y5 y6 (y8 + 1)
def f_X0_slowsMeaning_33 (N : Nat) : Nat → (St2 × (Int64)) → St2 → Int32 → Int32 → Int32 → Int64 → Int32 → Option (Int64)
  | 0, _, _, _, _, _, _, _ => none
  | n + 1, σA, σS, y3, y4, y5, y6, y8 => if y5 < y8 then some y6 else if (bI (f_X0_isSeenAt y8 y4)) = 0 then f_X0_slowsMeaning_72 N (f_X0_slowsMeaning_33 N n) σA σS y3 y4 y5 y6 y8 else (f_X0_slipsAt N σA y8 0).bind fun o_4 => if o_4 = 0 then (f_X0_slowsWithin N σA y8 y3).bind fun o_6 => f_X0_slowsMeaning_72 N (f_X0_slowsMeaning_33 N n) σA σS y3 y4 y5 (y6 ||| o_6) y8 else f_X0_slowsMeaning_72 N (f_X0_slowsMeaning_33 N n) σA σS y3 y4 y5 y6 y8
def f_X0_slowsMeaning (N : Nat) (σA : St2 × (Int64)) (σS : St2) (x2 : Int32) : Option (Int64) := (f_X5_timeAt σS x2).bind fun o_1 => (f_X5_isOfSunAt σS x2).bind fun o_2 => (f_X0_hoursAt σA o_1 60).bind fun o_3 => (f_X0_hoursAt σA o_1 0).bind fun o_4 => f_X0_slowsMeaning_33 N N σA σS o_1 (bI o_2) o_3 0 o_4
set_option maxHeartbeats 4000000 in
set_option maxRecDepth 100000 in
theorem b_X0_slowsMeaning_72 {l : Launch} {D : va_G} {cy : Nat → ClassId} {g : Gs} {p : Program} {e : Env} {s : State} {m : MethodId} {args : Array Value} {below : List Frame} {meth : Method} {c : Code} {aA : Nat → Nat} {aS : Nat → Nat} {σA : St2 × (Int64)} {σS : St2} {N : Nat} {out : Int64} {K33 : (St2 × (Int64)) → St2 → Int32 → Int32 → Int32 → Int64 → Int32 → Option (Int64)} (F : Fx p s m args meth c cX0_slowsMeaning RX0 9 (some .long)) (hP : va_P D vwCl (wA aA cy σA ++ wS aS cy σS) s.heap) (hK : va_K D vwCl (tys cy) s) (hS : St g nA s s.heap) (hK33 : ∀ (y3 : Int32) (y4 : Int32) (y5 : Int32) (y6 : Int64) (y8 : Int32), K33 σA σS y3 y4 y5 y6 y8 = some out → J p l e { frames := 3, cells := 0, slots := 0, locals := 73 } s m args below meth c 9 (hR s) 0 0 (MQ below (QR (some (.long out))) args s 0 0 nA) 33 [(0, .ref (aA 0)), (3, .int y3), (4, .int y4), (5, .int y5), (6, .long y6), (8, .int y8)] []) :
    ∀ (y3 : Int32) (y4 : Int32) (y5 : Int32) (y6 : Int64) (y8 : Int32), f_X0_slowsMeaning_72 N K33 σA σS y3 y4 y5 y6 y8 = some out → J p l e { frames := 3, cells := 0, slots := 0, locals := 73 } s m args below meth c 9 (hR s) 0 0 (MQ below (QR (some (.long out))) args s 0 0 nA) 72 [(0, .ref (aA 0)), (3, .int y3), (4, .int y4), (5, .int y5), (6, .long y6), (8, .int y8)] [] := by
  intro y3 y4 y5 y6 y8 hf
  unfold f_X0_slowsMeaning_72 at hf
  refine j_iinc (pc := 72) (v := y8 + 1) (lv' := [(8, .int (y8 + 1)), (0, .ref (aA 0)), (3, .int y3), (4, .int y4), (5, .int y5), (6, .long y6)]) F 5 dX0_slowsMeaning_72 rfl rfl (by decide) rfl ?_
  refine j_goto (pc := 75) F (tgt := 33) dX0_slowsMeaning_75 rfl ?_
  refine j_sub [1, 2, 3, 4, 5, 0] rfl ?_
  exact hK33 y3 y4 y5 y6 (y8 + 1) hf
set_option maxHeartbeats 4000000 in
set_option maxRecDepth 100000 in
theorem b_X0_slowsMeaning_33 {l : Launch} {D : va_G} {cy : Nat → ClassId} {g : Gs} {p : Program} {e : Env} {s : State} {m : MethodId} {args : Array Value} {below : List Frame} {meth : Method} {c : Code} {aA : Nat → Nat} {aS : Nat → Nat} {σA : St2 × (Int64)} {σS : St2} {N : Nat} {out : Int64} (F : Fx p s m args meth c cX0_slowsMeaning RX0 9 (some .long)) (hP : va_P D vwCl (wA aA cy σA ++ wS aS cy σS) s.heap) (hK : va_K D vwCl (tys cy) s) (hS : St g nA s s.heap) :
    ∀ (n : Nat) (y3 : Int32) (y4 : Int32) (y5 : Int32) (y6 : Int64) (y8 : Int32), f_X0_slowsMeaning_33 N n σA σS y3 y4 y5 y6 y8 = some out → J p l e { frames := 3, cells := 0, slots := 0, locals := 73 } s m args below meth c 9 (hR s) 0 0 (MQ below (QR (some (.long out))) args s 0 0 nA) 33 [(0, .ref (aA 0)), (3, .int y3), (4, .int y4), (5, .int y5), (6, .long y6), (8, .int y8)] [] := by
  intro n
  induction n with
  | zero =>
    intro y3 y4 y5 y6 y8 hf
    cases hf
  | succ n ih =>
    intro y3 y4 y5 y6 y8 hf
    rw [f_X0_slowsMeaning_33] at hf
    refine j_iload (pc := 33) F 5 dX0_slowsMeaning_33 rfl ?_
    refine j_iload (pc := 35) F 3 dX0_slowsMeaning_35 rfl ?_
    refine j_icmp_gt (pc := 37) (tgt := 78) F dX0_slowsMeaning_37 rfl (fun c_1 => ?_) (fun c_1 => ?_)
    · have hf := of_pos c_1 hf
      refine j_lload (pc := 78) F 4 dX0_slowsMeaning_78 rfl ?_
      exact j_lretR (pc := 80) F dX0_slowsMeaning_80 (Option.some.inj hf)
    · have hf := of_neg c_1 hf
      refine j_iload (pc := 40) F 5 dX0_slowsMeaning_40 rfl ?_
      refine j_iload (pc := 42) F 2 dX0_slowsMeaning_42 rfl ?_
      refine j_callRS (pc := 44) (st := []) (st1 := [.int (bI (f_X0_isSeenAt y8 y4))]) F hK (hpR hP hS hp_nil) (c_X0_isSeenAt (l := l) (D := D) (cy := cy) (g := g) (rfl : f_X0_isSeenAt y8 y4 = _)) tm_713 cf_X0_isSeenAt (Nat.le_of_ble_eq_true rfl) (Nat.le_of_ble_eq_true rfl) ⟨Nat.zero_le _, Nat.zero_le _⟩ rfl rfl (Nat.le_of_ble_eq_true rfl) rfl dX0_slowsMeaning_44 ?_
      refine j_if_eq (pc := 47) (tgt := 72) F dX0_slowsMeaning_47 rfl (fun c_3 => ?_) (fun c_3 => ?_)
      · have hf := of_pos c_3 hf
        exact b_X0_slowsMeaning_72 F hP hK hS ih y3 y4 y5 y6 y8 hf
      · have hf := of_neg c_3 hf
        refine j_aload_n (pc := 50) F 0 dX0_slowsMeaning_50 rfl rfl ?_
        refine j_iload (pc := 51) F 5 dX0_slowsMeaning_51 rfl ?_
        refine j_iconst (pc := 53) F (v := 0) dX0_slowsMeaning_53 rfl ?_
        obtain ⟨o_4, ho_4, hf⟩ := of_bnd hf
        refine j_callRV (pc := 54) (st := []) (st1 := [.int o_4]) F hK (hpR hP hS (hp_sub [0, 1] rfl)) (c_X0_slipsAt (l := l) (D := D) (cy := cy) (g := g) (aA := aA) ho_4) tm_716 cf_X0_slipsAt (Nat.le_of_ble_eq_true rfl) (Nat.le_of_ble_eq_true rfl) ⟨Nat.zero_le _, Nat.zero_le _⟩ 0 rfl rfl rfl rfl rfl (Nat.le_of_ble_eq_true rfl) rfl dX0_slowsMeaning_54 ?_
        refine j_if_ne (pc := 57) (tgt := 72) F dX0_slowsMeaning_57 rfl (fun c_5 => ?_) (fun c_5 => ?_)
        · have hf := of_neg c_5 hf
          exact b_X0_slowsMeaning_72 F hP hK hS ih y3 y4 y5 y6 y8 hf
        · have hf := of_pos c_5 hf
          refine j_lload (pc := 60) F 4 dX0_slowsMeaning_60 rfl ?_
          refine j_aload_n (pc := 62) F 0 dX0_slowsMeaning_62 rfl rfl ?_
          refine j_iload (pc := 63) F 5 dX0_slowsMeaning_63 rfl ?_
          refine j_iload_n (pc := 65) F 1 dX0_slowsMeaning_65 rfl rfl ?_
          obtain ⟨o_6, ho_6, hf⟩ := of_bnd hf
          refine j_callRV (pc := 66) (st := [.long y6]) (st1 := [.long o_6, .long y6]) F hK (hpR hP hS (hp_sub [0, 1] rfl)) (c_X0_slowsWithin (l := l) (D := D) (cy := cy) (g := g) (aA := aA) ho_6) tm_767 cf_X0_slowsWithin (Nat.le_of_ble_eq_true rfl) (Nat.le_of_ble_eq_true rfl) ⟨Nat.zero_le _, Nat.zero_le _⟩ 0 rfl rfl rfl rfl rfl (Nat.le_of_ble_eq_true rfl) rfl dX0_slowsMeaning_66 ?_
          refine j_lor (pc := 69) F dX0_slowsMeaning_69 ?_
          refine j_lstore (pc := 70) (lv' := [(6, .long (y6 ||| o_6)), (0, .ref (aA 0)), (3, .int y3), (4, .int y4), (5, .int y5), (8, .int y8)]) F dX0_slowsMeaning_70 (by decide) rfl ?_
          refine j_sub [1, 2, 3, 4, 0, 5] rfl ?_
          exact b_X0_slowsMeaning_72 F hP hK hS ih y3 y4 y5 (y6 ||| o_6) y8 hf
set_option maxHeartbeats 4000000 in
set_option maxRecDepth 100000 in
theorem c_X0_slowsMeaning {l : Launch} {D : va_G} {cy : Nat → ClassId} {g : Gs} {aA : Nat → Nat} {aS : Nat → Nat} {σA : St2 × (Int64)} {σS : St2} {N : Nat} {x2 : Int32} {out : Int64} (hf : f_X0_slowsMeaning N σA σS x2 = some out) : CR l D cy g yX0_slowsMeaning cX0_slowsMeaning 9 (some .long) 3 73 (wA aA cy σA ++ wS aS cy σS) [.ref (aA 0), .ref (aS 0), .int x2] (some (.long out)) := by
  unfold f_X0_slowsMeaning at hf
  refine met_R (lv := [(0, .ref (aA 0)), (1, .ref (aS 0)), (2, .int x2)]) (by decide) (Nat.le_of_ble_eq_true rfl) rfl ?_
  intro p e s m args below meth c F hP hK hS
  refine j_aload_n (pc := 0) F 1 dX0_slowsMeaning_0 rfl rfl ?_
  refine j_iload_n (pc := 1) F 2 dX0_slowsMeaning_1 rfl rfl ?_
  obtain ⟨o_1, ho_1, hf⟩ := of_bnd hf
  refine j_callRV (pc := 2) (st := []) (st1 := [.int o_1]) F hK (hpR hP hS (hp_sub [2, 3, 4, 5] rfl)) (c_X5_timeAt (l := l) (D := D) (cy := cy) (g := g) (aS := aS) ho_1) tm_695 cf_X5_timeAt (Nat.le_of_ble_eq_true rfl) (Nat.le_of_ble_eq_true rfl) ⟨Nat.zero_le _, Nat.zero_le _⟩ 0 rfl rfl rfl rfl rfl (Nat.le_of_ble_eq_true rfl) rfl dX0_slowsMeaning_2 ?_
  refine j_istore_n (pc := 5) (lv' := [(3, .int o_1), (0, .ref (aA 0)), (1, .ref (aS 0)), (2, .int x2)]) F dX0_slowsMeaning_5 rfl (by decide) rfl ?_
  refine j_aload_n (pc := 6) F 2 dX0_slowsMeaning_6 rfl rfl ?_
  refine j_iload_n (pc := 7) F 3 dX0_slowsMeaning_7 rfl rfl ?_
  obtain ⟨o_2, ho_2, hf⟩ := of_bnd hf
  refine j_callRV (pc := 8) (st := []) (st1 := [.int (bI o_2)]) F hK (hpR hP hS (hp_sub [2, 3, 4, 5] rfl)) (c_X5_isOfSunAt (l := l) (D := D) (cy := cy) (g := g) (aS := aS) ho_2) tm_705 cf_X5_isOfSunAt (Nat.le_of_ble_eq_true rfl) (Nat.le_of_ble_eq_true rfl) ⟨Nat.zero_le _, Nat.zero_le _⟩ 0 rfl rfl rfl rfl rfl (Nat.le_of_ble_eq_true rfl) rfl dX0_slowsMeaning_8 ?_
  refine j_istore (pc := 11) (lv' := [(4, .int (bI o_2)), (3, .int o_1), (0, .ref (aA 0)), (1, .ref (aS 0)), (2, .int x2)]) F dX0_slowsMeaning_11 (by decide) rfl ?_
  refine j_aload_n (pc := 13) F 2 dX0_slowsMeaning_13 rfl rfl ?_
  refine j_iload_n (pc := 14) F 1 dX0_slowsMeaning_14 rfl rfl ?_
  refine j_bipush (pc := 15) F (v := 60) dX0_slowsMeaning_15 rfl ?_
  obtain ⟨o_3, ho_3, hf⟩ := of_bnd hf
  refine j_callRV (pc := 17) (st := []) (st1 := [.int o_3]) F hK (hpR hP hS (hp_sub [0, 1] rfl)) (c_X0_hoursAt (l := l) (D := D) (cy := cy) (g := g) (aA := aA) ho_3) tm_699 cf_X0_hoursAt (Nat.le_of_ble_eq_true rfl) (Nat.le_of_ble_eq_true rfl) ⟨Nat.zero_le _, Nat.zero_le _⟩ 0 rfl rfl rfl rfl rfl (Nat.le_of_ble_eq_true rfl) rfl dX0_slowsMeaning_17 ?_
  refine j_istore (pc := 20) (lv' := [(5, .int o_3), (4, .int (bI o_2)), (3, .int o_1), (0, .ref (aA 0)), (1, .ref (aS 0)), (2, .int x2)]) F dX0_slowsMeaning_20 (by decide) rfl ?_
  refine j_lconst (pc := 22) F (v := 0) dX0_slowsMeaning_22 rfl ?_
  refine j_lstore (pc := 23) (lv' := [(6, .long 0), (5, .int o_3), (4, .int (bI o_2)), (3, .int o_1), (0, .ref (aA 0)), (1, .ref (aS 0)), (2, .int x2)]) F dX0_slowsMeaning_23 (by decide) rfl ?_
  refine j_aload_n (pc := 25) F 4 dX0_slowsMeaning_25 rfl rfl ?_
  refine j_iload_n (pc := 26) F 3 dX0_slowsMeaning_26 rfl rfl ?_
  refine j_iconst (pc := 27) F (v := 0) dX0_slowsMeaning_27 rfl ?_
  obtain ⟨o_4, ho_4, hf⟩ := of_bnd hf
  refine j_callRV (pc := 28) (st := []) (st1 := [.int o_4]) F hK (hpR hP hS (hp_sub [0, 1] rfl)) (c_X0_hoursAt (l := l) (D := D) (cy := cy) (g := g) (aA := aA) ho_4) tm_699 cf_X0_hoursAt (Nat.le_of_ble_eq_true rfl) (Nat.le_of_ble_eq_true rfl) ⟨Nat.zero_le _, Nat.zero_le _⟩ 0 rfl rfl rfl rfl rfl (Nat.le_of_ble_eq_true rfl) rfl dX0_slowsMeaning_28 ?_
  refine j_istore (pc := 31) (lv' := [(8, .int o_4), (6, .long 0), (5, .int o_3), (4, .int (bI o_2)), (3, .int o_1), (0, .ref (aA 0)), (1, .ref (aS 0)), (2, .int x2)]) F dX0_slowsMeaning_31 (by decide) rfl ?_
  refine j_sub [5, 4, 3, 2, 1, 0] rfl ?_
  exact b_X0_slowsMeaning_33 F hP hK hS N o_1 (bI o_2) o_3 0 o_4 hf
theorem cf_X0_slowsMeaning : cfV yX0_slowsMeaning cX0_slowsMeaning 9 (some .long) 2 := ⟨tm_765, tm_25, tm_58, tm_766, by decide, by decide, by decide +kernel⟩

def f_X0_countMeant_31 (N : Nat) (K11 : (St2 × (Int64)) → St2 → Int32 → Int32 → Int32 → Int32 → Option (Int32 × St2)) (σA : St2 × (Int64)) (σS : St2) (y2 : Int32) (y3 : Int32) (y4 : Int32) (y5 : Int32) : Option (Int32 × St2) := K11 σA σS y2 y3 y4 (y5 + 1)
def f_X0_countMeant_11 (N : Nat) : Nat → (St2 × (Int64)) → St2 → Int32 → Int32 → Int32 → Int32 → Option (Int32 × St2)
  | 0, _, _, _, _, _, _ => none
  | n + 1, σA, σS, y2, y3, y4, y5 => if y3 ≤ y5 then some (y4, σS) else (f_X0_isMeant N σA σS y5 y2).bind fun o_2 => if (bI o_2) = 0 then f_X0_countMeant_31 N (f_X0_countMeant_11 N n) σA σS y2 y3 y4 y5 else f_X0_countMeant_31 N (f_X0_countMeant_11 N n) σA σS y2 y3 (y4 + 1) y5
def f_X0_countMeant (N : Nat) (σA : St2 × (Int64)) (σS : St2) (x2 : Int32) : Option (Int32 × St2) := (f_X5_listEclipses N σS).bind fun o_1 => f_X0_countMeant_11 N N σA o_1.2 x2 o_1.1 0 0
set_option maxHeartbeats 4000000 in
set_option maxRecDepth 100000 in
theorem b_X0_countMeant_31 {l : Launch} {D : va_G} {cy : Nat → ClassId} {g : Gs} {p : Program} {e : Env} {s : State} {m : MethodId} {args : Array Value} {below : List Frame} {meth : Method} {c : Code} {A : Nat → Prop} {aA : Nat → Nat} {aS : Nat → Nat} {σA : St2 × (Int64)} {N : Nat} {out : Int32 × St2} {K11 : (St2 × (Int64)) → St2 → Int32 → Int32 → Int32 → Int32 → Option (Int32 × St2)} (F : Fx p s m args meth c cX0_countMeant RX0 6 (some .int)) (hK : va_K D vwCl (tys cy) s) (hS : St g A s s.heap) (hA : ∀ q, s.heap.size ≤ q → A q) (hK11 : ∀ (σS : St2) (y2 : Int32) (y3 : Int32) (y4 : Int32) (y5 : Int32), K11 σA σS y2 y3 y4 y5 = some out → J p l e { frames := 5, cells := 0, slots := 0, locals := 112 } s m args below meth c 6 (hW D A s (wA aA cy σA ++ wS aS cy σS)) 0 0 (MQ below (QW D A (some (.int out.1)) (wA aA cy σA ++ wS aS cy out.2)) args s 0 0 A) 11 [(0, .ref (aA 0)), (1, .ref (aS 0)), (2, .int y2), (3, .int y3), (4, .int y4), (5, .int y5)] []) :
    ∀ (σS : St2) (y2 : Int32) (y3 : Int32) (y4 : Int32) (y5 : Int32), f_X0_countMeant_31 N K11 σA σS y2 y3 y4 y5 = some out → J p l e { frames := 5, cells := 0, slots := 0, locals := 112 } s m args below meth c 6 (hW D A s (wA aA cy σA ++ wS aS cy σS)) 0 0 (MQ below (QW D A (some (.int out.1)) (wA aA cy σA ++ wS aS cy out.2)) args s 0 0 A) 31 [(0, .ref (aA 0)), (1, .ref (aS 0)), (2, .int y2), (3, .int y3), (4, .int y4), (5, .int y5)] [] := by
  intro σS y2 y3 y4 y5 hf
  unfold f_X0_countMeant_31 at hf
  refine j_iinc (pc := 31) (v := y5 + 1) (lv' := [(5, .int (y5 + 1)), (0, .ref (aA 0)), (1, .ref (aS 0)), (2, .int y2), (3, .int y3), (4, .int y4)]) F 5 dX0_countMeant_31 rfl rfl (by decide) rfl ?_
  refine j_goto (pc := 34) F (tgt := 11) dX0_countMeant_34 rfl ?_
  refine j_sub [1, 2, 3, 4, 5, 0] rfl ?_
  exact hK11 σS y2 y3 y4 (y5 + 1) hf
set_option maxHeartbeats 4000000 in
set_option maxRecDepth 100000 in
theorem b_X0_countMeant_11 {l : Launch} {D : va_G} {cy : Nat → ClassId} {g : Gs} {p : Program} {e : Env} {s : State} {m : MethodId} {args : Array Value} {below : List Frame} {meth : Method} {c : Code} {A : Nat → Prop} {aA : Nat → Nat} {aS : Nat → Nat} {σA : St2 × (Int64)} {N : Nat} {out : Int32 × St2} (F : Fx p s m args meth c cX0_countMeant RX0 6 (some .int)) (hK : va_K D vwCl (tys cy) s) (hS : St g A s s.heap) (hA : ∀ q, s.heap.size ≤ q → A q) :
    ∀ (n : Nat) (σS : St2) (y2 : Int32) (y3 : Int32) (y4 : Int32) (y5 : Int32), f_X0_countMeant_11 N n σA σS y2 y3 y4 y5 = some out → J p l e { frames := 5, cells := 0, slots := 0, locals := 112 } s m args below meth c 6 (hW D A s (wA aA cy σA ++ wS aS cy σS)) 0 0 (MQ below (QW D A (some (.int out.1)) (wA aA cy σA ++ wS aS cy out.2)) args s 0 0 A) 11 [(0, .ref (aA 0)), (1, .ref (aS 0)), (2, .int y2), (3, .int y3), (4, .int y4), (5, .int y5)] [] := by
  intro n
  induction n with
  | zero =>
    intro σS y2 y3 y4 y5 hf
    cases hf
  | succ n ih =>
    intro σS y2 y3 y4 y5 hf
    rw [f_X0_countMeant_11] at hf
    refine j_iload (pc := 11) F 5 dX0_countMeant_11 rfl ?_
    refine j_iload_n (pc := 13) F 3 dX0_countMeant_13 rfl rfl ?_
    refine j_icmp_ge (pc := 14) (tgt := 37) F dX0_countMeant_14 rfl (fun c_1 => ?_) (fun c_1 => ?_)
    · have hf := of_pos c_1 hf
      refine j_iload (pc := 37) F 4 dX0_countMeant_37 rfl ?_
      have hf := (Option.some.inj hf)
      subst hf
      exact j_iretW (pc := 39) F dX0_countMeant_39 rfl rfl
    · have hf := of_neg c_1 hf
      refine j_aload_n (pc := 17) F 0 dX0_countMeant_17 rfl rfl ?_
      refine j_aload_n (pc := 18) F 1 dX0_countMeant_18 rfl rfl ?_
      refine j_iload (pc := 19) F 5 dX0_countMeant_19 rfl ?_
      refine j_iload_n (pc := 21) F 2 dX0_countMeant_21 rfl rfl ?_
      obtain ⟨o_2, ho_2, hf⟩ := of_bnd hf
      refine j_callRV (pc := 22) (st := []) (st1 := [.int (bI o_2)]) F hK (hpW hS hp_id) (c_X0_isMeant (l := l) (D := D) (cy := cy) (g := g) (aA := aA) (aS := aS) ho_2) tm_675 cf_X0_isMeant (Nat.le_of_ble_eq_true rfl) (Nat.le_of_ble_eq_true rfl) ⟨Nat.zero_le _, Nat.zero_le _⟩ 0 rfl rfl rfl rfl rfl (Nat.le_of_ble_eq_true rfl) rfl dX0_countMeant_22 ?_
      refine j_if_eq (pc := 25) (tgt := 31) F dX0_countMeant_25 rfl (fun c_3 => ?_) (fun c_3 => ?_)
      · have hf := of_pos c_3 hf
        exact b_X0_countMeant_31 F hK hS hA ih σS y2 y3 y4 y5 hf
      · have hf := of_neg c_3 hf
        refine j_iinc (pc := 28) (v := y4 + 1) (lv' := [(4, .int (y4 + 1)), (0, .ref (aA 0)), (1, .ref (aS 0)), (2, .int y2), (3, .int y3), (5, .int y5)]) F 4 dX0_countMeant_28 rfl rfl (by decide) rfl ?_
        refine j_sub [1, 2, 3, 4, 0, 5] rfl ?_
        exact b_X0_countMeant_31 F hK hS hA ih σS y2 y3 (y4 + 1) y5 hf
set_option maxHeartbeats 4000000 in
set_option maxRecDepth 100000 in
theorem c_X0_countMeant {l : Launch} {D : va_G} {cy : Nat → ClassId} {g : Gs} {aA : Nat → Nat} {aS : Nat → Nat} {σA : St2 × (Int64)} {σS : St2} {N : Nat} {x2 : Int32} {out : Int32 × St2} (hf : f_X0_countMeant N σA σS x2 = some out) : CW l D cy g yX0_countMeant cX0_countMeant 6 (some .int) 5 112 (wA aA cy σA ++ wS aS cy σS) [.ref (aA 0), .ref (aS 0), .int x2] (some (.int out.1)) (wA aA cy σA ++ wS aS cy out.2) := by
  unfold f_X0_countMeant at hf
  refine met_W (lv := [(0, .ref (aA 0)), (1, .ref (aS 0)), (2, .int x2)]) (by decide) (Nat.le_of_ble_eq_true rfl) rfl ?_
  intro p e s m args below meth c A F hK hS hA
  refine j_aload_n (pc := 0) F 1 dX0_countMeant_0 rfl rfl ?_
  obtain ⟨o_1, ho_1, hf⟩ := of_bnd hf
  refine j_callWV (pc := 1) (st := []) (st1 := [.int o_1.1]) (wr := wA aA cy σA) (w' := wA aA cy σA ++ wS aS cy o_1.2) F hK hS hA (c_X5_listEclipses (l := l) (D := D) (cy := cy) (g := g) (aS := aS) ho_1) tm_674 cf_X5_listEclipses (Nat.le_of_ble_eq_true rfl) (Nat.le_of_ble_eq_true rfl) ⟨Nat.zero_le _, Nat.zero_le _⟩ 0 rfl rfl rfl rfl rfl (Nat.le_of_ble_eq_true rfl) [2, 3, 4, 5] [0, 1] [0, 1, 2, 3, 4, 5] rfl rfl rfl rfl (by decide) rfl rfl rfl dX0_countMeant_1 ?_
  refine j_istore_n (pc := 4) (lv' := [(3, .int o_1.1), (0, .ref (aA 0)), (1, .ref (aS 0)), (2, .int x2)]) F dX0_countMeant_4 rfl (by decide) rfl ?_
  refine j_iconst (pc := 5) F (v := 0) dX0_countMeant_5 rfl ?_
  refine j_istore (pc := 6) (lv' := [(4, .int 0), (3, .int o_1.1), (0, .ref (aA 0)), (1, .ref (aS 0)), (2, .int x2)]) F dX0_countMeant_6 (by decide) rfl ?_
  refine j_iconst (pc := 8) F (v := 0) dX0_countMeant_8 rfl ?_
  refine j_istore (pc := 9) (lv' := [(5, .int 0), (4, .int 0), (3, .int o_1.1), (0, .ref (aA 0)), (1, .ref (aS 0)), (2, .int x2)]) F dX0_countMeant_9 (by decide) rfl ?_
  refine j_sub [3, 4, 5, 2, 1, 0] rfl ?_
  exact b_X0_countMeant_11 F hK hS hA N o_1.2 x2 o_1.1 0 0 hf
theorem cf_X0_countMeant : cfV yX0_countMeant cX0_countMeant 6 (some .int) 2 := ⟨tm_671, tm_672, tm_58, tm_673, by decide, by decide, by decide +kernel⟩

def f_X0_findMeant_45 (N : Nat) (K12 : (St2 × (Int64)) → St2 → Int32 → Int32 → Int32 → Int32 → Option (Int32 × St2)) (σA : St2 × (Int64)) (σS : St2) (y2 : Int32) (y4 : Int32) (y5 : Int32) (y6 : Int32) : Option (Int32 × St2) := K12 σA σS y2 y4 y5 (y6 + 1)
def f_X0_findMeant_12 (N : Nat) : Nat → (St2 × (Int64)) → St2 → Int32 → Int32 → Int32 → Int32 → Option (Int32 × St2)
  | 0, _, _, _, _, _, _ => none
  | n + 1, σA, σS, y2, y4, y5, y6 => if y4 ≤ y6 then some ((-1), σS) else (f_X0_isMeant N σA σS y6 y2).bind fun o_2 => if (bI o_2) = 0 then f_X0_findMeant_45 N (f_X0_findMeant_12 N n) σA σS y2 y4 y5 y6 else if y5 = 0 then (f_X5_moonAt σS y6).bind fun o_5 => some (o_5, σS) else f_X0_findMeant_45 N (f_X0_findMeant_12 N n) σA σS y2 y4 (y5 + (-1)) y6
def f_X0_findMeant (N : Nat) (σA : St2 × (Int64)) (σS : St2) (x2 : Int32) (x3 : Int32) : Option (Int32 × St2) := (f_X5_listEclipses N σS).bind fun o_1 => f_X0_findMeant_12 N N σA o_1.2 x2 o_1.1 x3 0
set_option maxHeartbeats 4000000 in
set_option maxRecDepth 100000 in
theorem b_X0_findMeant_45 {l : Launch} {D : va_G} {cy : Nat → ClassId} {g : Gs} {p : Program} {e : Env} {s : State} {m : MethodId} {args : Array Value} {below : List Frame} {meth : Method} {c : Code} {A : Nat → Prop} {aA : Nat → Nat} {aS : Nat → Nat} {σA : St2 × (Int64)} {N : Nat} {out : Int32 × St2} {K12 : (St2 × (Int64)) → St2 → Int32 → Int32 → Int32 → Int32 → Option (Int32 × St2)} (F : Fx p s m args meth c cX0_findMeant RX0 7 (some .int)) (hK : va_K D vwCl (tys cy) s) (hS : St g A s s.heap) (hA : ∀ q, s.heap.size ≤ q → A q) (hK12 : ∀ (σS : St2) (y2 : Int32) (y4 : Int32) (y5 : Int32) (y6 : Int32), K12 σA σS y2 y4 y5 y6 = some out → J p l e { frames := 5, cells := 0, slots := 0, locals := 112 } s m args below meth c 7 (hW D A s (wA aA cy σA ++ wS aS cy σS)) 0 0 (MQ below (QW D A (some (.int out.1)) (wA aA cy σA ++ wS aS cy out.2)) args s 0 0 A) 12 [(0, .ref (aA 0)), (1, .ref (aS 0)), (2, .int y2), (4, .int y4), (5, .int y5), (6, .int y6)] []) :
    ∀ (σS : St2) (y2 : Int32) (y4 : Int32) (y5 : Int32) (y6 : Int32), f_X0_findMeant_45 N K12 σA σS y2 y4 y5 y6 = some out → J p l e { frames := 5, cells := 0, slots := 0, locals := 112 } s m args below meth c 7 (hW D A s (wA aA cy σA ++ wS aS cy σS)) 0 0 (MQ below (QW D A (some (.int out.1)) (wA aA cy σA ++ wS aS cy out.2)) args s 0 0 A) 45 [(0, .ref (aA 0)), (1, .ref (aS 0)), (2, .int y2), (4, .int y4), (5, .int y5), (6, .int y6)] [] := by
  intro σS y2 y4 y5 y6 hf
  unfold f_X0_findMeant_45 at hf
  refine j_iinc (pc := 45) (v := y6 + 1) (lv' := [(6, .int (y6 + 1)), (0, .ref (aA 0)), (1, .ref (aS 0)), (2, .int y2), (4, .int y4), (5, .int y5)]) F 5 dX0_findMeant_45 rfl rfl (by decide) rfl ?_
  refine j_goto (pc := 48) F (tgt := 12) dX0_findMeant_48 rfl ?_
  refine j_sub [1, 2, 3, 4, 5, 0] rfl ?_
  exact hK12 σS y2 y4 y5 (y6 + 1) hf
set_option maxHeartbeats 4000000 in
set_option maxRecDepth 100000 in
theorem b_X0_findMeant_12 {l : Launch} {D : va_G} {cy : Nat → ClassId} {g : Gs} {p : Program} {e : Env} {s : State} {m : MethodId} {args : Array Value} {below : List Frame} {meth : Method} {c : Code} {A : Nat → Prop} {aA : Nat → Nat} {aS : Nat → Nat} {σA : St2 × (Int64)} {N : Nat} {out : Int32 × St2} (F : Fx p s m args meth c cX0_findMeant RX0 7 (some .int)) (hK : va_K D vwCl (tys cy) s) (hS : St g A s s.heap) (hA : ∀ q, s.heap.size ≤ q → A q) :
    ∀ (n : Nat) (σS : St2) (y2 : Int32) (y4 : Int32) (y5 : Int32) (y6 : Int32), f_X0_findMeant_12 N n σA σS y2 y4 y5 y6 = some out → J p l e { frames := 5, cells := 0, slots := 0, locals := 112 } s m args below meth c 7 (hW D A s (wA aA cy σA ++ wS aS cy σS)) 0 0 (MQ below (QW D A (some (.int out.1)) (wA aA cy σA ++ wS aS cy out.2)) args s 0 0 A) 12 [(0, .ref (aA 0)), (1, .ref (aS 0)), (2, .int y2), (4, .int y4), (5, .int y5), (6, .int y6)] [] := by
  intro n
  induction n with
  | zero =>
    intro σS y2 y4 y5 y6 hf
    cases hf
  | succ n ih =>
    intro σS y2 y4 y5 y6 hf
    rw [f_X0_findMeant_12] at hf
    refine j_iload (pc := 12) F 5 dX0_findMeant_12 rfl ?_
    refine j_iload (pc := 14) F 3 dX0_findMeant_14 rfl ?_
    refine j_icmp_ge (pc := 16) (tgt := 51) F dX0_findMeant_16 rfl (fun c_1 => ?_) (fun c_1 => ?_)
    · have hf := of_pos c_1 hf
      refine j_iconst (pc := 51) F (v := (-1)) dX0_findMeant_51 rfl ?_
      have hf := (Option.some.inj hf)
      subst hf
      exact j_iretW (pc := 52) F dX0_findMeant_52 rfl rfl
    · have hf := of_neg c_1 hf
      refine j_aload_n (pc := 19) F 0 dX0_findMeant_19 rfl rfl ?_
      refine j_aload_n (pc := 20) F 1 dX0_findMeant_20 rfl rfl ?_
      refine j_iload (pc := 21) F 5 dX0_findMeant_21 rfl ?_
      refine j_iload_n (pc := 23) F 2 dX0_findMeant_23 rfl rfl ?_
      obtain ⟨o_2, ho_2, hf⟩ := of_bnd hf
      refine j_callRV (pc := 24) (st := []) (st1 := [.int (bI o_2)]) F hK (hpW hS hp_id) (c_X0_isMeant (l := l) (D := D) (cy := cy) (g := g) (aA := aA) (aS := aS) ho_2) tm_675 cf_X0_isMeant (Nat.le_of_ble_eq_true rfl) (Nat.le_of_ble_eq_true rfl) ⟨Nat.zero_le _, Nat.zero_le _⟩ 0 rfl rfl rfl rfl rfl (Nat.le_of_ble_eq_true rfl) rfl dX0_findMeant_24 ?_
      refine j_if_eq (pc := 27) (tgt := 45) F dX0_findMeant_27 rfl (fun c_3 => ?_) (fun c_3 => ?_)
      · have hf := of_pos c_3 hf
        exact b_X0_findMeant_45 F hK hS hA ih σS y2 y4 y5 y6 hf
      · have hf := of_neg c_3 hf
        refine j_iload (pc := 30) F 4 dX0_findMeant_30 rfl ?_
        refine j_if_ne (pc := 32) (tgt := 42) F dX0_findMeant_32 rfl (fun c_4 => ?_) (fun c_4 => ?_)
        · have hf := of_neg c_4 hf
          refine j_iinc (pc := 42) (v := y5 + (-1)) (lv' := [(5, .int (y5 + (-1))), (0, .ref (aA 0)), (1, .ref (aS 0)), (2, .int y2), (4, .int y4), (6, .int y6)]) F 4 dX0_findMeant_42 rfl rfl (by decide) rfl ?_
          refine j_sub [1, 2, 3, 4, 0, 5] rfl ?_
          exact b_X0_findMeant_45 F hK hS hA ih σS y2 y4 (y5 + (-1)) y6 hf
        · have hf := of_pos c_4 hf
          refine j_aload_n (pc := 35) F 1 dX0_findMeant_35 rfl rfl ?_
          refine j_iload (pc := 36) F 5 dX0_findMeant_36 rfl ?_
          obtain ⟨o_5, ho_5, hf⟩ := of_bnd hf
          refine j_callRV (pc := 38) (st := []) (st1 := [.int o_5]) F hK (hpW hS (hp_sub [2, 3, 4, 5] rfl)) (c_X5_moonAt (l := l) (D := D) (cy := cy) (g := g) (aS := aS) ho_5) tm_740 cf_X5_moonAt (Nat.le_of_ble_eq_true rfl) (Nat.le_of_ble_eq_true rfl) ⟨Nat.zero_le _, Nat.zero_le _⟩ 0 rfl rfl rfl rfl rfl (Nat.le_of_ble_eq_true rfl) rfl dX0_findMeant_38 ?_
          have hf := (Option.some.inj hf)
          subst hf
          exact j_iretW (pc := 41) F dX0_findMeant_41 rfl rfl
set_option maxHeartbeats 4000000 in
set_option maxRecDepth 100000 in
theorem c_X0_findMeant {l : Launch} {D : va_G} {cy : Nat → ClassId} {g : Gs} {aA : Nat → Nat} {aS : Nat → Nat} {σA : St2 × (Int64)} {σS : St2} {N : Nat} {x2 : Int32} {x3 : Int32} {out : Int32 × St2} (hf : f_X0_findMeant N σA σS x2 x3 = some out) : CW l D cy g yX0_findMeant cX0_findMeant 7 (some .int) 5 112 (wA aA cy σA ++ wS aS cy σS) [.ref (aA 0), .ref (aS 0), .int x2, .int x3] (some (.int out.1)) (wA aA cy σA ++ wS aS cy out.2) := by
  unfold f_X0_findMeant at hf
  refine met_W (lv := [(0, .ref (aA 0)), (1, .ref (aS 0)), (2, .int x2), (3, .int x3)]) (by decide) (Nat.le_of_ble_eq_true rfl) rfl ?_
  intro p e s m args below meth c A F hK hS hA
  refine j_aload_n (pc := 0) F 1 dX0_findMeant_0 rfl rfl ?_
  obtain ⟨o_1, ho_1, hf⟩ := of_bnd hf
  refine j_callWV (pc := 1) (st := []) (st1 := [.int o_1.1]) (wr := wA aA cy σA) (w' := wA aA cy σA ++ wS aS cy o_1.2) F hK hS hA (c_X5_listEclipses (l := l) (D := D) (cy := cy) (g := g) (aS := aS) ho_1) tm_674 cf_X5_listEclipses (Nat.le_of_ble_eq_true rfl) (Nat.le_of_ble_eq_true rfl) ⟨Nat.zero_le _, Nat.zero_le _⟩ 0 rfl rfl rfl rfl rfl (Nat.le_of_ble_eq_true rfl) [2, 3, 4, 5] [0, 1] [0, 1, 2, 3, 4, 5] rfl rfl rfl rfl (by decide) rfl rfl rfl dX0_findMeant_1 ?_
  refine j_istore (pc := 4) (lv' := [(4, .int o_1.1), (0, .ref (aA 0)), (1, .ref (aS 0)), (2, .int x2), (3, .int x3)]) F dX0_findMeant_4 (by decide) rfl ?_
  refine j_iload_n (pc := 6) F 4 dX0_findMeant_6 rfl rfl ?_
  refine j_istore (pc := 7) (lv' := [(5, .int x3), (4, .int o_1.1), (0, .ref (aA 0)), (1, .ref (aS 0)), (2, .int x2), (3, .int x3)]) F dX0_findMeant_7 (by decide) rfl ?_
  refine j_iconst (pc := 9) F (v := 0) dX0_findMeant_9 rfl ?_
  refine j_istore (pc := 10) (lv' := [(6, .int 0), (5, .int x3), (4, .int o_1.1), (0, .ref (aA 0)), (1, .ref (aS 0)), (2, .int x2), (3, .int x3)]) F dX0_findMeant_10 (by decide) rfl ?_
  refine j_sub [3, 4, 5, 2, 1, 0] rfl ?_
  exact b_X0_findMeant_12 F hK hS hA N o_1.2 x2 o_1.1 x3 0 hf
theorem cf_X0_findMeant : cfV yX0_findMeant cX0_findMeant 7 (some .int) 3 := ⟨tm_737, tm_738, tm_58, tm_739, by decide, by decide, by decide +kernel⟩

def f_X0_leastSlips_55 (N : Nat) (K11 : (St2 × (Int64)) → St2 → Int32 → Int32 → Int32 → Int32 → Option (Int32 × St2)) (σA : St2 × (Int64)) (σS : St2) (y2 : Int32) (y3 : Int32) (y4 : Int32) (y5 : Int32) : Option (Int32 × St2) := K11 σA σS y2 y3 y4 (y5 + 1)
def f_X0_leastSlips_11 (N : Nat) : Nat → (St2 × (Int64)) → St2 → Int32 → Int32 → Int32 → Int32 → Option (Int32 × St2)
  | 0, _, _, _, _, _, _ => none
  | n + 1, σA, σS, y2, y3, y4, y5 => if y3 ≤ y5 then if y4 = 5 then some ((-1), σS) else some (y4, σS) else if y4 ≤ 0 then if y4 = 5 then some ((-1), σS) else some (y4, σS) else (f_X0_hoursSeen σA σS y5 y2).bind fun o_5 => if o_5 = (-1) then f_X0_leastSlips_55 N (f_X0_leastSlips_11 N n) σA σS y2 y3 y4 y5 else (f_X0_slipsAt N σA o_5 (y4 - 1)).bind fun o_7 => f_X0_leastSlips_55 N (f_X0_leastSlips_11 N n) σA σS y2 y3 (f_J9_min_7cf53 y4 o_7) y5
def f_X0_leastSlips (N : Nat) (σA : St2 × (Int64)) (σS : St2) (x2 : Int32) : Option (Int32 × St2) := (f_X5_listEclipses N σS).bind fun o_1 => f_X0_leastSlips_11 N N σA o_1.2 x2 o_1.1 5 0
set_option maxHeartbeats 4000000 in
set_option maxRecDepth 100000 in
theorem b_X0_leastSlips_55 {l : Launch} {D : va_G} {cy : Nat → ClassId} {g : Gs} {p : Program} {e : Env} {s : State} {m : MethodId} {args : Array Value} {below : List Frame} {meth : Method} {c : Code} {A : Nat → Prop} {aA : Nat → Nat} {aS : Nat → Nat} {σA : St2 × (Int64)} {N : Nat} {out : Int32 × St2} {K11 : (St2 × (Int64)) → St2 → Int32 → Int32 → Int32 → Int32 → Option (Int32 × St2)} (F : Fx p s m args meth c cX0_leastSlips RX0 7 (some .int)) (hK : va_K D vwCl (tys cy) s) (hS : St g A s s.heap) (hA : ∀ q, s.heap.size ≤ q → A q) (hK11 : ∀ (σS : St2) (y2 : Int32) (y3 : Int32) (y4 : Int32) (y5 : Int32), K11 σA σS y2 y3 y4 y5 = some out → J p l e { frames := 4, cells := 0, slots := 0, locals := 89 } s m args below meth c 7 (hW D A s (wA aA cy σA ++ wS aS cy σS)) 0 0 (MQ below (QW D A (some (.int out.1)) (wA aA cy σA ++ wS aS cy out.2)) args s 0 0 A) 11 [(0, .ref (aA 0)), (1, .ref (aS 0)), (2, .int y2), (3, .int y3), (4, .int y4), (5, .int y5)] []) :
    ∀ (σS : St2) (y2 : Int32) (y3 : Int32) (y4 : Int32) (y5 : Int32), f_X0_leastSlips_55 N K11 σA σS y2 y3 y4 y5 = some out → J p l e { frames := 4, cells := 0, slots := 0, locals := 89 } s m args below meth c 7 (hW D A s (wA aA cy σA ++ wS aS cy σS)) 0 0 (MQ below (QW D A (some (.int out.1)) (wA aA cy σA ++ wS aS cy out.2)) args s 0 0 A) 55 [(0, .ref (aA 0)), (1, .ref (aS 0)), (2, .int y2), (3, .int y3), (4, .int y4), (5, .int y5)] [] := by
  intro σS y2 y3 y4 y5 hf
  unfold f_X0_leastSlips_55 at hf
  refine j_iinc (pc := 55) (v := y5 + 1) (lv' := [(5, .int (y5 + 1)), (0, .ref (aA 0)), (1, .ref (aS 0)), (2, .int y2), (3, .int y3), (4, .int y4)]) F 5 dX0_leastSlips_55 rfl rfl (by decide) rfl ?_
  refine j_goto (pc := 58) F (tgt := 11) dX0_leastSlips_58 rfl ?_
  refine j_sub [1, 2, 3, 4, 5, 0] rfl ?_
  exact hK11 σS y2 y3 y4 (y5 + 1) hf
set_option maxHeartbeats 4000000 in
set_option maxRecDepth 100000 in
theorem b_X0_leastSlips_11 {l : Launch} {D : va_G} {cy : Nat → ClassId} {g : Gs} {p : Program} {e : Env} {s : State} {m : MethodId} {args : Array Value} {below : List Frame} {meth : Method} {c : Code} {A : Nat → Prop} {aA : Nat → Nat} {aS : Nat → Nat} {σA : St2 × (Int64)} {N : Nat} {out : Int32 × St2} (F : Fx p s m args meth c cX0_leastSlips RX0 7 (some .int)) (hK : va_K D vwCl (tys cy) s) (hS : St g A s s.heap) (hA : ∀ q, s.heap.size ≤ q → A q) :
    ∀ (n : Nat) (σS : St2) (y2 : Int32) (y3 : Int32) (y4 : Int32) (y5 : Int32), f_X0_leastSlips_11 N n σA σS y2 y3 y4 y5 = some out → J p l e { frames := 4, cells := 0, slots := 0, locals := 89 } s m args below meth c 7 (hW D A s (wA aA cy σA ++ wS aS cy σS)) 0 0 (MQ below (QW D A (some (.int out.1)) (wA aA cy σA ++ wS aS cy out.2)) args s 0 0 A) 11 [(0, .ref (aA 0)), (1, .ref (aS 0)), (2, .int y2), (3, .int y3), (4, .int y4), (5, .int y5)] [] := by
  intro n
  induction n with
  | zero =>
    intro σS y2 y3 y4 y5 hf
    cases hf
  | succ n ih =>
    intro σS y2 y3 y4 y5 hf
    rw [f_X0_leastSlips_11] at hf
    refine j_iload (pc := 11) F 5 dX0_leastSlips_11 rfl ?_
    refine j_iload_n (pc := 13) F 3 dX0_leastSlips_13 rfl rfl ?_
    refine j_icmp_ge (pc := 14) (tgt := 61) F dX0_leastSlips_14 rfl (fun c_1 => ?_) (fun c_1 => ?_)
    · have hf := of_pos c_1 hf
      refine j_iload (pc := 61) F 4 dX0_leastSlips_61 rfl ?_
      refine j_iconst (pc := 63) F (v := 5) dX0_leastSlips_63 rfl ?_
      refine j_icmp_ne (pc := 64) (tgt := 71) F dX0_leastSlips_64 rfl (fun c_2 => ?_) (fun c_2 => ?_)
      · have hf := of_neg c_2 hf
        refine j_iload (pc := 71) F 4 dX0_leastSlips_71 rfl ?_
        have hf := (Option.some.inj hf)
        subst hf
        exact j_iretW (pc := 73) F dX0_leastSlips_73 rfl rfl
      · have hf := of_pos c_2 hf
        refine j_iconst (pc := 67) F (v := (-1)) dX0_leastSlips_67 rfl ?_
        refine j_goto (pc := 68) F (tgt := 73) dX0_leastSlips_68 rfl ?_
        have hf := (Option.some.inj hf)
        subst hf
        exact j_iretW (pc := 73) F dX0_leastSlips_73 rfl rfl
    · have hf := of_neg c_1 hf
      refine j_iload (pc := 17) F 4 dX0_leastSlips_17 rfl ?_
      refine j_if_le (pc := 19) (tgt := 61) F dX0_leastSlips_19 rfl (fun c_3 => ?_) (fun c_3 => ?_)
      · have hf := of_pos c_3 hf
        refine j_iload (pc := 61) F 4 dX0_leastSlips_61 rfl ?_
        refine j_iconst (pc := 63) F (v := 5) dX0_leastSlips_63 rfl ?_
        refine j_icmp_ne (pc := 64) (tgt := 71) F dX0_leastSlips_64 rfl (fun c_4 => ?_) (fun c_4 => ?_)
        · have hf := of_neg c_4 hf
          refine j_iload (pc := 71) F 4 dX0_leastSlips_71 rfl ?_
          have hf := (Option.some.inj hf)
          subst hf
          exact j_iretW (pc := 73) F dX0_leastSlips_73 rfl rfl
        · have hf := of_pos c_4 hf
          refine j_iconst (pc := 67) F (v := (-1)) dX0_leastSlips_67 rfl ?_
          refine j_goto (pc := 68) F (tgt := 73) dX0_leastSlips_68 rfl ?_
          have hf := (Option.some.inj hf)
          subst hf
          exact j_iretW (pc := 73) F dX0_leastSlips_73 rfl rfl
      · have hf := of_neg c_3 hf
        refine j_aload_n (pc := 22) F 0 dX0_leastSlips_22 rfl rfl ?_
        refine j_aload_n (pc := 23) F 1 dX0_leastSlips_23 rfl rfl ?_
        refine j_iload (pc := 24) F 5 dX0_leastSlips_24 rfl ?_
        refine j_iload_n (pc := 26) F 2 dX0_leastSlips_26 rfl rfl ?_
        obtain ⟨o_5, ho_5, hf⟩ := of_bnd hf
        refine j_callRV (pc := 27) (st := []) (st1 := [.int o_5]) F hK (hpW hS hp_id) (c_X0_hoursSeen (l := l) (D := D) (cy := cy) (g := g) (aA := aA) (aS := aS) ho_5) tm_679 cf_X0_hoursSeen (Nat.le_of_ble_eq_true rfl) (Nat.le_of_ble_eq_true rfl) ⟨Nat.zero_le _, Nat.zero_le _⟩ 0 rfl rfl rfl rfl rfl (Nat.le_of_ble_eq_true rfl) rfl dX0_leastSlips_27 ?_
        refine j_istore (pc := 30) (lv' := [(6, .int o_5), (0, .ref (aA 0)), (1, .ref (aS 0)), (2, .int y2), (3, .int y3), (4, .int y4), (5, .int y5)]) F dX0_leastSlips_30 (by decide) rfl ?_
        refine j_iload (pc := 32) F 0 dX0_leastSlips_32 rfl ?_
        refine j_iconst (pc := 34) F (v := (-1)) dX0_leastSlips_34 rfl ?_
        refine j_icmp_eq (pc := 35) (tgt := 55) F dX0_leastSlips_35 rfl (fun c_6 => ?_) (fun c_6 => ?_)
        · have hf := of_pos c_6 hf
          refine j_sub [1, 2, 3, 4, 5, 6] rfl ?_
          exact b_X0_leastSlips_55 F hK hS hA ih σS y2 y3 y4 y5 hf
        · have hf := of_neg c_6 hf
          refine j_iload (pc := 38) F 5 dX0_leastSlips_38 rfl ?_
          refine j_aload_n (pc := 40) F 1 dX0_leastSlips_40 rfl rfl ?_
          refine j_iload (pc := 41) F 0 dX0_leastSlips_41 rfl ?_
          refine j_iload (pc := 43) F 5 dX0_leastSlips_43 rfl ?_
          refine j_iconst (pc := 45) F (v := 1) dX0_leastSlips_45 rfl ?_
          refine j_isub (pc := 46) F dX0_leastSlips_46 ?_
          obtain ⟨o_7, ho_7, hf⟩ := of_bnd hf
          refine j_callRV (pc := 47) (st := [.int y4]) (st1 := [.int o_7, .int y4]) F hK (hpW hS (hp_sub [0, 1] rfl)) (c_X0_slipsAt (l := l) (D := D) (cy := cy) (g := g) (aA := aA) ho_7) tm_716 cf_X0_slipsAt (Nat.le_of_ble_eq_true rfl) (Nat.le_of_ble_eq_true rfl) ⟨Nat.zero_le _, Nat.zero_le _⟩ 0 rfl rfl rfl rfl rfl (Nat.le_of_ble_eq_true rfl) rfl dX0_leastSlips_47 ?_
          refine j_callRS (pc := 50) (st := []) (st1 := [.int (f_J9_min_7cf53 y4 o_7)]) F hK (hpW hS hp_nil) (c_J9_min_7cf53 (l := l) (D := D) (cy := cy) (g := g) (rfl : f_J9_min_7cf53 y4 o_7 = _)) tm_749 cf_J9_min_7cf53 (Nat.le_of_ble_eq_true rfl) (Nat.le_of_ble_eq_true rfl) ⟨Nat.zero_le _, Nat.zero_le _⟩ rfl rfl (Nat.le_of_ble_eq_true rfl) rfl dX0_leastSlips_50 ?_
          refine j_istore (pc := 53) (lv' := [(4, .int (f_J9_min_7cf53 y4 o_7)), (6, .int o_5), (0, .ref (aA 0)), (1, .ref (aS 0)), (2, .int y2), (3, .int y3), (5, .int y5)]) F dX0_leastSlips_53 (by decide) rfl ?_
          refine j_sub [2, 3, 4, 5, 0, 6] rfl ?_
          exact b_X0_leastSlips_55 F hK hS hA ih σS y2 y3 (f_J9_min_7cf53 y4 o_7) y5 hf
set_option maxHeartbeats 4000000 in
set_option maxRecDepth 100000 in
theorem c_X0_leastSlips {l : Launch} {D : va_G} {cy : Nat → ClassId} {g : Gs} {aA : Nat → Nat} {aS : Nat → Nat} {σA : St2 × (Int64)} {σS : St2} {N : Nat} {x2 : Int32} {out : Int32 × St2} (hf : f_X0_leastSlips N σA σS x2 = some out) : CW l D cy g yX0_leastSlips cX0_leastSlips 7 (some .int) 4 89 (wA aA cy σA ++ wS aS cy σS) [.ref (aA 0), .ref (aS 0), .int x2] (some (.int out.1)) (wA aA cy σA ++ wS aS cy out.2) := by
  unfold f_X0_leastSlips at hf
  refine met_W (lv := [(0, .ref (aA 0)), (1, .ref (aS 0)), (2, .int x2)]) (by decide) (Nat.le_of_ble_eq_true rfl) rfl ?_
  intro p e s m args below meth c A F hK hS hA
  refine j_aload_n (pc := 0) F 1 dX0_leastSlips_0 rfl rfl ?_
  obtain ⟨o_1, ho_1, hf⟩ := of_bnd hf
  refine j_callWV (pc := 1) (st := []) (st1 := [.int o_1.1]) (wr := wA aA cy σA) (w' := wA aA cy σA ++ wS aS cy o_1.2) F hK hS hA (c_X5_listEclipses (l := l) (D := D) (cy := cy) (g := g) (aS := aS) ho_1) tm_674 cf_X5_listEclipses (Nat.le_of_ble_eq_true rfl) (Nat.le_of_ble_eq_true rfl) ⟨Nat.zero_le _, Nat.zero_le _⟩ 0 rfl rfl rfl rfl rfl (Nat.le_of_ble_eq_true rfl) [2, 3, 4, 5] [0, 1] [0, 1, 2, 3, 4, 5] rfl rfl rfl rfl (by decide) rfl rfl rfl dX0_leastSlips_1 ?_
  refine j_istore_n (pc := 4) (lv' := [(3, .int o_1.1), (0, .ref (aA 0)), (1, .ref (aS 0)), (2, .int x2)]) F dX0_leastSlips_4 rfl (by decide) rfl ?_
  refine j_iconst (pc := 5) F (v := 5) dX0_leastSlips_5 rfl ?_
  refine j_istore (pc := 6) (lv' := [(4, .int 5), (3, .int o_1.1), (0, .ref (aA 0)), (1, .ref (aS 0)), (2, .int x2)]) F dX0_leastSlips_6 (by decide) rfl ?_
  refine j_iconst (pc := 8) F (v := 0) dX0_leastSlips_8 rfl ?_
  refine j_istore (pc := 9) (lv' := [(5, .int 0), (4, .int 5), (3, .int o_1.1), (0, .ref (aA 0)), (1, .ref (aS 0)), (2, .int x2)]) F dX0_leastSlips_9 (by decide) rfl ?_
  refine j_sub [3, 4, 5, 2, 1, 0] rfl ?_
  exact b_X0_leastSlips_11 F hK hS hA N o_1.2 x2 o_1.1 5 0 hf
theorem cf_X0_leastSlips : cfV yX0_leastSlips cX0_leastSlips 7 (some .int) 2 := ⟨tm_746, tm_747, tm_58, tm_748, by decide, by decide, by decide +kernel⟩

def f_X0_slowsLet_68 (N : Nat) (K28 : (St2 × (Int64)) → St2 → Int32 → Int32 → Option (Int64 × (St2 × (Int64)) × St2)) (σA : St2 × (Int64)) (σS : St2) (y2 : Int32) (y3 : Int32) : Option (Int64 × (St2 × (Int64)) × St2) := K28 σA σS y2 (y3 + 1)
def f_X0_slowsLet_28 (N : Nat) : Nat → (St2 × (Int64)) → St2 → Int32 → Int32 → Option (Int64 × (St2 × (Int64)) × St2)
  | 0, _, _, _, _ => none
  | n + 1, σA, σS, y2, y3 => if y2 ≤ y3 then lt (f_X5_tablesVersion σS : Int32) fun z_3 => some (σA.2, (up2 σA.1 0 6 z_3, σA.2), σS) else if (lg_cmp σA.2 2305843009213693951) = 0 then lt (f_X5_tablesVersion σS : Int32) fun z_6 => some (σA.2, (up2 σA.1 0 6 z_6, σA.2), σS) else (f_X0_isOfKind σA σS y3).bind fun o_7 => if (bI o_7) = 0 then f_X0_slowsLet_68 N (f_X0_slowsLet_28 N n) σA σS y2 y3 else (f_X0_slowsMeaning N σA σS y3).bind fun o_9 => lt (σA.2 ||| o_9 : Int64) fun z_10 => f_X0_slowsLet_68 N (f_X0_slowsLet_28 N n) (σA.1, z_10) σS y2 y3
def f_X0_slowsLet (N : Nat) (σA : St2 × (Int64)) (σS : St2) : Option (Int64 × (St2 × (Int64)) × St2) := if (σA.1 0 6) = (f_X5_tablesVersion σS) then some (σA.2, σA, σS) else (f_X5_listEclipses N σS).bind fun o_3 => f_X0_slowsLet_28 N N (σA.1, 0) o_3.2 o_3.1 0
set_option maxHeartbeats 4000000 in
set_option maxRecDepth 100000 in
theorem b_X0_slowsLet_68 {l : Launch} {D : va_G} {cy : Nat → ClassId} {g : Gs} {p : Program} {e : Env} {s : State} {m : MethodId} {args : Array Value} {below : List Frame} {meth : Method} {c : Code} {A : Nat → Prop} {aA : Nat → Nat} {aS : Nat → Nat} {N : Nat} {out : Int64 × (St2 × (Int64)) × St2} {K28 : (St2 × (Int64)) → St2 → Int32 → Int32 → Option (Int64 × (St2 × (Int64)) × St2)} (F : Fx p s m args meth c cX0_slowsLet RX0 4 (some .long)) (hK : va_K D vwCl (tys cy) s) (hS : St g A s s.heap) (hA : ∀ q, s.heap.size ≤ q → A q) (hK28 : ∀ (σA : St2 × (Int64)) (σS : St2) (y2 : Int32) (y3 : Int32), K28 σA σS y2 y3 = some out → J p l e { frames := 4, cells := 0, slots := 0, locals := 101 } s m args below meth c 4 (hW D A s (wA aA cy σA ++ wS aS cy σS)) 0 0 (MQ below (QW D A (some (.long out.1)) (wA aA cy out.2.1 ++ wS aS cy out.2.2)) args s 0 0 A) 28 [(0, .ref (aA 0)), (1, .ref (aS 0)), (2, .int y2), (3, .int y3)] []) :
    ∀ (σA : St2 × (Int64)) (σS : St2) (y2 : Int32) (y3 : Int32), f_X0_slowsLet_68 N K28 σA σS y2 y3 = some out → J p l e { frames := 4, cells := 0, slots := 0, locals := 101 } s m args below meth c 4 (hW D A s (wA aA cy σA ++ wS aS cy σS)) 0 0 (MQ below (QW D A (some (.long out.1)) (wA aA cy out.2.1 ++ wS aS cy out.2.2)) args s 0 0 A) 68 [(0, .ref (aA 0)), (1, .ref (aS 0)), (2, .int y2), (3, .int y3)] [] := by
  intro σA σS y2 y3 hf
  unfold f_X0_slowsLet_68 at hf
  refine j_iinc (pc := 68) (v := y3 + 1) (lv' := [(3, .int (y3 + 1)), (0, .ref (aA 0)), (1, .ref (aS 0)), (2, .int y2)]) F 3 dX0_slowsLet_68 rfl rfl (by decide) rfl ?_
  refine j_goto (pc := 71) F (tgt := 28) dX0_slowsLet_71 rfl ?_
  refine j_sub [1, 2, 3, 0] rfl ?_
  exact hK28 σA σS y2 (y3 + 1) hf
set_option maxHeartbeats 4000000 in
set_option maxRecDepth 100000 in
theorem b_X0_slowsLet_28 {l : Launch} {D : va_G} {cy : Nat → ClassId} {g : Gs} {p : Program} {e : Env} {s : State} {m : MethodId} {args : Array Value} {below : List Frame} {meth : Method} {c : Code} {A : Nat → Prop} {aA : Nat → Nat} {aS : Nat → Nat} {N : Nat} {out : Int64 × (St2 × (Int64)) × St2} (F : Fx p s m args meth c cX0_slowsLet RX0 4 (some .long)) (hK : va_K D vwCl (tys cy) s) (hS : St g A s s.heap) (hA : ∀ q, s.heap.size ≤ q → A q) :
    ∀ (n : Nat) (σA : St2 × (Int64)) (σS : St2) (y2 : Int32) (y3 : Int32), f_X0_slowsLet_28 N n σA σS y2 y3 = some out → J p l e { frames := 4, cells := 0, slots := 0, locals := 101 } s m args below meth c 4 (hW D A s (wA aA cy σA ++ wS aS cy σS)) 0 0 (MQ below (QW D A (some (.long out.1)) (wA aA cy out.2.1 ++ wS aS cy out.2.2)) args s 0 0 A) 28 [(0, .ref (aA 0)), (1, .ref (aS 0)), (2, .int y2), (3, .int y3)] [] := by
  intro n
  induction n with
  | zero =>
    intro σA σS y2 y3 hf
    cases hf
  | succ n ih =>
    intro σA σS y2 y3 hf
    rw [f_X0_slowsLet_28] at hf
    refine j_iload_n (pc := 28) F 3 dX0_slowsLet_28 rfl rfl ?_
    refine j_iload_n (pc := 29) F 2 dX0_slowsLet_29 rfl rfl ?_
    refine j_icmp_ge (pc := 30) (tgt := 74) F dX0_slowsLet_30 rfl (fun c_1 => ?_) (fun c_1 => ?_)
    · have hf := of_pos c_1 hf
      refine j_aload_n (pc := 74) F 0 dX0_slowsLet_74 rfl rfl ?_
      refine j_aload_n (pc := 75) F 1 dX0_slowsLet_75 rfl rfl ?_
      refine j_callRV (pc := 76) (st := [.ref (aA 0)]) (st1 := [.int (f_X5_tablesVersion σS), .ref (aA 0)]) F hK (hpW hS (hp_sub [2, 3, 4, 5] rfl)) (c_X5_tablesVersion (l := l) (D := D) (cy := cy) (g := g) (aS := aS) (rfl : f_X5_tablesVersion σS = _)) tm_758 cf_X5_tablesVersion (Nat.le_of_ble_eq_true rfl) (Nat.le_of_ble_eq_true rfl) ⟨Nat.zero_le _, Nat.zero_le _⟩ 0 rfl rfl rfl rfl rfl (Nat.le_of_ble_eq_true rfl) rfl dX0_slowsLet_76 ?_
      obtain ⟨z_3, ez_3, hf⟩ := of_lt hf
      refine j_topi ez_3 ?_
      refine jw_put (pc := 79) (w' := wA aA cy (up2 σA.1 0 6 z_3, σA.2) ++ wS aS cy σS) F hK ix_0 tyX0 tyX0_ok nmX0 0 rfl rfl 6 (by decide) tm_163 rfl rfl rfl rfl rfl (Nat.le_of_ble_eq_true rfl) rfl dX0_slowsLet_79 ?_
      refine j_aload_n (pc := 82) F 0 dX0_slowsLet_82 rfl rfl ?_
      refine jw_get (pc := 83) (v := .long σA.2) F hK ix_0 0 rfl rfl 5 (by decide) tm_162 rfl rfl dX0_slowsLet_83 ?_
      have hf := (Option.some.inj hf)
      subst hf
      exact j_lretW (pc := 86) F dX0_slowsLet_86 rfl rfl
    · have hf := of_neg c_1 hf
      refine j_aload_n (pc := 33) F 0 dX0_slowsLet_33 rfl rfl ?_
      refine jw_get (pc := 34) (v := .long σA.2) F hK ix_0 0 rfl rfl 5 (by decide) tm_162 rfl rfl dX0_slowsLet_34 ?_
      refine j_ldc2 (pc := 37) F tm_762 dX0_slowsLet_37 ?_
      refine j_lcmp (pc := 40) F dX0_slowsLet_40 ?_
      refine j_if_eq (pc := 41) (tgt := 74) F dX0_slowsLet_41 rfl (fun c_4 => ?_) (fun c_4 => ?_)
      · have hf := of_pos c_4 hf
        refine j_aload_n (pc := 74) F 0 dX0_slowsLet_74 rfl rfl ?_
        refine j_aload_n (pc := 75) F 1 dX0_slowsLet_75 rfl rfl ?_
        refine j_callRV (pc := 76) (st := [.ref (aA 0)]) (st1 := [.int (f_X5_tablesVersion σS), .ref (aA 0)]) F hK (hpW hS (hp_sub [2, 3, 4, 5] rfl)) (c_X5_tablesVersion (l := l) (D := D) (cy := cy) (g := g) (aS := aS) (rfl : f_X5_tablesVersion σS = _)) tm_758 cf_X5_tablesVersion (Nat.le_of_ble_eq_true rfl) (Nat.le_of_ble_eq_true rfl) ⟨Nat.zero_le _, Nat.zero_le _⟩ 0 rfl rfl rfl rfl rfl (Nat.le_of_ble_eq_true rfl) rfl dX0_slowsLet_76 ?_
        obtain ⟨z_6, ez_6, hf⟩ := of_lt hf
        refine j_topi ez_6 ?_
        refine jw_put (pc := 79) (w' := wA aA cy (up2 σA.1 0 6 z_6, σA.2) ++ wS aS cy σS) F hK ix_0 tyX0 tyX0_ok nmX0 0 rfl rfl 6 (by decide) tm_163 rfl rfl rfl rfl rfl (Nat.le_of_ble_eq_true rfl) rfl dX0_slowsLet_79 ?_
        refine j_aload_n (pc := 82) F 0 dX0_slowsLet_82 rfl rfl ?_
        refine jw_get (pc := 83) (v := .long σA.2) F hK ix_0 0 rfl rfl 5 (by decide) tm_162 rfl rfl dX0_slowsLet_83 ?_
        have hf := (Option.some.inj hf)
        subst hf
        exact j_lretW (pc := 86) F dX0_slowsLet_86 rfl rfl
      · have hf := of_neg c_4 hf
        refine j_aload_n (pc := 44) F 0 dX0_slowsLet_44 rfl rfl ?_
        refine j_aload_n (pc := 45) F 1 dX0_slowsLet_45 rfl rfl ?_
        refine j_iload_n (pc := 46) F 3 dX0_slowsLet_46 rfl rfl ?_
        obtain ⟨o_7, ho_7, hf⟩ := of_bnd hf
        refine j_callRV (pc := 47) (st := []) (st1 := [.int (bI o_7)]) F hK (hpW hS hp_id) (c_X0_isOfKind (l := l) (D := D) (cy := cy) (g := g) (aA := aA) (aS := aS) ho_7) tm_683 cf_X0_isOfKind (Nat.le_of_ble_eq_true rfl) (Nat.le_of_ble_eq_true rfl) ⟨Nat.zero_le _, Nat.zero_le _⟩ 0 rfl rfl rfl rfl rfl (Nat.le_of_ble_eq_true rfl) rfl dX0_slowsLet_47 ?_
        refine j_if_eq (pc := 50) (tgt := 68) F dX0_slowsLet_50 rfl (fun c_8 => ?_) (fun c_8 => ?_)
        · have hf := of_pos c_8 hf
          exact b_X0_slowsLet_68 F hK hS hA ih σA σS y2 y3 hf
        · have hf := of_neg c_8 hf
          refine j_aload_n (pc := 53) F 0 dX0_slowsLet_53 rfl rfl ?_
          refine j_dup (pc := 54) F dX0_slowsLet_54 rfl ?_
          refine jw_get (pc := 55) (v := .long σA.2) F hK ix_0 0 rfl rfl 5 (by decide) tm_162 rfl rfl dX0_slowsLet_55 ?_
          refine j_aload_n (pc := 58) F 0 dX0_slowsLet_58 rfl rfl ?_
          refine j_aload_n (pc := 59) F 1 dX0_slowsLet_59 rfl rfl ?_
          refine j_iload_n (pc := 60) F 3 dX0_slowsLet_60 rfl rfl ?_
          obtain ⟨o_9, ho_9, hf⟩ := of_bnd hf
          refine j_callRV (pc := 61) (st := [.long σA.2, .ref (aA 0)]) (st1 := [.long o_9, .long σA.2, .ref (aA 0)]) F hK (hpW hS hp_id) (c_X0_slowsMeaning (l := l) (D := D) (cy := cy) (g := g) (aA := aA) (aS := aS) ho_9) tm_763 cf_X0_slowsMeaning (Nat.le_of_ble_eq_true rfl) (Nat.le_of_ble_eq_true rfl) ⟨Nat.zero_le _, Nat.zero_le _⟩ 0 rfl rfl rfl rfl rfl (Nat.le_of_ble_eq_true rfl) rfl dX0_slowsLet_61 ?_
          refine j_lor (pc := 64) F dX0_slowsLet_64 ?_
          obtain ⟨z_10, ez_10, hf⟩ := of_lt hf
          refine j_topl ez_10 ?_
          refine jw_put (pc := 65) (w' := wA aA cy (σA.1, z_10) ++ wS aS cy σS) F hK ix_0 tyX0 tyX0_ok nmX0 0 rfl rfl 5 (by decide) tm_162 rfl rfl rfl rfl rfl (Nat.le_of_ble_eq_true rfl) rfl dX0_slowsLet_65 ?_
          exact b_X0_slowsLet_68 F hK hS hA ih (σA.1, z_10) σS y2 y3 hf
set_option maxHeartbeats 4000000 in
set_option maxRecDepth 100000 in
theorem c_X0_slowsLet {l : Launch} {D : va_G} {cy : Nat → ClassId} {g : Gs} {aA : Nat → Nat} {aS : Nat → Nat} {σA : St2 × (Int64)} {σS : St2} {N : Nat} {out : Int64 × (St2 × (Int64)) × St2} (hf : f_X0_slowsLet N σA σS = some out) : CW l D cy g yX0_slowsLet cX0_slowsLet 4 (some .long) 4 101 (wA aA cy σA ++ wS aS cy σS) [.ref (aA 0), .ref (aS 0)] (some (.long out.1)) (wA aA cy out.2.1 ++ wS aS cy out.2.2) := by
  unfold f_X0_slowsLet at hf
  refine met_W (lv := [(0, .ref (aA 0)), (1, .ref (aS 0))]) (by decide) (Nat.le_of_ble_eq_true rfl) rfl ?_
  intro p e s m args below meth c A F hK hS hA
  refine j_aload_n (pc := 0) F 0 dX0_slowsLet_0 rfl rfl ?_
  refine jw_get (pc := 1) (v := .int (σA.1 0 6)) F hK ix_0 0 rfl rfl 6 (by decide) tm_163 rfl rfl dX0_slowsLet_1 ?_
  refine j_aload_n (pc := 4) F 1 dX0_slowsLet_4 rfl rfl ?_
  refine j_callRV (pc := 5) (st := [.int (σA.1 0 6)]) (st1 := [.int (f_X5_tablesVersion σS), .int (σA.1 0 6)]) F hK (hpW hS (hp_sub [2, 3, 4, 5] rfl)) (c_X5_tablesVersion (l := l) (D := D) (cy := cy) (g := g) (aS := aS) (rfl : f_X5_tablesVersion σS = _)) tm_758 cf_X5_tablesVersion (Nat.le_of_ble_eq_true rfl) (Nat.le_of_ble_eq_true rfl) ⟨Nat.zero_le _, Nat.zero_le _⟩ 0 rfl rfl rfl rfl rfl (Nat.le_of_ble_eq_true rfl) rfl dX0_slowsLet_5 ?_
  refine j_icmp_ne (pc := 8) (tgt := 16) F dX0_slowsLet_8 rfl (fun c_2 => ?_) (fun c_2 => ?_)
  · have hf := of_neg c_2 hf
    refine j_aload_n (pc := 16) F 1 dX0_slowsLet_16 rfl rfl ?_
    obtain ⟨o_3, ho_3, hf⟩ := of_bnd hf
    refine j_callWV (pc := 17) (st := []) (st1 := [.int o_3.1]) (wr := wA aA cy σA) (w' := wA aA cy σA ++ wS aS cy o_3.2) F hK hS hA (c_X5_listEclipses (l := l) (D := D) (cy := cy) (g := g) (aS := aS) ho_3) tm_674 cf_X5_listEclipses (Nat.le_of_ble_eq_true rfl) (Nat.le_of_ble_eq_true rfl) ⟨Nat.zero_le _, Nat.zero_le _⟩ 0 rfl rfl rfl rfl rfl (Nat.le_of_ble_eq_true rfl) [2, 3, 4, 5] [0, 1] [0, 1, 2, 3, 4, 5] rfl rfl rfl rfl (by decide) rfl rfl rfl dX0_slowsLet_17 ?_
    refine j_istore_n (pc := 20) (lv' := [(2, .int o_3.1), (0, .ref (aA 0)), (1, .ref (aS 0))]) F dX0_slowsLet_20 rfl (by decide) rfl ?_
    refine j_aload_n (pc := 21) F 1 dX0_slowsLet_21 rfl rfl ?_
    refine j_lconst (pc := 22) F (v := 0) dX0_slowsLet_22 rfl ?_
    refine jw_put (pc := 23) (w' := wA aA cy (σA.1, 0) ++ wS aS cy o_3.2) F hK ix_0 tyX0 tyX0_ok nmX0 0 rfl rfl 5 (by decide) tm_162 rfl rfl rfl rfl rfl (Nat.le_of_ble_eq_true rfl) rfl dX0_slowsLet_23 ?_
    refine j_iconst (pc := 26) F (v := 0) dX0_slowsLet_26 rfl ?_
    refine j_istore_n (pc := 27) (lv' := [(3, .int 0), (2, .int o_3.1), (0, .ref (aA 0)), (1, .ref (aS 0))]) F dX0_slowsLet_27 rfl (by decide) rfl ?_
    refine j_sub [2, 3, 1, 0] rfl ?_
    exact b_X0_slowsLet_28 F hK hS hA N (σA.1, 0) o_3.2 o_3.1 0 hf
  · have hf := of_pos c_2 hf
    refine j_aload_n (pc := 11) F 0 dX0_slowsLet_11 rfl rfl ?_
    refine jw_get (pc := 12) (v := .long σA.2) F hK ix_0 0 rfl rfl 5 (by decide) tm_162 rfl rfl dX0_slowsLet_12 ?_
    have hf := (Option.some.inj hf)
    subst hf
    exact j_lretW (pc := 15) F dX0_slowsLet_15 rfl rfl
theorem cf_X0_slowsLet : cfV yX0_slowsLet cX0_slowsLet 4 (some .long) 1 := ⟨tm_755, tm_756, tm_58, tm_757, by decide, by decide, by decide +kernel⟩
