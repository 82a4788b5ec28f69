def f_X1_hasRoom (σV : St2 × (Nat → Nat)) : Bool := if 8 ≤ (σV.1 0 1) then false else true
set_option maxHeartbeats 4000000 in
set_option maxRecDepth 100000 in
theorem c_X1_hasRoom {l : Launch} {D : va_G} {cy : Nat → ClassId} {g : Gs} {aV : Nat → Nat} {aQ : Nat → Nat → Nat} {σV : St2 × (Nat → Nat)} {out : Bool} (hf : f_X1_hasRoom σV = out) : CR l D cy g yX1_hasRoom cX1_hasRoom 1 (some .boolean) 0 0 (wV aV aQ cy σV) [.ref (aV 0)] (some (.int (bI out))) := by
  unfold f_X1_hasRoom at hf
  refine met_R (lv := [(0, .ref (aV 0))]) (by decide) (Nat.le_of_ble_eq_true rfl) rfl ?_
  intro p e s m args below meth c F hP hK hS
  refine j_aload_n (pc := 0) F 0 dX1_hasRoom_0 rfl rfl ?_
  refine jr_get (pc := 1) (v := .int (σV.1 0 1)) F hK hP ix_1 0 rfl rfl 1 (by decide) tm_180 rfl rfl dX1_hasRoom_1 ?_
  refine j_bipush (pc := 4) F (v := 8) dX1_hasRoom_4 rfl ?_
  refine j_icmp_ge (pc := 6) (tgt := 13) F dX1_hasRoom_6 rfl (fun c_1 => ?_) (fun c_1 => ?_)
  · have hf := of_pos c_1 hf
    refine j_iconst (pc := 13) F (v := 0) dX1_hasRoom_13 rfl ?_
    exact j_zretR (pc := 14) F dX1_hasRoom_14 (congrArg bI hf)
  · have hf := of_neg c_1 hf
    refine j_iconst (pc := 9) F (v := 1) dX1_hasRoom_9 rfl ?_
    refine j_goto (pc := 10) F (tgt := 14) dX1_hasRoom_10 rfl ?_
    exact j_zretR (pc := 14) F dX1_hasRoom_14 (congrArg bI hf)
theorem cf_X1_hasRoom : cfV yX1_hasRoom cX1_hasRoom 1 (some .boolean) 0 := ⟨tm_458, tm_459, tm_57, tm_460, by decide, by decide, by decide +kernel⟩

def f_X1_spare (σV : St2 × (Nat → Nat)) : Option (Option Nat) := if (bI (f_X1_hasRoom σV)) = 0 then some none else if (σV.1 0 1) < 0 ∨ 8 ≤ Int32.toNatClampNeg (σV.1 0 1) then none else some (some (σV.2 (Int32.toNatClampNeg (σV.1 0 1))))
set_option maxHeartbeats 4000000 in
set_option maxRecDepth 100000 in
theorem c_X1_spare {l : Launch} {D : va_G} {cy : Nat → ClassId} {g : Gs} {aV : Nat → Nat} {aQ : Nat → Nat → Nat} {σV : St2 × (Nat → Nat)} {out : Option Nat} (hf : f_X1_spare σV = some out) : CR l D cy g yX1_spare cX1_spare 1 (some (.object "EclipseHouse$Account")) 1 20 (wV aV aQ cy σV) [.ref (aV 0)] (some (va_rf (out.map (fun j => aQ j 0)))) := by
  unfold f_X1_spare at hf
  refine met_R (lv := [(0, .ref (aV 0))]) (by decide) (Nat.le_of_ble_eq_true rfl) rfl ?_
  intro p e s m args below meth c F hP hK hS
  refine j_aload_n (pc := 0) F 0 dX1_spare_0 rfl rfl ?_
  refine j_callRV (pc := 1) (st := []) (st1 := [.int (bI (f_X1_hasRoom σV))]) F hK (hpR hP hS hp_id) (c_X1_hasRoom (l := l) (D := D) (cy := cy) (g := g) (aV := aV) (aQ := aQ) (rfl : f_X1_hasRoom σV = _)) tm_465 cf_X1_hasRoom (Nat.le_of_ble_eq_true rfl) (Nat.le_of_ble_eq_true rfl) ⟨Nat.zero_le _, Nat.zero_le _⟩ 0 rfl rfl rfl rfl rfl (Nat.le_of_ble_eq_true rfl) rfl dX1_spare_1 ?_
  refine j_if_eq (pc := 4) (tgt := 19) F dX1_spare_4 rfl (fun c_2 => ?_) (fun c_2 => ?_)
  · have hf := of_pos c_2 hf
    refine j_null (pc := 19) F dX1_spare_19 ?_
    exact j_aretR (pc := 20) F dX1_spare_20 (congrArg (fun z : Option Nat => va_rf (z.map (fun j => aQ j 0))) (Option.some.inj hf))
  · have hf := of_neg c_2 hf
    refine j_aload_n (pc := 7) F 0 dX1_spare_7 rfl rfl ?_
    refine jr_get (pc := 8) (v := .ref (aV 1)) F hK hP ix_1 0 rfl rfl 0 (by decide) tm_179 rfl rfl dX1_spare_8 ?_
    refine j_aload_n (pc := 11) F 0 dX1_spare_11 rfl rfl ?_
    refine jr_get (pc := 12) (v := .int (σV.1 0 1)) F hK hP ix_1 0 rfl rfl 1 (by decide) tm_180 rfl rfl dX1_spare_12 ?_
    have c_3 : ¬ ((σV.1 0 1) < 0 ∨ 8 ≤ Int32.toNatClampNeg (σV.1 0 1)) := fun z => by rw [if_pos z] at hf; cases hf
    have hf := of_neg c_3 hf
    refine jr_aald (pc := 15) (v := .ref (aQ (σV.2 (Int32.toNatClampNeg (σV.1 0 1))) 0)) F hK hP 1 rfl c_3 rfl dX1_spare_15 ?_
    refine j_goto (pc := 16) F (tgt := 20) dX1_spare_16 rfl ?_
    exact j_aretR (pc := 20) F dX1_spare_20 (congrArg (fun z : Option Nat => va_rf (z.map (fun j => aQ j 0))) (Option.some.inj hf))
theorem cf_X1_spare : cfV yX1_spare cX1_spare 1 (some (.object "EclipseHouse$Account")) 0 := ⟨tm_462, tm_463, tm_57, tm_464, by decide, by decide, by decide +kernel⟩

def f_X1_keepSpare (σV : St2 × (Nat → Nat)) : Int32 × (St2 × (Nat → Nat)) := if (bI (f_X1_hasRoom σV)) = 0 then ((-1), σV) else lt ((σV.1 0 1) + 1 : Int32) fun z_3 => (z_3 - 1, (up2 σV.1 0 1 z_3, σV.2))
set_option maxHeartbeats 4000000 in
set_option maxRecDepth 100000 in
theorem c_X1_keepSpare {l : Launch} {D : va_G} {cy : Nat → ClassId} {g : Gs} {aV : Nat → Nat} {aQ : Nat → Nat → Nat} {σV : St2 × (Nat → Nat)} {out : Int32 × (St2 × (Nat → Nat))} (hf : f_X1_keepSpare σV = out) : CW l D cy g yX1_keepSpare cX1_keepSpare 1 (some .int) 1 20 (wV aV aQ cy σV) [.ref (aV 0)] (some (.int out.1)) (wV aV aQ cy out.2) := by
  unfold f_X1_keepSpare at hf
  refine met_W (lv := [(0, .ref (aV 0))]) (by decide) (Nat.le_of_ble_eq_true rfl) rfl ?_
  intro p e s m args below meth c A F hK hS hA
  refine j_aload_n (pc := 0) F 0 dX1_keepSpare_0 rfl rfl ?_
  refine j_callRV (pc := 1) (st := []) (st1 := [.int (bI (f_X1_hasRoom σV))]) F hK (hpW hS hp_id) (c_X1_hasRoom (l := l) (D := D) (cy := cy) (g := g) (aV := aV) (aQ := aQ) (rfl : f_X1_hasRoom σV = _)) tm_465 cf_X1_hasRoom (Nat.le_of_ble_eq_true rfl) (Nat.le_of_ble_eq_true rfl) ⟨Nat.zero_le _, Nat.zero_le _⟩ 0 rfl rfl rfl rfl rfl (Nat.le_of_ble_eq_true rfl) rfl dX1_keepSpare_1 ?_
  refine j_if_ne (pc := 4) (tgt := 9) F dX1_keepSpare_4 rfl (fun c_2 => ?_) (fun c_2 => ?_)
  · have hf := of_neg c_2 hf
    refine j_aload_n (pc := 9) F 0 dX1_keepSpare_9 rfl rfl ?_
    refine j_dup (pc := 10) F dX1_keepSpare_10 rfl ?_
    refine jw_get (pc := 11) (v := .int (σV.1 0 1)) F hK ix_1 0 rfl rfl 1 (by decide) tm_180 rfl rfl dX1_keepSpare_11 ?_
    refine j_iconst (pc := 14) F (v := 1) dX1_keepSpare_14 rfl ?_
    refine j_iadd (pc := 15) F dX1_keepSpare_15 ?_
    obtain ⟨z_3, ez_3, hf⟩ := of_lt hf
    refine j_topi ez_3 ?_
    refine jw_put (pc := 16) (w' := wV aV aQ cy (up2 σV.1 0 1 z_3, σV.2)) F hK ix_1 tyX1 tyX1_ok nmX1 0 rfl rfl 1 (by decide) tm_180 rfl rfl rfl rfl rfl (Nat.le_of_ble_eq_true rfl) rfl dX1_keepSpare_16 ?_
    refine j_aload_n (pc := 19) F 0 dX1_keepSpare_19 rfl rfl ?_
    refine jw_get (pc := 20) (v := .int z_3) F hK ix_1 0 rfl rfl 1 (by decide) tm_180 rfl rfl dX1_keepSpare_20 ?_
    refine j_iconst (pc := 23) F (v := 1) dX1_keepSpare_23 rfl ?_
    refine j_isub (pc := 24) F dX1_keepSpare_24 ?_
    have hf := hf
    subst hf
    exact j_iretW (pc := 25) F dX1_keepSpare_25 rfl rfl
  · have hf := of_pos c_2 hf
    refine j_iconst (pc := 7) F (v := (-1)) dX1_keepSpare_7 rfl ?_
    have hf := hf
    subst hf
    exact j_iretW (pc := 8) F dX1_keepSpare_8 rfl rfl
theorem cf_X1_keepSpare : cfV yX1_keepSpare cX1_keepSpare 1 (some .int) 0 := ⟨tm_646, tm_647, tm_57, tm_648, by decide, by decide, by decide +kernel⟩

def f_X1_find (σV : St2 × (Nat → Nat)) (x1 : Int32) : Option (Option Nat) := if x1 < 0 then some none else if (σV.1 0 1) ≤ x1 then some none else if x1 < 0 ∨ 8 ≤ Int32.toNatClampNeg x1 then none else some (some (σV.2 (Int32.toNatClampNeg x1)))
set_option maxHeartbeats 4000000 in
set_option maxRecDepth 100000 in
theorem c_X1_find {l : Launch} {D : va_G} {cy : Nat → ClassId} {g : Gs} {aV : Nat → Nat} {aQ : Nat → Nat → Nat} {σV : St2 × (Nat → Nat)} {x1 : Int32} {out : Option Nat} (hf : f_X1_find σV x1 = some out) : CR l D cy g yX1_find cX1_find 2 (some (.object "EclipseHouse$Account")) 0 0 (wV aV aQ cy σV) [.ref (aV 0), .int x1] (some (va_rf (out.map (fun j => aQ j 0)))) := by
  unfold f_X1_find at hf
  refine met_R (lv := [(0, .ref (aV 0)), (1, .int x1)]) (by decide) (Nat.le_of_ble_eq_true rfl) rfl ?_
  intro p e s m args below meth c F hP hK hS
  refine j_iload_n (pc := 0) F 1 dX1_find_0 rfl rfl ?_
  refine j_if_lt (pc := 1) (tgt := 21) F dX1_find_1 rfl (fun c_1 => ?_) (fun c_1 => ?_)
  · have hf := of_pos c_1 hf
    refine j_null (pc := 21) F dX1_find_21 ?_
    exact j_aretR (pc := 22) F dX1_find_22 (congrArg (fun z : Option Nat => va_rf (z.map (fun j => aQ j 0))) (Option.some.inj hf))
  · have hf := of_neg c_1 hf
    refine j_iload_n (pc := 4) F 1 dX1_find_4 rfl rfl ?_
    refine j_aload_n (pc := 5) F 0 dX1_find_5 rfl rfl ?_
    refine jr_get (pc := 6) (v := .int (σV.1 0 1)) F hK hP ix_1 0 rfl rfl 1 (by decide) tm_180 rfl rfl dX1_find_6 ?_
    refine j_icmp_ge (pc := 9) (tgt := 21) F dX1_find_9 rfl (fun c_2 => ?_) (fun c_2 => ?_)
    · have hf := of_pos c_2 hf
      refine j_null (pc := 21) F dX1_find_21 ?_
      exact j_aretR (pc := 22) F dX1_find_22 (congrArg (fun z : Option Nat => va_rf (z.map (fun j => aQ j 0))) (Option.some.inj hf))
    · have hf := of_neg c_2 hf
      refine j_aload_n (pc := 12) F 0 dX1_find_12 rfl rfl ?_
      refine jr_get (pc := 13) (v := .ref (aV 1)) F hK hP ix_1 0 rfl rfl 0 (by decide) tm_179 rfl rfl dX1_find_13 ?_
      refine j_iload_n (pc := 16) F 1 dX1_find_16 rfl rfl ?_
      have c_3 : ¬ (x1 < 0 ∨ 8 ≤ Int32.toNatClampNeg x1) := fun z => by rw [if_pos z] at hf; cases hf
      have hf := of_neg c_3 hf
      refine jr_aald (pc := 17) (v := .ref (aQ (σV.2 (Int32.toNatClampNeg x1)) 0)) F hK hP 1 rfl c_3 rfl dX1_find_17 ?_
      refine j_goto (pc := 18) F (tgt := 22) dX1_find_18 rfl ?_
      exact j_aretR (pc := 22) F dX1_find_22 (congrArg (fun z : Option Nat => va_rf (z.map (fun j => aQ j 0))) (Option.some.inj hf))
theorem cf_X1_find : cfV yX1_find cX1_find 2 (some (.object "EclipseHouse$Account")) 1 := ⟨tm_667, tm_668, tm_57, tm_669, by decide, by decide, by decide +kernel⟩

def f_X1_remove_14 (N : Nat) : Nat → (St2 × (Nat → Nat)) → (Nat → (St2 × Int64)) → Nat → Int32 → Option (Int32 × (St2 × (Nat → Nat)))
  | 0, _, _, _, _ => none
  | n + 1, σV, σQ, y2, y3 => if ((σV.1 0 1) - 1) ≤ y3 then lt ((σV.1 0 1) - 1 : Int32) fun z_2 => if z_2 < 0 ∨ 8 ≤ Int32.toNatClampNeg z_2 then none else if 8 ≤ y2 then none else some (z_2, (up2 σV.1 0 1 z_2, va_up σV.2 (Int32.toNatClampNeg z_2) y2)) else if (y3 + 1) < 0 ∨ 8 ≤ Int32.toNatClampNeg (y3 + 1) then none else if y3 < 0 ∨ 8 ≤ Int32.toNatClampNeg y3 then none else if 8 ≤ (σV.2 (Int32.toNatClampNeg (y3 + 1))) then none else f_X1_remove_14 N n (σV.1, va_up σV.2 (Int32.toNatClampNeg y3) (σV.2 (Int32.toNatClampNeg (y3 + 1)))) σQ y2 (y3 + 1)
def f_X1_remove (N : Nat) (σV : St2 × (Nat → Nat)) (σQ : Nat → (St2 × Int64)) (x1 : Int32) : Option (Int32 × (St2 × (Nat → Nat))) := (f_X1_find σV x1).bind fun o_1 => oc o_1 (some ((-1), σV)) fun j_2 => f_X1_remove_14 N N σV σQ j_2 x1
set_option maxHeartbeats 4000000 in
set_option maxRecDepth 100000 in
theorem b_X1_remove_14 {l : Launch} {D : va_G} {cy : Nat → ClassId} {g : Gs} {p : Program} {e : Env} {s : State} {m : MethodId} {args : Array Value} {below : List Frame} {meth : Method} {c : Code} {A : Nat → Prop} {aV : Nat → Nat} {aQ : Nat → Nat → Nat} {σQ : Nat → (St2 × Int64)} {N : Nat} {out : Int32 × (St2 × (Nat → Nat))} (F : Fx p s m args meth c cX1_remove RX1 4 (some .int)) (hK : va_K D vwCl (tys cy) s) (hS : St g A s s.heap) (hA : ∀ q, s.heap.size ≤ q → A q) :
    ∀ (n : Nat) (σV : St2 × (Nat → Nat)) (y2 : Nat) (y3 : Int32), f_X1_remove_14 N n σV σQ y2 y3 = some out → J p l e { frames := 1, cells := 0, slots := 0, locals := 21 } s m args below meth c 4 (hW D A s (wV aV aQ cy σV ++ wQ aQ cy σQ)) 0 0 (MQ below (QW D A (some (.int out.1)) (wV aV aQ cy out.2 ++ wQ aQ cy σQ)) args s 0 0 A) 14 [(0, .ref (aV 0)), (2, .ref (aQ y2 0)), (3, .int y3)] [] := by
  intro n
  induction n with
  | zero =>
    intro σV y2 y3 hf
    cases hf
  | succ n ih =>
    intro σV y2 y3 hf
    rw [f_X1_remove_14] at hf
    refine j_iload_n (pc := 14) F 2 dX1_remove_14 rfl rfl ?_
    refine j_aload_n (pc := 15) F 0 dX1_remove_15 rfl rfl ?_
    refine jw_get (pc := 16) (v := .int (σV.1 0 1)) F hK ix_1 0 rfl rfl 1 (by decide) tm_180 rfl rfl dX1_remove_16 ?_
    refine j_iconst (pc := 19) F (v := 1) dX1_remove_19 rfl ?_
    refine j_isub (pc := 20) F dX1_remove_20 ?_
    refine j_icmp_ge (pc := 21) (tgt := 44) F dX1_remove_21 rfl (fun c_1 => ?_) (fun c_1 => ?_)
    · have hf := of_pos c_1 hf
      refine j_aload_n (pc := 44) F 0 dX1_remove_44 rfl rfl ?_
      refine j_dup (pc := 45) F dX1_remove_45 rfl ?_
      refine jw_get (pc := 46) (v := .int (σV.1 0 1)) F hK ix_1 0 rfl rfl 1 (by decide) tm_180 rfl rfl dX1_remove_46 ?_
      refine j_iconst (pc := 49) F (v := 1) dX1_remove_49 rfl ?_
      refine j_isub (pc := 50) F dX1_remove_50 ?_
      obtain ⟨z_2, ez_2, hf⟩ := of_lt hf
      refine j_topi ez_2 ?_
      refine jw_put (pc := 51) (w' := wV aV aQ cy (up2 σV.1 0 1 z_2, σV.2) ++ wQ aQ cy σQ) F hK ix_1 tyX1 tyX1_ok nmX1 0 rfl rfl 1 (by decide) tm_180 rfl rfl rfl rfl rfl (Nat.le_of_ble_eq_true rfl) rfl dX1_remove_51 ?_
      refine j_aload_n (pc := 54) F 0 dX1_remove_54 rfl rfl ?_
      refine jw_get (pc := 55) (v := .ref (aV 1)) F hK ix_1 0 rfl rfl 0 (by decide) tm_179 rfl rfl dX1_remove_55 ?_
      refine j_aload_n (pc := 58) F 0 dX1_remove_58 rfl rfl ?_
      refine jw_get (pc := 59) (v := .int z_2) F hK ix_1 0 rfl rfl 1 (by decide) tm_180 rfl rfl dX1_remove_59 ?_
      refine j_aload_n (pc := 62) F 1 dX1_remove_62 rfl rfl ?_
      have c_3 : ¬ (z_2 < 0 ∨ 8 ≤ Int32.toNatClampNeg z_2) := fun z => by rw [if_pos z] at hf; cases hf
      have hf := of_neg c_3 hf
      have c_4 : ¬ (8 ≤ y2) := fun z => by rw [if_pos z] at hf; cases hf
      have hf := of_neg c_4 hf
      refine jw_aastQ (pc := 63) F hK c_4 c_3 dX1_remove_63 ?_
      refine j_aload_n (pc := 64) F 0 dX1_remove_64 rfl rfl ?_
      refine jw_get (pc := 65) (v := .int z_2) F hK ix_1 0 rfl rfl 1 (by decide) tm_180 rfl rfl dX1_remove_65 ?_
      have hf := (Option.some.inj hf)
      subst hf
      exact j_iretW (pc := 68) F dX1_remove_68 rfl rfl
    · have hf := of_neg c_1 hf
      refine j_aload_n (pc := 24) F 0 dX1_remove_24 rfl rfl ?_
      refine jw_get (pc := 25) (v := .ref (aV 1)) F hK ix_1 0 rfl rfl 0 (by decide) tm_179 rfl rfl dX1_remove_25 ?_
      refine j_iload_n (pc := 28) F 2 dX1_remove_28 rfl rfl ?_
      refine j_aload_n (pc := 29) F 0 dX1_remove_29 rfl rfl ?_
      refine jw_get (pc := 30) (v := .ref (aV 1)) F hK ix_1 0 rfl rfl 0 (by decide) tm_179 rfl rfl dX1_remove_30 ?_
      refine j_iload_n (pc := 33) F 2 dX1_remove_33 rfl rfl ?_
      refine j_iconst (pc := 34) F (v := 1) dX1_remove_34 rfl ?_
      refine j_iadd (pc := 35) F dX1_remove_35 ?_
      have c_5 : ¬ ((y3 + 1) < 0 ∨ 8 ≤ Int32.toNatClampNeg (y3 + 1)) := fun z => by rw [if_pos z] at hf; cases hf
      have hf := of_neg c_5 hf
      refine jw_aald (pc := 36) (v := .ref (aQ (σV.2 (Int32.toNatClampNeg (y3 + 1))) 0)) F hK 1 rfl c_5 rfl dX1_remove_36 ?_
      have c_6 : ¬ (y3 < 0 ∨ 8 ≤ Int32.toNatClampNeg y3) := fun z => by rw [if_pos z] at hf; cases hf
      have hf := of_neg c_6 hf
      have c_7 : ¬ (8 ≤ (σV.2 (Int32.toNatClampNeg (y3 + 1)))) := fun z => by rw [if_pos z] at hf; cases hf
      have hf := of_neg c_7 hf
      refine jw_aastQ (pc := 37) F hK c_7 c_6 dX1_remove_37 ?_
      refine j_iinc (pc := 38) (v := y3 + 1) (lv' := [(3, .int (y3 + 1)), (0, .ref (aV 0)), (2, .ref (aQ y2 0))]) F 2 dX1_remove_38 rfl rfl (by decide) rfl ?_
      refine j_goto (pc := 41) F (tgt := 14) dX1_remove_41 rfl ?_
      refine j_sub [1, 2, 0] rfl ?_
      exact ih (σV.1, va_up σV.2 (Int32.toNatClampNeg y3) (σV.2 (Int32.toNatClampNeg (y3 + 1)))) y2 (y3 + 1) hf
set_option maxHeartbeats 4000000 in
set_option maxRecDepth 100000 in
theorem c_X1_remove {l : Launch} {D : va_G} {cy : Nat → ClassId} {g : Gs} {aV : Nat → Nat} {aQ : Nat → Nat → Nat} {σV : St2 × (Nat → Nat)} {σQ : Nat → (St2 × Int64)} {N : Nat} {x1 : Int32} {out : Int32 × (St2 × (Nat → Nat))} (hf : f_X1_remove N σV σQ x1 = some out) : CW l D cy g yX1_remove cX1_remove 4 (some .int) 1 21 (wV aV aQ cy σV ++ wQ aQ cy σQ) [.ref (aV 0), .int x1] (some (.int out.1)) (wV aV aQ cy out.2 ++ wQ aQ cy σQ) := by
  unfold f_X1_remove at hf
  refine met_W (lv := [(0, .ref (aV 0)), (1, .int x1)]) (by decide) (Nat.le_of_ble_eq_true rfl) rfl ?_
  intro p e s m args below meth c A F hK hS hA
  refine j_aload_n (pc := 0) F 0 dX1_remove_0 rfl rfl ?_
  refine j_iload_n (pc := 1) F 1 dX1_remove_1 rfl rfl ?_
  obtain ⟨o_1, ho_1, hf⟩ := of_bnd hf
  refine j_callRV (pc := 2) (st := []) (st1 := [va_rf (o_1.map (fun j => aQ j 0))]) F hK (hpW hS (hp_sub [0, 1] rfl)) (c_X1_find (l := l) (D := D) (cy := cy) (g := g) (aV := aV) (aQ := aQ) ho_1) tm_786 cf_X1_find (Nat.le_of_ble_eq_true rfl) (Nat.le_of_ble_eq_true rfl) ⟨Nat.zero_le _, Nat.zero_le _⟩ 0 rfl rfl rfl rfl rfl (Nat.le_of_ble_eq_true rfl) rfl dX1_remove_2 ?_
  rcases o_1 with _ | j_2
  · have hf := oc_n hf
    refine j_stk (st' := [.null]) rfl ?_
    refine j_astore_nN (pc := 5) (lv' := [(2, .null), (0, .ref (aV 0)), (1, .int x1)]) F dX1_remove_5 rfl (by decide) rfl ?_
    refine j_aload_nN (pc := 6) F 0 dX1_remove_6 rfl rfl ?_
    refine j_ifnonnullN (pc := 7) F dX1_remove_7 ?_
    refine j_iconst (pc := 10) F (v := (-1)) dX1_remove_10 rfl ?_
    have hf := (Option.some.inj hf)
    subst hf
    exact j_iretW (pc := 11) F dX1_remove_11 rfl rfl
  · have hf := oc_s hf
    refine j_stk (st' := [.ref (aQ j_2 0)]) rfl ?_
    refine j_astore_n (pc := 5) (lv' := [(2, .ref (aQ j_2 0)), (0, .ref (aV 0)), (1, .int x1)]) F dX1_remove_5 rfl (by decide) rfl ?_
    refine j_aload_n (pc := 6) F 0 dX1_remove_6 rfl rfl ?_
    refine j_ifnonnull (pc := 7) F (tgt := 12) dX1_remove_7 rfl ?_
    refine j_iload_n (pc := 12) F 2 dX1_remove_12 rfl rfl ?_
    refine j_istore_n (pc := 13) (lv' := [(3, .int x1), (2, .ref (aQ j_2 0)), (0, .ref (aV 0)), (1, .int x1)]) F dX1_remove_13 rfl (by decide) rfl ?_
    refine j_sub [2, 1, 0] rfl ?_
    exact b_X1_remove_14 F hK hS hA N σV j_2 x1 hf
theorem cf_X1_remove : cfV yX1_remove cX1_remove 4 (some .int) 1 := ⟨tm_806, tm_807, tm_57, tm_808, by decide, by decide, by decide +kernel⟩

def f_X1_slowsOfAll_44 (N : Nat) (K7 : (St2 × (Nat → Nat)) → (Nat → (St2 × Int64)) → St2 → Int64 → Int32 → Option (Int64 × (Nat → (St2 × Int64)) × St2)) (σV : St2 × (Nat → Nat)) (σQ : Nat → (St2 × Int64)) (σS : St2) (y2 : Int64) (y4 : Int32) : Option (Int64 × (Nat → (St2 × Int64)) × St2) := K7 σV σQ σS y2 (y4 + 1)
def f_X1_slowsOfAll_7 (N : Nat) : Nat → (St2 × (Nat → Nat)) → (Nat → (St2 × Int64)) → St2 → Int64 → Int32 → Option (Int64 × (Nat → (St2 × Int64)) × St2)
  | 0, _, _, _, _, _ => none
  | n + 1, σV, σQ, σS, y2, y4 => if (σV.1 0 1) ≤ y4 then some (y2, σQ, σS) else if (lg_cmp y2 0) = 0 then some (y2, σQ, σS) else (f_X1_find σV y4).bind fun o_3 => oc o_3 (f_X1_slowsOfAll_44 N (f_X1_slowsOfAll_7 N n) σV σQ σS y2 y4) fun j_4 => if 8 ≤ j_4 then none else (f_X0_slowsLet N (σQ j_4) σS).bind fun o_6 => f_X1_slowsOfAll_44 N (f_X1_slowsOfAll_7 N n) σV (va_up σQ j_4 o_6.2.1) o_6.2.2 (y2 &&& o_6.1) y4
def f_X1_slowsOfAll (N : Nat) (σV : St2 × (Nat → Nat)) (σQ : Nat → (St2 × Int64)) (σS : St2) : Option (Int64 × (Nat → (St2 × Int64)) × St2) := f_X1_slowsOfAll_7 N N σV σQ σS 2305843009213693951 0
set_option maxHeartbeats 4000000 in
set_option maxRecDepth 100000 in
theorem b_X1_slowsOfAll_44 {l : Launch} {D : va_G} {cy : Nat → ClassId} {g : Gs} {p : Program} {e : Env} {s : State} {m : MethodId} {args : Array Value} {below : List Frame} {meth : Method} {c : Code} {A : Nat → Prop} {aV : Nat → Nat} {aS : Nat → Nat} {aQ : Nat → Nat → Nat} {σV : St2 × (Nat → Nat)} {N : Nat} {out : Int64 × (Nat → (St2 × Int64)) × St2} {K7 : (St2 × (Nat → Nat)) → (Nat → (St2 × Int64)) → St2 → Int64 → Int32 → Option (Int64 × (Nat → (St2 × Int64)) × St2)} (F : Fx p s m args meth c cX1_slowsOfAll RX1 6 (some .long)) (hK : va_K D vwCl (tys cy) s) (hS : St g A s s.heap) (hA : ∀ q, s.heap.size ≤ q → A q) (hK7 : ∀ (σQ : Nat → (St2 × Int64)) (σS : St2) (y2 : Int64) (y4 : Int32), K7 σV σQ σS y2 y4 = some out → J p l e { frames := 5, cells := 0, slots := 0, locals := 124 } s m args below meth c 6 (hW D A s (wV aV aQ cy σV ++ wQ aQ cy σQ ++ wS aS cy σS)) 0 0 (MQ below (QW D A (some (.long out.1)) (wV aV aQ cy σV ++ wQ aQ cy out.2.1 ++ wS aS cy out.2.2)) args s 0 0 A) 7 [(0, .ref (aV 0)), (1, .ref (aS 0)), (2, .long y2), (4, .int y4)] []) :
    ∀ (σQ : Nat → (St2 × Int64)) (σS : St2) (y2 : Int64) (y4 : Int32), f_X1_slowsOfAll_44 N K7 σV σQ σS y2 y4 = some out → J p l e { frames := 5, cells := 0, slots := 0, locals := 124 } s m args below meth c 6 (hW D A s (wV aV aQ cy σV ++ wQ aQ cy σQ ++ wS aS cy σS)) 0 0 (MQ below (QW D A (some (.long out.1)) (wV aV aQ cy σV ++ wQ aQ cy out.2.1 ++ wS aS cy out.2.2)) args s 0 0 A) 44 [(0, .ref (aV 0)), (1, .ref (aS 0)), (2, .long y2), (4, .int y4)] [] := by
  intro σQ σS y2 y4 hf
  unfold f_X1_slowsOfAll_44 at hf
  refine j_iinc (pc := 44) (v := y4 + 1) (lv' := [(4, .int (y4 + 1)), (0, .ref (aV 0)), (1, .ref (aS 0)), (2, .long y2)]) F 3 dX1_slowsOfAll_44 rfl rfl (by decide) rfl ?_
  refine j_goto (pc := 47) F (tgt := 7) dX1_slowsOfAll_47 rfl ?_
  refine j_sub [1, 2, 3, 0] rfl ?_
  exact hK7 σQ σS y2 (y4 + 1) hf
set_option maxHeartbeats 4000000 in
set_option maxRecDepth 100000 in
theorem b_X1_slowsOfAll_7 {l : Launch} {D : va_G} {cy : Nat → ClassId} {g : Gs} {p : Program} {e : Env} {s : State} {m : MethodId} {args : Array Value} {below : List Frame} {meth : Method} {c : Code} {A : Nat → Prop} {aV : Nat → Nat} {aS : Nat → Nat} {aQ : Nat → Nat → Nat} {σV : St2 × (Nat → Nat)} {N : Nat} {out : Int64 × (Nat → (St2 × Int64)) × St2} (F : Fx p s m args meth c cX1_slowsOfAll RX1 6 (some .long)) (hK : va_K D vwCl (tys cy) s) (hS : St g A s s.heap) (hA : ∀ q, s.heap.size ≤ q → A q) :
    ∀ (n : Nat) (σQ : Nat → (St2 × Int64)) (σS : St2) (y2 : Int64) (y4 : Int32), f_X1_slowsOfAll_7 N n σV σQ σS y2 y4 = some out → J p l e { frames := 5, cells := 0, slots := 0, locals := 124 } s m args below meth c 6 (hW D A s (wV aV aQ cy σV ++ wQ aQ cy σQ ++ wS aS cy σS)) 0 0 (MQ below (QW D A (some (.long out.1)) (wV aV aQ cy σV ++ wQ aQ cy out.2.1 ++ wS aS cy out.2.2)) args s 0 0 A) 7 [(0, .ref (aV 0)), (1, .ref (aS 0)), (2, .long y2), (4, .int y4)] [] := by
  intro n
  induction n with
  | zero =>
    intro σQ σS y2 y4 hf
    cases hf
  | succ n ih =>
    intro σQ σS y2 y4 hf
    rw [f_X1_slowsOfAll_7] at hf
    refine j_iload (pc := 7) F 3 dX1_slowsOfAll_7 rfl ?_
    refine j_aload_n (pc := 9) F 0 dX1_slowsOfAll_9 rfl rfl ?_
    refine jw_get (pc := 10) (v := .int (σV.1 0 1)) F hK ix_1 0 rfl rfl 1 (by decide) tm_180 rfl rfl dX1_slowsOfAll_10 ?_
    refine j_icmp_ge (pc := 13) (tgt := 50) F dX1_slowsOfAll_13 rfl (fun c_1 => ?_) (fun c_1 => ?_)
    · have hf := of_pos c_1 hf
      refine j_lload_n (pc := 50) F 2 dX1_slowsOfAll_50 rfl rfl ?_
      have hf := (Option.some.inj hf)
      subst hf
      exact j_lretW (pc := 51) F dX1_slowsOfAll_51 rfl rfl
    · have hf := of_neg c_1 hf
      refine j_lload_n (pc := 16) F 2 dX1_slowsOfAll_16 rfl rfl ?_
      refine j_lconst (pc := 17) F (v := 0) dX1_slowsOfAll_17 rfl ?_
      refine j_lcmp (pc := 18) F dX1_slowsOfAll_18 ?_
      refine j_if_eq (pc := 19) (tgt := 50) F dX1_slowsOfAll_19 rfl (fun c_2 => ?_) (fun c_2 => ?_)
      · have hf := of_pos c_2 hf
        refine j_lload_n (pc := 50) F 2 dX1_slowsOfAll_50 rfl rfl ?_
        have hf := (Option.some.inj hf)
        subst hf
        exact j_lretW (pc := 51) F dX1_slowsOfAll_51 rfl rfl
      · have hf := of_neg c_2 hf
        refine j_aload_n (pc := 22) F 0 dX1_slowsOfAll_22 rfl rfl ?_
        refine j_iload (pc := 23) F 3 dX1_slowsOfAll_23 rfl ?_
        obtain ⟨o_3, ho_3, hf⟩ := of_bnd hf
        refine j_callRV (pc := 25) (st := []) (st1 := [va_rf (o_3.map (fun j => aQ j 0))]) F hK (hpW hS (hp_sub [0, 1] rfl)) (c_X1_find (l := l) (D := D) (cy := cy) (g := g) (aV := aV) (aQ := aQ) ho_3) tm_786 cf_X1_find (Nat.le_of_ble_eq_true rfl) (Nat.le_of_ble_eq_true rfl) ⟨Nat.zero_le _, Nat.zero_le _⟩ 0 rfl rfl rfl rfl rfl (Nat.le_of_ble_eq_true rfl) rfl dX1_slowsOfAll_25 ?_
        rcases o_3 with _ | j_4
        · have hf := oc_n hf
          refine j_stk (st' := [.null]) rfl ?_
          refine j_astoreN (pc := 28) (lv' := [(5, .null), (0, .ref (aV 0)), (1, .ref (aS 0)), (2, .long y2), (4, .int y4)]) F dX1_slowsOfAll_28 (by decide) rfl ?_
          refine j_aloadN (pc := 30) F 0 dX1_slowsOfAll_30 rfl ?_
          refine j_ifnullN (pc := 32) F (tgt := 44) dX1_slowsOfAll_32 rfl ?_
          refine j_sub [1, 2, 3, 4] rfl ?_
          exact b_X1_slowsOfAll_44 F hK hS hA ih σQ σS y2 y4 hf
        · have hf := oc_s hf
          refine j_stk (st' := [.ref (aQ j_4 0)]) rfl ?_
          refine j_astore (pc := 28) (lv' := [(5, .ref (aQ j_4 0)), (0, .ref (aV 0)), (1, .ref (aS 0)), (2, .long y2), (4, .int y4)]) F dX1_slowsOfAll_28 (by decide) rfl ?_
          refine j_aload (pc := 30) F 0 dX1_slowsOfAll_30 rfl ?_
          refine j_ifnull (pc := 32) F dX1_slowsOfAll_32 ?_
          refine j_lload_n (pc := 35) F 3 dX1_slowsOfAll_35 rfl rfl ?_
          refine j_aload (pc := 36) F 0 dX1_slowsOfAll_36 rfl ?_
          refine j_aload_n (pc := 38) F 2 dX1_slowsOfAll_38 rfl rfl ?_
          have c_5 : ¬ 8 ≤ j_4 := fun z => by rw [if_pos z] at hf; cases hf
          have hf := of_neg c_5 hf
          rcases lt8 c_5 with rfl | rfl | rfl | rfl | rfl | rfl | rfl | rfl
          · obtain ⟨o_6, ho_6, hf⟩ := of_bnd hf
            refine j_callWV (pc := 39) (st := [.long y2]) (st1 := [.long o_6.1, .long y2]) (wr := wV aV aQ cy σV ++ wA (aQ 1) cy (σQ 1) ++ wA (aQ 2) cy (σQ 2) ++ wA (aQ 3) cy (σQ 3) ++ wA (aQ 4) cy (σQ 4) ++ wA (aQ 5) cy (σQ 5) ++ wA (aQ 6) cy (σQ 6) ++ wA (aQ 7) cy (σQ 7)) (w' := wV aV aQ cy σV ++ wQ aQ cy (va_up σQ 0 o_6.2.1) ++ wS aS cy o_6.2.2) F hK hS hA (c_X0_slowsLet (l := l) (D := D) (cy := cy) (g := g) (aA := aQ 0) (aS := aS) ho_6) tm_787 cf_X0_slowsLet (Nat.le_of_ble_eq_true rfl) (Nat.le_of_ble_eq_true rfl) ⟨Nat.zero_le _, Nat.zero_le _⟩ 0 rfl rfl rfl rfl rfl (Nat.le_of_ble_eq_true rfl) [2, 3, 18, 19, 20, 21] [0, 1, 4, 5, 6, 7, 8, 9, 10, 11, 12, 13, 14, 15, 16, 17] [0, 1, 16, 17, 2, 3, 4, 5, 6, 7, 8, 9, 10, 11, 12, 13, 14, 15, 18, 19, 20, 21] rfl rfl rfl rfl (by decide) rfl rfl rfl dX1_slowsOfAll_39 ?_
            refine j_land (pc := 42) F dX1_slowsOfAll_42 ?_
            refine j_lstore_n (pc := 43) (lv' := [(2, .long (y2 &&& o_6.1)), (5, .ref (aQ 0 0)), (0, .ref (aV 0)), (1, .ref (aS 0)), (4, .int y4)]) F dX1_slowsOfAll_43 rfl (by decide) rfl ?_
            refine j_sub [2, 3, 0, 4] rfl ?_
            exact b_X1_slowsOfAll_44 F hK hS hA ih (va_up σQ 0 o_6.2.1) o_6.2.2 (y2 &&& o_6.1) y4 hf
          · obtain ⟨o_6, ho_6, hf⟩ := of_bnd hf
            refine j_callWV (pc := 39) (st := [.long y2]) (st1 := [.long o_6.1, .long y2]) (wr := wV aV aQ cy σV ++ wA (aQ 0) cy (σQ 0) ++ wA (aQ 2) cy (σQ 2) ++ wA (aQ 3) cy (σQ 3) ++ wA (aQ 4) cy (σQ 4) ++ wA (aQ 5) cy (σQ 5) ++ wA (aQ 6) cy (σQ 6) ++ wA (aQ 7) cy (σQ 7)) (w' := wV aV aQ cy σV ++ wQ aQ cy (va_up σQ 1 o_6.2.1) ++ wS aS cy o_6.2.2) F hK hS hA (c_X0_slowsLet (l := l) (D := D) (cy := cy) (g := g) (aA := aQ 1) (aS := aS) ho_6) tm_787 cf_X0_slowsLet (Nat.le_of_ble_eq_true rfl) (Nat.le_of_ble_eq_true rfl) ⟨Nat.zero_le _, Nat.zero_le _⟩ 0 rfl rfl rfl rfl rfl (Nat.le_of_ble_eq_true rfl) [4, 5, 18, 19, 20, 21] [0, 1, 2, 3, 6, 7, 8, 9, 10, 11, 12, 13, 14, 15, 16, 17] [0, 1, 2, 3, 16, 17, 4, 5, 6, 7, 8, 9, 10, 11, 12, 13, 14, 15, 18, 19, 20, 21] rfl rfl rfl rfl (by decide) rfl rfl rfl dX1_slowsOfAll_39 ?_
            refine j_land (pc := 42) F dX1_slowsOfAll_42 ?_
            refine j_lstore_n (pc := 43) (lv' := [(2, .long (y2 &&& o_6.1)), (5, .ref (aQ 1 0)), (0, .ref (aV 0)), (1, .ref (aS 0)), (4, .int y4)]) F dX1_slowsOfAll_43 rfl (by decide) rfl ?_
            refine j_sub [2, 3, 0, 4] rfl ?_
            exact b_X1_slowsOfAll_44 F hK hS hA ih (va_up σQ 1 o_6.2.1) o_6.2.2 (y2 &&& o_6.1) y4 hf
          · obtain ⟨o_6, ho_6, hf⟩ := of_bnd hf
            refine j_callWV (pc := 39) (st := [.long y2]) (st1 := [.long o_6.1, .long y2]) (wr := wV aV aQ cy σV ++ wA (aQ 0) cy (σQ 0) ++ wA (aQ 1) cy (σQ 1) ++ wA (aQ 3) cy (σQ 3) ++ wA (aQ 4) cy (σQ 4) ++ wA (aQ 5) cy (σQ 5) ++ wA (aQ 6) cy (σQ 6) ++ wA (aQ 7) cy (σQ 7)) (w' := wV aV aQ cy σV ++ wQ aQ cy (va_up σQ 2 o_6.2.1) ++ wS aS cy o_6.2.2) F hK hS hA (c_X0_slowsLet (l := l) (D := D) (cy := cy) (g := g) (aA := aQ 2) (aS := aS) ho_6) tm_787 cf_X0_slowsLet (Nat.le_of_ble_eq_true rfl) (Nat.le_of_ble_eq_true rfl) ⟨Nat.zero_le _, Nat.zero_le _⟩ 0 rfl rfl rfl rfl rfl (Nat.le_of_ble_eq_true rfl) [6, 7, 18, 19, 20, 21] [0, 1, 2, 3, 4, 5, 8, 9, 10, 11, 12, 13, 14, 15, 16, 17] [0, 1, 2, 3, 4, 5, 16, 17, 6, 7, 8, 9, 10, 11, 12, 13, 14, 15, 18, 19, 20, 21] rfl rfl rfl rfl (by decide) rfl rfl rfl dX1_slowsOfAll_39 ?_
            refine j_land (pc := 42) F dX1_slowsOfAll_42 ?_
            refine j_lstore_n (pc := 43) (lv' := [(2, .long (y2 &&& o_6.1)), (5, .ref (aQ 2 0)), (0, .ref (aV 0)), (1, .ref (aS 0)), (4, .int y4)]) F dX1_slowsOfAll_43 rfl (by decide) rfl ?_
            refine j_sub [2, 3, 0, 4] rfl ?_
            exact b_X1_slowsOfAll_44 F hK hS hA ih (va_up σQ 2 o_6.2.1) o_6.2.2 (y2 &&& o_6.1) y4 hf
          · obtain ⟨o_6, ho_6, hf⟩ := of_bnd hf
            refine j_callWV (pc := 39) (st := [.long y2]) (st1 := [.long o_6.1, .long y2]) (wr := wV aV aQ cy σV ++ wA (aQ 0) cy (σQ 0) ++ wA (aQ 1) cy (σQ 1) ++ wA (aQ 2) cy (σQ 2) ++ wA (aQ 4) cy (σQ 4) ++ wA (aQ 5) cy (σQ 5) ++ wA (aQ 6) cy (σQ 6) ++ wA (aQ 7) cy (σQ 7)) (w' := wV aV aQ cy σV ++ wQ aQ cy (va_up σQ 3 o_6.2.1) ++ wS aS cy o_6.2.2) F hK hS hA (c_X0_slowsLet (l := l) (D := D) (cy := cy) (g := g) (aA := aQ 3) (aS := aS) ho_6) tm_787 cf_X0_slowsLet (Nat.le_of_ble_eq_true rfl) (Nat.le_of_ble_eq_true rfl) ⟨Nat.zero_le _, Nat.zero_le _⟩ 0 rfl rfl rfl rfl rfl (Nat.le_of_ble_eq_true rfl) [8, 9, 18, 19, 20, 21] [0, 1, 2, 3, 4, 5, 6, 7, 10, 11, 12, 13, 14, 15, 16, 17] [0, 1, 2, 3, 4, 5, 6, 7, 16, 17, 8, 9, 10, 11, 12, 13, 14, 15, 18, 19, 20, 21] rfl rfl rfl rfl (by decide) rfl rfl rfl dX1_slowsOfAll_39 ?_
            refine j_land (pc := 42) F dX1_slowsOfAll_42 ?_
            refine j_lstore_n (pc := 43) (lv' := [(2, .long (y2 &&& o_6.1)), (5, .ref (aQ 3 0)), (0, .ref (aV 0)), (1, .ref (aS 0)), (4, .int y4)]) F dX1_slowsOfAll_43 rfl (by decide) rfl ?_
            refine j_sub [2, 3, 0, 4] rfl ?_
            exact b_X1_slowsOfAll_44 F hK hS hA ih (va_up σQ 3 o_6.2.1) o_6.2.2 (y2 &&& o_6.1) y4 hf
          · obtain ⟨o_6, ho_6, hf⟩ := of_bnd hf
            refine j_callWV (pc := 39) (st := [.long y2]) (st1 := [.long o_6.1, .long y2]) (wr := wV aV aQ cy σV ++ wA (aQ 0) cy (σQ 0) ++ wA (aQ 1) cy (σQ 1) ++ wA (aQ 2) cy (σQ 2) ++ wA (aQ 3) cy (σQ 3) ++ wA (aQ 5) cy (σQ 5) ++ wA (aQ 6) cy (σQ 6) ++ wA (aQ 7) cy (σQ 7)) (w' := wV aV aQ cy σV ++ wQ aQ cy (va_up σQ 4 o_6.2.1) ++ wS aS cy o_6.2.2) F hK hS hA (c_X0_slowsLet (l := l) (D := D) (cy := cy) (g := g) (aA := aQ 4) (aS := aS) ho_6) tm_787 cf_X0_slowsLet (Nat.le_of_ble_eq_true rfl) (Nat.le_of_ble_eq_true rfl) ⟨Nat.zero_le _, Nat.zero_le _⟩ 0 rfl rfl rfl rfl rfl (Nat.le_of_ble_eq_true rfl) [10, 11, 18, 19, 20, 21] [0, 1, 2, 3, 4, 5, 6, 7, 8, 9, 12, 13, 14, 15, 16, 17] [0, 1, 2, 3, 4, 5, 6, 7, 8, 9, 16, 17, 10, 11, 12, 13, 14, 15, 18, 19, 20, 21] rfl rfl rfl rfl (by decide) rfl rfl rfl dX1_slowsOfAll_39 ?_
            refine j_land (pc := 42) F dX1_slowsOfAll_42 ?_
            refine j_lstore_n (pc := 43) (lv' := [(2, .long (y2 &&& o_6.1)), (5, .ref (aQ 4 0)), (0, .ref (aV 0)), (1, .ref (aS 0)), (4, .int y4)]) F dX1_slowsOfAll_43 rfl (by decide) rfl ?_
            refine j_sub [2, 3, 0, 4] rfl ?_
            exact b_X1_slowsOfAll_44 F hK hS hA ih (va_up σQ 4 o_6.2.1) o_6.2.2 (y2 &&& o_6.1) y4 hf
          · obtain ⟨o_6, ho_6, hf⟩ := of_bnd hf
            refine j_callWV (pc := 39) (st := [.long y2]) (st1 := [.long o_6.1, .long y2]) (wr := wV aV aQ cy σV ++ wA (aQ 0) cy (σQ 0) ++ wA (aQ 1) cy (σQ 1) ++ wA (aQ 2) cy (σQ 2) ++ wA (aQ 3) cy (σQ 3) ++ wA (aQ 4) cy (σQ 4) ++ wA (aQ 6) cy (σQ 6) ++ wA (aQ 7) cy (σQ 7)) (w' := wV aV aQ cy σV ++ wQ aQ cy (va_up σQ 5 o_6.2.1) ++ wS aS cy o_6.2.2) F hK hS hA (c_X0_slowsLet (l := l) (D := D) (cy := cy) (g := g) (aA := aQ 5) (aS := aS) ho_6) tm_787 cf_X0_slowsLet (Nat.le_of_ble_eq_true rfl) (Nat.le_of_ble_eq_true rfl) ⟨Nat.zero_le _, Nat.zero_le _⟩ 0 rfl rfl rfl rfl rfl (Nat.le_of_ble_eq_true rfl) [12, 13, 18, 19, 20, 21] [0, 1, 2, 3, 4, 5, 6, 7, 8, 9, 10, 11, 14, 15, 16, 17] [0, 1, 2, 3, 4, 5, 6, 7, 8, 9, 10, 11, 16, 17, 12, 13, 14, 15, 18, 19, 20, 21] rfl rfl rfl rfl (by decide) rfl rfl rfl dX1_slowsOfAll_39 ?_
            refine j_land (pc := 42) F dX1_slowsOfAll_42 ?_
            refine j_lstore_n (pc := 43) (lv' := [(2, .long (y2 &&& o_6.1)), (5, .ref (aQ 5 0)), (0, .ref (aV 0)), (1, .ref (aS 0)), (4, .int y4)]) F dX1_slowsOfAll_43 rfl (by decide) rfl ?_
            refine j_sub [2, 3, 0, 4] rfl ?_
            exact b_X1_slowsOfAll_44 F hK hS hA ih (va_up σQ 5 o_6.2.1) o_6.2.2 (y2 &&& o_6.1) y4 hf
          · obtain ⟨o_6, ho_6, hf⟩ := of_bnd hf
            refine j_callWV (pc := 39) (st := [.long y2]) (st1 := [.long o_6.1, .long y2]) (wr := wV aV aQ cy σV ++ wA (aQ 0) cy (σQ 0) ++ wA (aQ 1) cy (σQ 1) ++ wA (aQ 2) cy (σQ 2) ++ wA (aQ 3) cy (σQ 3) ++ wA (aQ 4) cy (σQ 4) ++ wA (aQ 5) cy (σQ 5) ++ wA (aQ 7) cy (σQ 7)) (w' := wV aV aQ cy σV ++ wQ aQ cy (va_up σQ 6 o_6.2.1) ++ wS aS cy o_6.2.2) F hK hS hA (c_X0_slowsLet (l := l) (D := D) (cy := cy) (g := g) (aA := aQ 6) (aS := aS) ho_6) tm_787 cf_X0_slowsLet (Nat.le_of_ble_eq_true rfl) (Nat.le_of_ble_eq_true rfl) ⟨Nat.zero_le _, Nat.zero_le _⟩ 0 rfl rfl rfl rfl rfl (Nat.le_of_ble_eq_true rfl) [14, 15, 18, 19, 20, 21] [0, 1, 2, 3, 4, 5, 6, 7, 8, 9, 10, 11, 12, 13, 16, 17] [0, 1, 2, 3, 4, 5, 6, 7, 8, 9, 10, 11, 12, 13, 16, 17, 14, 15, 18, 19, 20, 21] rfl rfl rfl rfl (by decide) rfl rfl rfl dX1_slowsOfAll_39 ?_
            refine j_land (pc := 42) F dX1_slowsOfAll_42 ?_
            refine j_lstore_n (pc := 43) (lv' := [(2, .long (y2 &&& o_6.1)), (5, .ref (aQ 6 0)), (0, .ref (aV 0)), (1, .ref (aS 0)), (4, .int y4)]) F dX1_slowsOfAll_43 rfl (by decide) rfl ?_
            refine j_sub [2, 3, 0, 4] rfl ?_
            exact b_X1_slowsOfAll_44 F hK hS hA ih (va_up σQ 6 o_6.2.1) o_6.2.2 (y2 &&& o_6.1) y4 hf
          · obtain ⟨o_6, ho_6, hf⟩ := of_bnd hf
            refine j_callWV (pc := 39) (st := [.long y2]) (st1 := [.long o_6.1, .long y2]) (wr := wV aV aQ cy σV ++ wA (aQ 0) cy (σQ 0) ++ wA (aQ 1) cy (σQ 1) ++ wA (aQ 2) cy (σQ 2) ++ wA (aQ 3) cy (σQ 3) ++ wA (aQ 4) cy (σQ 4) ++ wA (aQ 5) cy (σQ 5) ++ wA (aQ 6) cy (σQ 6)) (w' := wV aV aQ cy σV ++ wQ aQ cy (va_up σQ 7 o_6.2.1) ++ wS aS cy o_6.2.2) F hK hS hA (c_X0_slowsLet (l := l) (D := D) (cy := cy) (g := g) (aA := aQ 7) (aS := aS) ho_6) tm_787 cf_X0_slowsLet (Nat.le_of_ble_eq_true rfl) (Nat.le_of_ble_eq_true rfl) ⟨Nat.zero_le _, Nat.zero_le _⟩ 0 rfl rfl rfl rfl rfl (Nat.le_of_ble_eq_true rfl) [16, 17, 18, 19, 20, 21] [0, 1, 2, 3, 4, 5, 6, 7, 8, 9, 10, 11, 12, 13, 14, 15] [0, 1, 2, 3, 4, 5, 6, 7, 8, 9, 10, 11, 12, 13, 14, 15, 16, 17, 18, 19, 20, 21] rfl rfl rfl rfl (by decide) rfl rfl rfl dX1_slowsOfAll_39 ?_
            refine j_land (pc := 42) F dX1_slowsOfAll_42 ?_
            refine j_lstore_n (pc := 43) (lv' := [(2, .long (y2 &&& o_6.1)), (5, .ref (aQ 7 0)), (0, .ref (aV 0)), (1, .ref (aS 0)), (4, .int y4)]) F dX1_slowsOfAll_43 rfl (by decide) rfl ?_
            refine j_sub [2, 3, 0, 4] rfl ?_
            exact b_X1_slowsOfAll_44 F hK hS hA ih (va_up σQ 7 o_6.2.1) o_6.2.2 (y2 &&& o_6.1) y4 hf
set_option maxHeartbeats 4000000 in
set_option maxRecDepth 100000 in
theorem c_X1_slowsOfAll {l : Launch} {D : va_G} {cy : Nat → ClassId} {g : Gs} {aV : Nat → Nat} {aS : Nat → Nat} {aQ : Nat → Nat → Nat} {σV : St2 × (Nat → Nat)} {σQ : Nat → (St2 × Int64)} {σS : St2} {N : Nat} {out : Int64 × (Nat → (St2 × Int64)) × St2} (hf : f_X1_slowsOfAll N σV σQ σS = some out) : CW l D cy g yX1_slowsOfAll cX1_slowsOfAll 6 (some .long) 5 124 (wV aV aQ cy σV ++ wQ aQ cy σQ ++ wS aS cy σS) [.ref (aV 0), .ref (aS 0)] (some (.long out.1)) (wV aV aQ cy σV ++ wQ aQ cy out.2.1 ++ wS aS cy out.2.2) := by
  unfold f_X1_slowsOfAll at hf
  refine met_W (lv := [(0, .ref (aV 0)), (1, .ref (aS 0))]) (by decide) (Nat.le_of_ble_eq_true rfl) rfl ?_
  intro p e s m args below meth c A F hK hS hA
  refine j_ldc2 (pc := 0) F tm_785 dX1_slowsOfAll_0 ?_
  refine j_lstore_n (pc := 3) (lv' := [(2, .long 2305843009213693951), (0, .ref (aV 0)), (1, .ref (aS 0))]) F dX1_slowsOfAll_3 rfl (by decide) rfl ?_
  refine j_iconst (pc := 4) F (v := 0) dX1_slowsOfAll_4 rfl ?_
  refine j_istore (pc := 5) (lv' := [(4, .int 0), (2, .long 2305843009213693951), (0, .ref (aV 0)), (1, .ref (aS 0))]) F dX1_slowsOfAll_5 (by decide) rfl ?_
  refine j_sub [2, 3, 1, 0] rfl ?_
  exact b_X1_slowsOfAll_7 F hK hS hA N σQ σS 2305843009213693951 0 hf
theorem cf_X1_slowsOfAll : cfV yX1_slowsOfAll cX1_slowsOfAll 6 (some .long) 1 := ⟨tm_782, tm_783, tm_57, tm_784, by decide, by decide, by decide +kernel⟩
