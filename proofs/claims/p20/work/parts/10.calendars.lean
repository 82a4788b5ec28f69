def f_J9_floorDiv_7cf53 (x0 : Int32) (x1 : Int32) : Option (Int32) := if x1 = 0 then none else if 0 ≤ (x0 ^^^ x1) then some (x0 / x1) else if ((x0 / x1) * x1) = x0 then some (x0 / x1) else some ((x0 / x1) - 1)
set_option maxHeartbeats 4000000 in
set_option maxRecDepth 100000 in
theorem c_J9_floorDiv_7cf53 {l : Launch} {D : va_G} {cy : Nat → ClassId} {g : Gs} {x0 : Int32} {x1 : Int32} {out : Int32} (hf : f_J9_floorDiv_7cf53 x0 x1 = some out) : CR l D cy g yJ9_floorDiv_7cf53 cJ9_floorDiv_7cf53 3 (some .int) 0 0 ([]) [.int x0, .int x1] (some (.int out)) := by
  unfold f_J9_floorDiv_7cf53 at hf
  refine met_RF (lv := [(0, .int x0), (1, .int x1)]) (by decide +kernel) (Nat.le_of_ble_eq_true rfl) rfl ?_
  intro p e s m args below meth c F hP hK hS
  refine j_iload_n (pc := 0) F 0 dJ9_floorDiv_7cf53_0 rfl rfl ?_
  refine j_iload_n (pc := 1) F 1 dJ9_floorDiv_7cf53_1 rfl rfl ?_
  have c_1 : ¬ x1 = 0 := fun z => by rw [if_pos z] at hf; cases hf
  have hf := of_neg c_1 hf
  refine j_idiv (pc := 2) F dJ9_floorDiv_7cf53_2 c_1 ?_
  refine j_istore_n (pc := 3) (lv' := [(2, .int (x0 / x1)), (0, .int x0), (1, .int x1)]) F dJ9_floorDiv_7cf53_3 rfl (by decide) rfl ?_
  refine j_iload_n (pc := 4) F 1 dJ9_floorDiv_7cf53_4 rfl rfl ?_
  refine j_iload_n (pc := 5) F 2 dJ9_floorDiv_7cf53_5 rfl rfl ?_
  refine j_ixor (pc := 6) F dJ9_floorDiv_7cf53_6 ?_
  refine j_if_ge (pc := 7) (tgt := 21) F dJ9_floorDiv_7cf53_7 rfl (fun c_2 => ?_) (fun c_2 => ?_)
  · have hf := of_pos c_2 hf
    refine j_iload_n (pc := 21) F 0 dJ9_floorDiv_7cf53_21 rfl rfl ?_
    exact j_iretR (pc := 22) F dJ9_floorDiv_7cf53_22 (Option.some.inj hf)
  · have hf := of_neg c_2 hf
    refine j_iload_n (pc := 10) F 0 dJ9_floorDiv_7cf53_10 rfl rfl ?_
    refine j_iload_n (pc := 11) F 2 dJ9_floorDiv_7cf53_11 rfl rfl ?_
    refine j_imul (pc := 12) F dJ9_floorDiv_7cf53_12 ?_
    refine j_iload_n (pc := 13) F 1 dJ9_floorDiv_7cf53_13 rfl rfl ?_
    refine j_icmp_eq (pc := 14) (tgt := 21) F dJ9_floorDiv_7cf53_14 rfl (fun c_3 => ?_) (fun c_3 => ?_)
    · have hf := of_pos c_3 hf
      refine j_iload_n (pc := 21) F 0 dJ9_floorDiv_7cf53_21 rfl rfl ?_
      exact j_iretR (pc := 22) F dJ9_floorDiv_7cf53_22 (Option.some.inj hf)
    · have hf := of_neg c_3 hf
      refine j_iload_n (pc := 17) F 0 dJ9_floorDiv_7cf53_17 rfl rfl ?_
      refine j_iconst (pc := 18) F (v := 1) dJ9_floorDiv_7cf53_18 rfl ?_
      refine j_isub (pc := 19) F dJ9_floorDiv_7cf53_19 ?_
      exact j_iretR (pc := 20) F dJ9_floorDiv_7cf53_20 (Option.some.inj hf)
theorem cf_J9_floorDiv_7cf53 : cfS yJ9_floorDiv_7cf53 cJ9_floorDiv_7cf53 3 (some .int) 2 := ⟨tm_292, tm_61, tm_293, by decide, by decide, by decide +kernel⟩

def f_J9_min_7cf53 (x0 : Int32) (x1 : Int32) : Int32 := if x1 < x0 then x1 else x0
set_option maxHeartbeats 4000000 in
set_option maxRecDepth 100000 in
theorem c_J9_min_7cf53 {l : Launch} {D : va_G} {cy : Nat → ClassId} {g : Gs} {x0 : Int32} {x1 : Int32} {out : Int32} (hf : f_J9_min_7cf53 x0 x1 = out) : CR l D cy g yJ9_min_7cf53 cJ9_min_7cf53 2 (some .int) 0 0 ([]) [.int x0, .int x1] (some (.int out)) := by
  unfold f_J9_min_7cf53 at hf
  refine met_RF (lv := [(0, .int x0), (1, .int x1)]) (by decide +kernel) (Nat.le_of_ble_eq_true rfl) rfl ?_
  intro p e s m args below meth c F hP hK hS
  refine j_iload_n (pc := 0) F 0 dJ9_min_7cf53_0 rfl rfl ?_
  refine j_iload_n (pc := 1) F 1 dJ9_min_7cf53_1 rfl rfl ?_
  refine j_icmp_gt (pc := 2) (tgt := 9) F dJ9_min_7cf53_2 rfl (fun c_1 => ?_) (fun c_1 => ?_)
  · have hf := of_pos c_1 hf
    refine j_iload_n (pc := 9) F 1 dJ9_min_7cf53_9 rfl rfl ?_
    exact j_iretR (pc := 10) F dJ9_min_7cf53_10 hf
  · have hf := of_neg c_1 hf
    refine j_iload_n (pc := 5) F 0 dJ9_min_7cf53_5 rfl rfl ?_
    refine j_goto (pc := 6) F (tgt := 10) dJ9_min_7cf53_6 rfl ?_
    exact j_iretR (pc := 10) F dJ9_min_7cf53_10 hf
theorem cf_J9_min_7cf53 : cfS yJ9_min_7cf53 cJ9_min_7cf53 2 (some .int) 2 := ⟨tm_301, tm_61, tm_302, by decide, by decide, by decide +kernel⟩

def f_X2_isCalendar (x0 : Int32) : Bool := if x0 < 0 then false else if 2 < x0 then false else true
set_option maxHeartbeats 4000000 in
set_option maxRecDepth 100000 in
theorem c_X2_isCalendar {l : Launch} {D : va_G} {cy : Nat → ClassId} {g : Gs} {x0 : Int32} {out : Bool} (hf : f_X2_isCalendar x0 = out) : CR l D cy g yX2_isCalendar cX2_isCalendar 1 (some .boolean) 0 0 ([]) [.int x0] (some (.int (bI out))) := by
  unfold f_X2_isCalendar at hf
  refine met_R (lv := [(0, .int x0)]) (by decide) (Nat.le_of_ble_eq_true rfl) rfl ?_
  intro p e s m args below meth c F hP hK hS
  refine j_iload_n (pc := 0) F 0 dX2_isCalendar_0 rfl rfl ?_
  refine j_if_lt (pc := 1) (tgt := 13) F dX2_isCalendar_1 rfl (fun c_1 => ?_) (fun c_1 => ?_)
  · have hf := of_pos c_1 hf
    refine j_iconst (pc := 13) F (v := 0) dX2_isCalendar_13 rfl ?_
    exact j_zretR (pc := 14) F dX2_isCalendar_14 (congrArg bI hf)
  · have hf := of_neg c_1 hf
    refine j_iload_n (pc := 4) F 0 dX2_isCalendar_4 rfl rfl ?_
    refine j_iconst (pc := 5) F (v := 2) dX2_isCalendar_5 rfl ?_
    refine j_icmp_gt (pc := 6) (tgt := 13) F dX2_isCalendar_6 rfl (fun c_2 => ?_) (fun c_2 => ?_)
    · have hf := of_pos c_2 hf
      refine j_iconst (pc := 13) F (v := 0) dX2_isCalendar_13 rfl ?_
      exact j_zretR (pc := 14) F dX2_isCalendar_14 (congrArg bI hf)
    · have hf := of_neg c_2 hf
      refine j_iconst (pc := 9) F (v := 1) dX2_isCalendar_9 rfl ?_
      refine j_goto (pc := 10) F (tgt := 14) dX2_isCalendar_10 rfl ?_
      exact j_zretR (pc := 14) F dX2_isCalendar_14 (congrArg bI hf)
theorem cf_X2_isCalendar : cfS yX2_isCalendar cX2_isCalendar 1 (some .boolean) 1 := ⟨tm_354, tm_62, tm_355, by decide, by decide, by decide +kernel⟩

def f_X2_firstDay (x0 : Int32) (x1 : Int32) : Int32 := if x0 = 0 then 365 * x1 else if x0 = 1 then (365 * x1) + ((x1 + 3) / 4) else (354 * x1) + (30 * (((7 * x1) + 13) / 19))
set_option maxHeartbeats 4000000 in
set_option maxRecDepth 100000 in
theorem c_X2_firstDay {l : Launch} {D : va_G} {cy : Nat → ClassId} {g : Gs} {x0 : Int32} {x1 : Int32} {out : Int32} (hf : f_X2_firstDay x0 x1 = out) : CR l D cy g yX2_firstDay cX2_firstDay 2 (some .int) 0 0 ([]) [.int x0, .int x1] (some (.int out)) := by
  unfold f_X2_firstDay at hf
  refine met_R (lv := [(0, .int x0), (1, .int x1)]) (by decide) (Nat.le_of_ble_eq_true rfl) rfl ?_
  intro p e s m args below meth c F hP hK hS
  refine j_iload_n (pc := 0) F 0 dX2_firstDay_0 rfl rfl ?_
  refine j_if_ne (pc := 1) (tgt := 10) F dX2_firstDay_1 rfl (fun c_1 => ?_) (fun c_1 => ?_)
  · have hf := of_neg c_1 hf
    refine j_iload_n (pc := 10) F 0 dX2_firstDay_10 rfl rfl ?_
    refine j_iconst (pc := 11) F (v := 1) dX2_firstDay_11 rfl ?_
    refine j_icmp_ne (pc := 12) (tgt := 27) F dX2_firstDay_12 rfl (fun c_2 => ?_) (fun c_2 => ?_)
    · have hf := of_neg c_2 hf
      refine j_sipush (pc := 27) F (v := 354) dX2_firstDay_27 rfl ?_
      refine j_iload_n (pc := 30) F 1 dX2_firstDay_30 rfl rfl ?_
      refine j_imul (pc := 31) F dX2_firstDay_31 ?_
      refine j_bipush (pc := 32) F (v := 30) dX2_firstDay_32 rfl ?_
      refine j_bipush (pc := 34) F (v := 7) dX2_firstDay_34 rfl ?_
      refine j_iload_n (pc := 36) F 1 dX2_firstDay_36 rfl rfl ?_
      refine j_imul (pc := 37) F dX2_firstDay_37 ?_
      refine j_bipush (pc := 38) F (v := 13) dX2_firstDay_38 rfl ?_
      refine j_iadd (pc := 40) F dX2_firstDay_40 ?_
      refine j_bipush (pc := 41) F (v := 19) dX2_firstDay_41 rfl ?_
      refine j_idiv (pc := 43) F dX2_firstDay_43 (by decide) ?_
      refine j_imul (pc := 44) F dX2_firstDay_44 ?_
      refine j_iadd (pc := 45) F dX2_firstDay_45 ?_
      exact j_iretR (pc := 46) F dX2_firstDay_46 hf
    · have hf := of_pos c_2 hf
      refine j_sipush (pc := 15) F (v := 365) dX2_firstDay_15 rfl ?_
      refine j_iload_n (pc := 18) F 1 dX2_firstDay_18 rfl rfl ?_
      refine j_imul (pc := 19) F dX2_firstDay_19 ?_
      refine j_iload_n (pc := 20) F 1 dX2_firstDay_20 rfl rfl ?_
      refine j_iconst (pc := 21) F (v := 3) dX2_firstDay_21 rfl ?_
      refine j_iadd (pc := 22) F dX2_firstDay_22 ?_
      refine j_iconst (pc := 23) F (v := 4) dX2_firstDay_23 rfl ?_
      refine j_idiv (pc := 24) F dX2_firstDay_24 (by decide) ?_
      refine j_iadd (pc := 25) F dX2_firstDay_25 ?_
      exact j_iretR (pc := 26) F dX2_firstDay_26 hf
  · have hf := of_pos c_1 hf
    refine j_sipush (pc := 4) F (v := 365) dX2_firstDay_4 rfl ?_
    refine j_iload_n (pc := 7) F 1 dX2_firstDay_7 rfl rfl ?_
    refine j_imul (pc := 8) F dX2_firstDay_8 ?_
    exact j_iretR (pc := 9) F dX2_firstDay_9 hf
theorem cf_X2_firstDay : cfS yX2_firstDay cX2_firstDay 2 (some .int) 2 := ⟨tm_363, tm_62, tm_364, by decide, by decide, by decide +kernel⟩

def f_X2_monthLength_48 (y0 : Int32) (y1 : Int32) (y2 : Int32) : Option (Int32) := if y0 = 2 then if 7 ≤ (((7 * y1) + 1) - ((7 * y1) + 1) / 19 * 19) then some 0 else some 30 else if y2 ≤ 12 then if y2 = 2 then if (y1 - y1 / 4 * 4) = 0 then some 29 else if (y2 - 1) < 0 ∨ 12 ≤ Int32.toNatClampNeg (y2 - 1) then none else some (sF 1 (Int32.toNatClampNeg (y2 - 1))) else if (y2 - 1) < 0 ∨ 12 ≤ Int32.toNatClampNeg (y2 - 1) then none else some (sF 1 (Int32.toNatClampNeg (y2 - 1))) else some 0
def f_X2_monthLength (x0 : Int32) (x1 : Int32) (x2 : Int32) : Option (Int32) := if x2 < 1 then some 0 else if x2 ≤ 13 then if x0 = 0 then if 13 ≤ x2 then some 5 else some 30 else if x0 = 2 then if 13 ≤ x2 then f_X2_monthLength_48 x0 x1 x2 else some (29 + (x2 - x2 / 2 * 2)) else f_X2_monthLength_48 x0 x1 x2 else some 0
set_option maxHeartbeats 4000000 in
set_option maxRecDepth 100000 in
theorem b_X2_monthLength_48 {l : Launch} {D : va_G} {cy : Nat → ClassId} {g : Gs} {p : Program} {e : Env} {s : State} {m : MethodId} {args : Array Value} {below : List Frame} {meth : Method} {c : Code} {out : Int32} (F : Fx p s m args meth c cX2_monthLength RX2 3 (some .int)) (hP : va_P D vwCl ([]) s.heap) (hK : va_K D vwCl (tys cy) s) (hS : St g nA s s.heap) :
    ∀ (y0 : Int32) (y1 : Int32) (y2 : Int32), f_X2_monthLength_48 y0 y1 y2 = some out → J p l e { frames := 0, cells := 0, slots := 0, locals := 0 } s m args below meth c 3 (hR s) 0 0 (MQ below (QR (some (.int out))) args s 0 0 nA) 48 [(0, .int y0), (1, .int y1), (2, .int y2)] [] := by
  intro y0 y1 y2 hf
  unfold f_X2_monthLength_48 at hf
  refine j_iload_n (pc := 48) F 0 dX2_monthLength_48 rfl rfl ?_
  refine j_iconst (pc := 49) F (v := 2) dX2_monthLength_49 rfl ?_
  refine j_icmp_ne (pc := 50) (tgt := 74) F dX2_monthLength_50 rfl (fun c_1 => ?_) (fun c_1 => ?_)
  · have hf := of_neg c_1 hf
    refine j_iload_n (pc := 74) F 2 dX2_monthLength_74 rfl rfl ?_
    refine jr_gets (pc := 75) F hS 1 (by decide) tm_371 dX2_monthLength_75 ?_
    refine jr_slen (pc := 78) (v := 12) F hS 1 (by decide) rfl dX2_monthLength_78 ?_
    refine j_icmp_le (pc := 79) (tgt := 84) F dX2_monthLength_79 rfl (fun c_2 => ?_) (fun c_2 => ?_)
    · have hf := of_pos c_2 hf
      refine j_iload_n (pc := 84) F 2 dX2_monthLength_84 rfl rfl ?_
      refine j_iconst (pc := 85) F (v := 2) dX2_monthLength_85 rfl ?_
      refine j_icmp_ne (pc := 86) (tgt := 100) F dX2_monthLength_86 rfl (fun c_3 => ?_) (fun c_3 => ?_)
      · have hf := of_neg c_3 hf
        refine jr_gets (pc := 100) F hS 1 (by decide) tm_371 dX2_monthLength_100 ?_
        refine j_iload_n (pc := 103) F 2 dX2_monthLength_103 rfl rfl ?_
        refine j_iconst (pc := 104) F (v := 1) dX2_monthLength_104 rfl ?_
        refine j_isub (pc := 105) F dX2_monthLength_105 ?_
        have c_4 : ¬ ((y2 - 1) < 0 ∨ 12 ≤ Int32.toNatClampNeg (y2 - 1)) := fun z => by rw [if_pos z] at hf; cases hf
        have hf := of_neg c_4 hf
        refine jr_sald (pc := 106) F hS 1 (by decide) c_4 dX2_monthLength_106 ?_
        exact j_iretR (pc := 107) F dX2_monthLength_107 (Option.some.inj hf)
      · have hf := of_pos c_3 hf
        refine j_iload_n (pc := 89) F 1 dX2_monthLength_89 rfl rfl ?_
        refine j_iconst (pc := 90) F (v := 4) dX2_monthLength_90 rfl ?_
        refine j_irem (pc := 91) F dX2_monthLength_91 (by decide) ?_
        refine j_if_ne (pc := 92) (tgt := 100) F dX2_monthLength_92 rfl (fun c_5 => ?_) (fun c_5 => ?_)
        · have hf := of_neg c_5 hf
          refine jr_gets (pc := 100) F hS 1 (by decide) tm_371 dX2_monthLength_100 ?_
          refine j_iload_n (pc := 103) F 2 dX2_monthLength_103 rfl rfl ?_
          refine j_iconst (pc := 104) F (v := 1) dX2_monthLength_104 rfl ?_
          refine j_isub (pc := 105) F dX2_monthLength_105 ?_
          have c_6 : ¬ ((y2 - 1) < 0 ∨ 12 ≤ Int32.toNatClampNeg (y2 - 1)) := fun z => by rw [if_pos z] at hf; cases hf
          have hf := of_neg c_6 hf
          refine jr_sald (pc := 106) F hS 1 (by decide) c_6 dX2_monthLength_106 ?_
          exact j_iretR (pc := 107) F dX2_monthLength_107 (Option.some.inj hf)
        · have hf := of_pos c_5 hf
          refine j_bipush (pc := 95) F (v := 29) dX2_monthLength_95 rfl ?_
          refine j_goto (pc := 97) F (tgt := 107) dX2_monthLength_97 rfl ?_
          exact j_iretR (pc := 107) F dX2_monthLength_107 (Option.some.inj hf)
    · have hf := of_neg c_2 hf
      refine j_iconst (pc := 82) F (v := 0) dX2_monthLength_82 rfl ?_
      exact j_iretR (pc := 83) F dX2_monthLength_83 (Option.some.inj hf)
  · have hf := of_pos c_1 hf
    refine j_bipush (pc := 53) F (v := 7) dX2_monthLength_53 rfl ?_
    refine j_iload_n (pc := 55) F 1 dX2_monthLength_55 rfl rfl ?_
    refine j_imul (pc := 56) F dX2_monthLength_56 ?_
    refine j_iconst (pc := 57) F (v := 1) dX2_monthLength_57 rfl ?_
    refine j_iadd (pc := 58) F dX2_monthLength_58 ?_
    refine j_bipush (pc := 59) F (v := 19) dX2_monthLength_59 rfl ?_
    refine j_irem (pc := 61) F dX2_monthLength_61 (by decide) ?_
    refine j_bipush (pc := 62) F (v := 7) dX2_monthLength_62 rfl ?_
    refine j_icmp_ge (pc := 64) (tgt := 72) F dX2_monthLength_64 rfl (fun c_7 => ?_) (fun c_7 => ?_)
    · have hf := of_pos c_7 hf
      refine j_iconst (pc := 72) F (v := 0) dX2_monthLength_72 rfl ?_
      exact j_iretR (pc := 73) F dX2_monthLength_73 (Option.some.inj hf)
    · have hf := of_neg c_7 hf
      refine j_bipush (pc := 67) F (v := 30) dX2_monthLength_67 rfl ?_
      refine j_goto (pc := 69) F (tgt := 73) dX2_monthLength_69 rfl ?_
      exact j_iretR (pc := 73) F dX2_monthLength_73 (Option.some.inj hf)
set_option maxHeartbeats 4000000 in
set_option maxRecDepth 100000 in
theorem c_X2_monthLength {l : Launch} {D : va_G} {cy : Nat → ClassId} {g : Gs} {x0 : Int32} {x1 : Int32} {x2 : Int32} {out : Int32} (hf : f_X2_monthLength x0 x1 x2 = some out) : CR l D cy g yX2_monthLength cX2_monthLength 3 (some .int) 0 0 ([]) [.int x0, .int x1, .int x2] (some (.int out)) := by
  unfold f_X2_monthLength at hf
  refine met_R (lv := [(0, .int x0), (1, .int x1), (2, .int x2)]) (by decide) (Nat.le_of_ble_eq_true rfl) rfl ?_
  intro p e s m args below meth c F hP hK hS
  refine j_iload_n (pc := 0) F 2 dX2_monthLength_0 rfl rfl ?_
  refine j_iconst (pc := 1) F (v := 1) dX2_monthLength_1 rfl ?_
  refine j_icmp_lt (pc := 2) (tgt := 11) F dX2_monthLength_2 rfl (fun c_1 => ?_) (fun c_1 => ?_)
  · have hf := of_pos c_1 hf
    refine j_iconst (pc := 11) F (v := 0) dX2_monthLength_11 rfl ?_
    exact j_iretR (pc := 12) F dX2_monthLength_12 (Option.some.inj hf)
  · have hf := of_neg c_1 hf
    refine j_iload_n (pc := 5) F 2 dX2_monthLength_5 rfl rfl ?_
    refine j_bipush (pc := 6) F (v := 13) dX2_monthLength_6 rfl ?_
    refine j_icmp_le (pc := 8) (tgt := 13) F dX2_monthLength_8 rfl (fun c_2 => ?_) (fun c_2 => ?_)
    · have hf := of_pos c_2 hf
      refine j_iload_n (pc := 13) F 0 dX2_monthLength_13 rfl rfl ?_
      refine j_if_ne (pc := 14) (tgt := 30) F dX2_monthLength_14 rfl (fun c_3 => ?_) (fun c_3 => ?_)
      · have hf := of_neg c_3 hf
        refine j_iload_n (pc := 30) F 0 dX2_monthLength_30 rfl rfl ?_
        refine j_iconst (pc := 31) F (v := 2) dX2_monthLength_31 rfl ?_
        refine j_icmp_ne (pc := 32) (tgt := 48) F dX2_monthLength_32 rfl (fun c_4 => ?_) (fun c_4 => ?_)
        · have hf := of_neg c_4 hf
          exact b_X2_monthLength_48 F hP hK hS x0 x1 x2 hf
        · have hf := of_pos c_4 hf
          refine j_iload_n (pc := 35) F 2 dX2_monthLength_35 rfl rfl ?_
          refine j_bipush (pc := 36) F (v := 13) dX2_monthLength_36 rfl ?_
          refine j_icmp_ge (pc := 38) (tgt := 48) F dX2_monthLength_38 rfl (fun c_5 => ?_) (fun c_5 => ?_)
          · have hf := of_pos c_5 hf
            exact b_X2_monthLength_48 F hP hK hS x0 x1 x2 hf
          · have hf := of_neg c_5 hf
            refine j_bipush (pc := 41) F (v := 29) dX2_monthLength_41 rfl ?_
            refine j_iload_n (pc := 43) F 2 dX2_monthLength_43 rfl rfl ?_
            refine j_iconst (pc := 44) F (v := 2) dX2_monthLength_44 rfl ?_
            refine j_irem (pc := 45) F dX2_monthLength_45 (by decide) ?_
            refine j_iadd (pc := 46) F dX2_monthLength_46 ?_
            exact j_iretR (pc := 47) F dX2_monthLength_47 (Option.some.inj hf)
      · have hf := of_pos c_3 hf
        refine j_iload_n (pc := 17) F 2 dX2_monthLength_17 rfl rfl ?_
        refine j_bipush (pc := 18) F (v := 13) dX2_monthLength_18 rfl ?_
        refine j_icmp_ge (pc := 20) (tgt := 28) F dX2_monthLength_20 rfl (fun c_6 => ?_) (fun c_6 => ?_)
        · have hf := of_pos c_6 hf
          refine j_iconst (pc := 28) F (v := 5) dX2_monthLength_28 rfl ?_
          exact j_iretR (pc := 29) F dX2_monthLength_29 (Option.some.inj hf)
        · have hf := of_neg c_6 hf
          refine j_bipush (pc := 23) F (v := 30) dX2_monthLength_23 rfl ?_
          refine j_goto (pc := 25) F (tgt := 29) dX2_monthLength_25 rfl ?_
          exact j_iretR (pc := 29) F dX2_monthLength_29 (Option.some.inj hf)
    · have hf := of_neg c_2 hf
      refine j_iconst (pc := 11) F (v := 0) dX2_monthLength_11 rfl ?_
      exact j_iretR (pc := 12) F dX2_monthLength_12 (Option.some.inj hf)
theorem cf_X2_monthLength : cfS yX2_monthLength cX2_monthLength 3 (some .int) 3 := ⟨tm_369, tm_62, tm_370, by decide, by decide, by decide +kernel⟩

def f_X2_guessYear (x0 : Int32) (x1 : Int32) : Int32 := if x0 = 0 then x1 / 365 else if x0 = 1 then (4 * x1) / 1461 else (19 * x1) / 6936
set_option maxHeartbeats 4000000 in
set_option maxRecDepth 100000 in
theorem c_X2_guessYear {l : Launch} {D : va_G} {cy : Nat → ClassId} {g : Gs} {x0 : Int32} {x1 : Int32} {out : Int32} (hf : f_X2_guessYear x0 x1 = out) : CR l D cy g yX2_guessYear cX2_guessYear 2 (some .int) 0 0 ([]) [.int x0, .int x1] (some (.int out)) := by
  unfold f_X2_guessYear at hf
  refine met_R (lv := [(0, .int x0), (1, .int x1)]) (by decide) (Nat.le_of_ble_eq_true rfl) rfl ?_
  intro p e s m args below meth c F hP hK hS
  refine j_iload_n (pc := 0) F 0 dX2_guessYear_0 rfl rfl ?_
  refine j_if_ne (pc := 1) (tgt := 10) F dX2_guessYear_1 rfl (fun c_1 => ?_) (fun c_1 => ?_)
  · have hf := of_neg c_1 hf
    refine j_iload_n (pc := 10) F 0 dX2_guessYear_10 rfl rfl ?_
    refine j_iconst (pc := 11) F (v := 1) dX2_guessYear_11 rfl ?_
    refine j_icmp_ne (pc := 12) (tgt := 25) F dX2_guessYear_12 rfl (fun c_2 => ?_) (fun c_2 => ?_)
    · have hf := of_neg c_2 hf
      refine j_bipush (pc := 25) F (v := 19) dX2_guessYear_25 rfl ?_
      refine j_iload_n (pc := 27) F 1 dX2_guessYear_27 rfl rfl ?_
      refine j_imul (pc := 28) F dX2_guessYear_28 ?_
      refine j_sipush (pc := 29) F (v := 6936) dX2_guessYear_29 rfl ?_
      refine j_idiv (pc := 32) F dX2_guessYear_32 (by decide) ?_
      exact j_iretR (pc := 33) F dX2_guessYear_33 hf
    · have hf := of_pos c_2 hf
      refine j_iconst (pc := 15) F (v := 4) dX2_guessYear_15 rfl ?_
      refine j_iload_n (pc := 16) F 1 dX2_guessYear_16 rfl rfl ?_
      refine j_imul (pc := 17) F dX2_guessYear_17 ?_
      refine j_sipush (pc := 18) F (v := 1461) dX2_guessYear_18 rfl ?_
      refine j_idiv (pc := 21) F dX2_guessYear_21 (by decide) ?_
      refine j_goto (pc := 22) F (tgt := 33) dX2_guessYear_22 rfl ?_
      exact j_iretR (pc := 33) F dX2_guessYear_33 hf
  · have hf := of_pos c_1 hf
    refine j_iload_n (pc := 4) F 1 dX2_guessYear_4 rfl rfl ?_
    refine j_sipush (pc := 5) F (v := 365) dX2_guessYear_5 rfl ?_
    refine j_idiv (pc := 8) F dX2_guessYear_8 (by decide) ?_
    exact j_iretR (pc := 9) F dX2_guessYear_9 hf
theorem cf_X2_guessYear : cfS yX2_guessYear cX2_guessYear 2 (some .int) 2 := ⟨tm_360, tm_62, tm_361, by decide, by decide, by decide +kernel⟩

def f_X2_yearOf (x0 : Int32) (x1 : Int32) : Int32 := if (f_X2_firstDay x0 (f_X2_guessYear x0 x1)) ≤ x1 then if x1 < (f_X2_firstDay x0 ((f_X2_guessYear x0 x1) + 1)) then f_X2_guessYear x0 x1 else (f_X2_guessYear x0 x1) + 1 else (f_X2_guessYear x0 x1) - 1
set_option maxHeartbeats 4000000 in
set_option maxRecDepth 100000 in
theorem c_X2_yearOf {l : Launch} {D : va_G} {cy : Nat → ClassId} {g : Gs} {x0 : Int32} {x1 : Int32} {out : Int32} (hf : f_X2_yearOf x0 x1 = out) : CR l D cy g yX2_yearOf cX2_yearOf 3 (some .int) 1 21 ([]) [.int x0, .int x1] (some (.int out)) := by
  unfold f_X2_yearOf at hf
  refine met_R (lv := [(0, .int x0), (1, .int x1)]) (by decide) (Nat.le_of_ble_eq_true rfl) rfl ?_
  intro p e s m args below meth c F hP hK hS
  refine j_iload_n (pc := 0) F 0 dX2_yearOf_0 rfl rfl ?_
  refine j_iload_n (pc := 1) F 1 dX2_yearOf_1 rfl rfl ?_
  refine j_callRS (pc := 2) (st := []) (st1 := [.int (f_X2_guessYear x0 x1)]) F hK (hpR hP hS hp_nil) (c_X2_guessYear (l := l) (D := D) (cy := cy) (g := g) (rfl : f_X2_guessYear x0 x1 = _)) tm_359 cf_X2_guessYear (Nat.le_of_ble_eq_true rfl) (Nat.le_of_ble_eq_true rfl) ⟨Nat.zero_le _, Nat.zero_le _⟩ rfl rfl (Nat.le_of_ble_eq_true rfl) rfl dX2_yearOf_2 ?_
  refine j_istore_n (pc := 5) (lv' := [(2, .int (f_X2_guessYear x0 x1)), (0, .int x0), (1, .int x1)]) F dX2_yearOf_5 rfl (by decide) rfl ?_
  refine j_iload_n (pc := 6) F 1 dX2_yearOf_6 rfl rfl ?_
  refine j_iload_n (pc := 7) F 0 dX2_yearOf_7 rfl rfl ?_
  refine j_callRS (pc := 8) (st := []) (st1 := [.int (f_X2_firstDay x0 (f_X2_guessYear x0 x1))]) F hK (hpR hP hS hp_nil) (c_X2_firstDay (l := l) (D := D) (cy := cy) (g := g) (rfl : f_X2_firstDay x0 (f_X2_guessYear x0 x1) = _)) tm_362 cf_X2_firstDay (Nat.le_of_ble_eq_true rfl) (Nat.le_of_ble_eq_true rfl) ⟨Nat.zero_le _, Nat.zero_le _⟩ rfl rfl (Nat.le_of_ble_eq_true rfl) rfl dX2_yearOf_8 ?_
  refine j_iload_n (pc := 11) F 2 dX2_yearOf_11 rfl rfl ?_
  refine j_icmp_le (pc := 12) (tgt := 19) F dX2_yearOf_12 rfl (fun c_3 => ?_) (fun c_3 => ?_)
  · have hf := of_pos c_3 hf
    refine j_iload_n (pc := 19) F 1 dX2_yearOf_19 rfl rfl ?_
    refine j_iload_n (pc := 20) F 0 dX2_yearOf_20 rfl rfl ?_
    refine j_iconst (pc := 21) F (v := 1) dX2_yearOf_21 rfl ?_
    refine j_iadd (pc := 22) F dX2_yearOf_22 ?_
    refine j_callRS (pc := 23) (st := []) (st1 := [.int (f_X2_firstDay x0 ((f_X2_guessYear x0 x1) + 1))]) F hK (hpR hP hS hp_nil) (c_X2_firstDay (l := l) (D := D) (cy := cy) (g := g) (rfl : f_X2_firstDay x0 ((f_X2_guessYear x0 x1) + 1) = _)) tm_362 cf_X2_firstDay (Nat.le_of_ble_eq_true rfl) (Nat.le_of_ble_eq_true rfl) ⟨Nat.zero_le _, Nat.zero_le _⟩ rfl rfl (Nat.le_of_ble_eq_true rfl) rfl dX2_yearOf_23 ?_
    refine j_iload_n (pc := 26) F 2 dX2_yearOf_26 rfl rfl ?_
    refine j_icmp_gt (pc := 27) (tgt := 36) F dX2_yearOf_27 rfl (fun c_5 => ?_) (fun c_5 => ?_)
    · have hf := of_pos c_5 hf
      refine j_iload_n (pc := 36) F 0 dX2_yearOf_36 rfl rfl ?_
      exact j_iretR (pc := 37) F dX2_yearOf_37 hf
    · have hf := of_neg c_5 hf
      refine j_iload_n (pc := 30) F 0 dX2_yearOf_30 rfl rfl ?_
      refine j_iconst (pc := 31) F (v := 1) dX2_yearOf_31 rfl ?_
      refine j_iadd (pc := 32) F dX2_yearOf_32 ?_
      refine j_goto (pc := 33) F (tgt := 37) dX2_yearOf_33 rfl ?_
      exact j_iretR (pc := 37) F dX2_yearOf_37 hf
  · have hf := of_neg c_3 hf
    refine j_iload_n (pc := 15) F 0 dX2_yearOf_15 rfl rfl ?_
    refine j_iconst (pc := 16) F (v := 1) dX2_yearOf_16 rfl ?_
    refine j_isub (pc := 17) F dX2_yearOf_17 ?_
    exact j_iretR (pc := 18) F dX2_yearOf_18 hf
theorem cf_X2_yearOf : cfS yX2_yearOf cX2_yearOf 3 (some .int) 2 := ⟨tm_357, tm_62, tm_358, by decide, by decide, by decide +kernel⟩

def f_X2_monthDayOf_11 (N : Nat) : Nat → Int32 → Int32 → Int32 → Int32 → Option (Int32)
  | 0, _, _, _, _ => none
  | n + 1, y0, y1, y3, y4 => if 13 < y4 then some 0 else (f_X2_monthLength y0 y1 y4).bind fun o_2 => if o_2 ≤ y3 then f_X2_monthDayOf_11 N n y0 y1 (y3 - o_2) (y4 + 1) else some (((y4 * 100) + y3) + 1)
def f_X2_monthDayOf (N : Nat) (x0 : Int32) (x1 : Int32) (x2 : Int32) : Option (Int32) := f_X2_monthDayOf_11 N N x0 x1 (x2 - (f_X2_firstDay x0 x1)) 1
set_option maxHeartbeats 4000000 in
set_option maxRecDepth 100000 in
theorem b_X2_monthDayOf_11 {l : Launch} {D : va_G} {cy : Nat → ClassId} {g : Gs} {p : Program} {e : Env} {s : State} {m : MethodId} {args : Array Value} {below : List Frame} {meth : Method} {c : Code} {N : Nat} {out : Int32} (F : Fx p s m args meth c cX2_monthDayOf RX2 6 (some .int)) (hP : va_P D vwCl ([]) s.heap) (hK : va_K D vwCl (tys cy) s) (hS : St g nA s s.heap) :
    ∀ (n : Nat) (y0 : Int32) (y1 : Int32) (y3 : Int32) (y4 : Int32), f_X2_monthDayOf_11 N n y0 y1 y3 y4 = some out → J p l e { frames := 1, cells := 0, slots := 0, locals := 22 } s m args below meth c 6 (hR s) 0 0 (MQ below (QR (some (.int out))) args s 0 0 nA) 11 [(0, .int y0), (1, .int y1), (3, .int y3), (4, .int y4)] [] := by
  intro n
  induction n with
  | zero =>
    intro y0 y1 y3 y4 hf
    cases hf
  | succ n ih =>
    intro y0 y1 y3 y4 hf
    rw [f_X2_monthDayOf_11] at hf
    refine j_iload (pc := 11) F 3 dX2_monthDayOf_11 rfl ?_
    refine j_bipush (pc := 13) F (v := 13) dX2_monthDayOf_13 rfl ?_
    refine j_icmp_gt (pc := 15) (tgt := 54) F dX2_monthDayOf_15 rfl (fun c_1 => ?_) (fun c_1 => ?_)
    · have hf := of_pos c_1 hf
      refine j_iconst (pc := 54) F (v := 0) dX2_monthDayOf_54 rfl ?_
      exact j_iretR (pc := 55) F dX2_monthDayOf_55 (Option.some.inj hf)
    · have hf := of_neg c_1 hf
      refine j_iload_n (pc := 18) F 0 dX2_monthDayOf_18 rfl rfl ?_
      refine j_iload_n (pc := 19) F 1 dX2_monthDayOf_19 rfl rfl ?_
      refine j_iload (pc := 20) F 3 dX2_monthDayOf_20 rfl ?_
      obtain ⟨o_2, ho_2, hf⟩ := of_bnd hf
      refine j_callRS (pc := 22) (st := []) (st1 := [.int o_2]) F hK (hpR hP hS hp_nil) (c_X2_monthLength (l := l) (D := D) (cy := cy) (g := g) ho_2) tm_368 cf_X2_monthLength (Nat.le_of_ble_eq_true rfl) (Nat.le_of_ble_eq_true rfl) ⟨Nat.zero_le _, Nat.zero_le _⟩ rfl rfl (Nat.le_of_ble_eq_true rfl) rfl dX2_monthDayOf_22 ?_
      refine j_istore (pc := 25) (lv' := [(5, .int o_2), (0, .int y0), (1, .int y1), (3, .int y3), (4, .int y4)]) F dX2_monthDayOf_25 (by decide) rfl ?_
      refine j_iload_n (pc := 27) F 3 dX2_monthDayOf_27 rfl rfl ?_
      refine j_iload (pc := 28) F 0 dX2_monthDayOf_28 rfl ?_
      refine j_icmp_ge (pc := 30) (tgt := 43) F dX2_monthDayOf_30 rfl (fun c_3 => ?_) (fun c_3 => ?_)
      · have hf := of_pos c_3 hf
        refine j_iload_n (pc := 43) F 3 dX2_monthDayOf_43 rfl rfl ?_
        refine j_iload (pc := 44) F 0 dX2_monthDayOf_44 rfl ?_
        refine j_isub (pc := 46) F dX2_monthDayOf_46 ?_
        refine j_istore_n (pc := 47) (lv' := [(3, .int (y3 - o_2)), (5, .int o_2), (0, .int y0), (1, .int y1), (4, .int y4)]) F dX2_monthDayOf_47 rfl (by decide) rfl ?_
        refine j_iinc (pc := 48) (v := y4 + 1) (lv' := [(4, .int (y4 + 1)), (3, .int (y3 - o_2)), (5, .int o_2), (0, .int y0), (1, .int y1)]) F 4 dX2_monthDayOf_48 rfl rfl (by decide) rfl ?_
        refine j_goto (pc := 51) F (tgt := 11) dX2_monthDayOf_51 rfl ?_
        refine j_sub [3, 4, 1, 0] rfl ?_
        exact ih y0 y1 (y3 - o_2) (y4 + 1) hf
      · have hf := of_neg c_3 hf
        refine j_iload (pc := 33) F 4 dX2_monthDayOf_33 rfl ?_
        refine j_bipush (pc := 35) F (v := 100) dX2_monthDayOf_35 rfl ?_
        refine j_imul (pc := 37) F dX2_monthDayOf_37 ?_
        refine j_iload_n (pc := 38) F 3 dX2_monthDayOf_38 rfl rfl ?_
        refine j_iadd (pc := 39) F dX2_monthDayOf_39 ?_
        refine j_iconst (pc := 40) F (v := 1) dX2_monthDayOf_40 rfl ?_
        refine j_iadd (pc := 41) F dX2_monthDayOf_41 ?_
        exact j_iretR (pc := 42) F dX2_monthDayOf_42 (Option.some.inj hf)
set_option maxHeartbeats 4000000 in
set_option maxRecDepth 100000 in
theorem c_X2_monthDayOf {l : Launch} {D : va_G} {cy : Nat → ClassId} {g : Gs} {N : Nat} {x0 : Int32} {x1 : Int32} {x2 : Int32} {out : Int32} (hf : f_X2_monthDayOf N x0 x1 x2 = some out) : CR l D cy g yX2_monthDayOf cX2_monthDayOf 6 (some .int) 1 22 ([]) [.int x0, .int x1, .int x2] (some (.int out)) := by
  unfold f_X2_monthDayOf at hf
  refine met_R (lv := [(0, .int x0), (1, .int x1), (2, .int x2)]) (by decide) (Nat.le_of_ble_eq_true rfl) rfl ?_
  intro p e s m args below meth c F hP hK hS
  refine j_iload_n (pc := 0) F 2 dX2_monthDayOf_0 rfl rfl ?_
  refine j_iload_n (pc := 1) F 0 dX2_monthDayOf_1 rfl rfl ?_
  refine j_iload_n (pc := 2) F 1 dX2_monthDayOf_2 rfl rfl ?_
  refine j_callRS (pc := 3) (st := [.int x2]) (st1 := [.int (f_X2_firstDay x0 x1), .int x2]) F hK (hpR hP hS hp_nil) (c_X2_firstDay (l := l) (D := D) (cy := cy) (g := g) (rfl : f_X2_firstDay x0 x1 = _)) tm_362 cf_X2_firstDay (Nat.le_of_ble_eq_true rfl) (Nat.le_of_ble_eq_true rfl) ⟨Nat.zero_le _, Nat.zero_le _⟩ rfl rfl (Nat.le_of_ble_eq_true rfl) rfl dX2_monthDayOf_3 ?_
  refine j_isub (pc := 6) F dX2_monthDayOf_6 ?_
  refine j_istore_n (pc := 7) (lv' := [(3, .int (x2 - (f_X2_firstDay x0 x1))), (0, .int x0), (1, .int x1), (2, .int x2)]) F dX2_monthDayOf_7 rfl (by decide) rfl ?_
  refine j_iconst (pc := 8) F (v := 1) dX2_monthDayOf_8 rfl ?_
  refine j_istore (pc := 9) (lv' := [(4, .int 1), (3, .int (x2 - (f_X2_firstDay x0 x1))), (0, .int x0), (1, .int x1), (2, .int x2)]) F dX2_monthDayOf_9 (by decide) rfl ?_
  refine j_sub [2, 3, 1, 0] rfl ?_
  exact b_X2_monthDayOf_11 F hP hK hS N x0 x1 (x2 - (f_X2_firstDay x0 x1)) 1 hf
theorem cf_X2_monthDayOf : cfS yX2_monthDayOf cX2_monthDayOf 6 (some .int) 3 := ⟨tm_366, tm_62, tm_367, by decide, by decide, by decide +kernel⟩

def f_X2_monthIn (x0 : Int32) : Int32 := x0 / 100
set_option maxHeartbeats 4000000 in
set_option maxRecDepth 100000 in
theorem c_X2_monthIn {l : Launch} {D : va_G} {cy : Nat → ClassId} {g : Gs} {x0 : Int32} {out : Int32} (hf : f_X2_monthIn x0 = out) : CR l D cy g yX2_monthIn cX2_monthIn 1 (some .int) 0 0 ([]) [.int x0] (some (.int out)) := by
  unfold f_X2_monthIn at hf
  refine met_R (lv := [(0, .int x0)]) (by decide) (Nat.le_of_ble_eq_true rfl) rfl ?_
  intro p e s m args below meth c F hP hK hS
  refine j_iload_n (pc := 0) F 0 dX2_monthIn_0 rfl rfl ?_
  refine j_bipush (pc := 1) F (v := 100) dX2_monthIn_1 rfl ?_
  refine j_idiv (pc := 3) F dX2_monthIn_3 (by decide) ?_
  exact j_iretR (pc := 4) F dX2_monthIn_4 hf
theorem cf_X2_monthIn : cfS yX2_monthIn cX2_monthIn 1 (some .int) 1 := ⟨tm_374, tm_62, tm_375, by decide, by decide, by decide +kernel⟩

def f_X2_dayIn (x0 : Int32) : Int32 := x0 - x0 / 100 * 100
set_option maxHeartbeats 4000000 in
set_option maxRecDepth 100000 in
theorem c_X2_dayIn {l : Launch} {D : va_G} {cy : Nat → ClassId} {g : Gs} {x0 : Int32} {out : Int32} (hf : f_X2_dayIn x0 = out) : CR l D cy g yX2_dayIn cX2_dayIn 1 (some .int) 0 0 ([]) [.int x0] (some (.int out)) := by
  unfold f_X2_dayIn at hf
  refine met_R (lv := [(0, .int x0)]) (by decide) (Nat.le_of_ble_eq_true rfl) rfl ?_
  intro p e s m args below meth c F hP hK hS
  refine j_iload_n (pc := 0) F 0 dX2_dayIn_0 rfl rfl ?_
  refine j_bipush (pc := 1) F (v := 100) dX2_dayIn_1 rfl ?_
  refine j_irem (pc := 3) F dX2_dayIn_3 (by decide) ?_
  exact j_iretR (pc := 4) F dX2_dayIn_4 hf
theorem cf_X2_dayIn : cfS yX2_dayIn cX2_dayIn 1 (some .int) 1 := ⟨tm_377, tm_62, tm_378, by decide, by decide, by decide +kernel⟩

def f_X2_dayOf_27 (N : Nat) : Nat → Int32 → Int32 → Int32 → Int32 → Int32 → Int32 → Option (Int32)
  | 0, _, _, _, _, _, _ => none
  | n + 1, y0, y1, y2, y3, y4, y5 => if y2 ≤ y5 then some ((y4 + y3) - 1) else if 13 ≤ y5 then some ((y4 + y3) - 1) else (f_X2_monthLength y0 y1 y5).bind fun o_3 => f_X2_dayOf_27 N n y0 y1 y2 y3 (y4 + o_3) (y5 + 1)
def f_X2_dayOf (N : Nat) (x0 : Int32) (x1 : Int32) (x2 : Int32) (x3 : Int32) : Option (Int32) := if x3 < 1 then some (-1) else (f_X2_monthLength x0 x1 x2).bind fun o_2 => if x3 ≤ o_2 then f_X2_dayOf_27 N N x0 x1 x2 x3 (f_X2_firstDay x0 x1) 1 else some (-1)
set_option maxHeartbeats 4000000 in
set_option maxRecDepth 100000 in
theorem b_X2_dayOf_27 {l : Launch} {D : va_G} {cy : Nat → ClassId} {g : Gs} {p : Program} {e : Env} {s : State} {m : MethodId} {args : Array Value} {below : List Frame} {meth : Method} {c : Code} {N : Nat} {out : Int32} (F : Fx p s m args meth c cX2_dayOf RX2 6 (some .int)) (hP : va_P D vwCl ([]) s.heap) (hK : va_K D vwCl (tys cy) s) (hS : St g nA s s.heap) :
    ∀ (n : Nat) (y0 : Int32) (y1 : Int32) (y2 : Int32) (y3 : Int32) (y4 : Int32) (y5 : Int32), f_X2_dayOf_27 N n y0 y1 y2 y3 y4 y5 = some out → J p l e { frames := 1, cells := 0, slots := 0, locals := 22 } s m args below meth c 6 (hR s) 0 0 (MQ below (QR (some (.int out))) args s 0 0 nA) 27 [(0, .int y0), (1, .int y1), (2, .int y2), (3, .int y3), (4, .int y4), (5, .int y5)] [] := by
  intro n
  induction n with
  | zero =>
    intro y0 y1 y2 y3 y4 y5 hf
    cases hf
  | succ n ih =>
    intro y0 y1 y2 y3 y4 y5 hf
    rw [f_X2_dayOf_27] at hf
    refine j_iload (pc := 27) F 5 dX2_dayOf_27 rfl ?_
    refine j_iload_n (pc := 29) F 2 dX2_dayOf_29 rfl rfl ?_
    refine j_icmp_ge (pc := 30) (tgt := 58) F dX2_dayOf_30 rfl (fun c_1 => ?_) (fun c_1 => ?_)
    · have hf := of_pos c_1 hf
      refine j_iload (pc := 58) F 4 dX2_dayOf_58 rfl ?_
      refine j_iload_n (pc := 60) F 3 dX2_dayOf_60 rfl rfl ?_
      refine j_iadd (pc := 61) F dX2_dayOf_61 ?_
      refine j_iconst (pc := 62) F (v := 1) dX2_dayOf_62 rfl ?_
      refine j_isub (pc := 63) F dX2_dayOf_63 ?_
      exact j_iretR (pc := 64) F dX2_dayOf_64 (Option.some.inj hf)
    · have hf := of_neg c_1 hf
      refine j_iload (pc := 33) F 5 dX2_dayOf_33 rfl ?_
      refine j_bipush (pc := 35) F (v := 13) dX2_dayOf_35 rfl ?_
      refine j_icmp_ge (pc := 37) (tgt := 58) F dX2_dayOf_37 rfl (fun c_2 => ?_) (fun c_2 => ?_)
      · have hf := of_pos c_2 hf
        refine j_iload (pc := 58) F 4 dX2_dayOf_58 rfl ?_
        refine j_iload_n (pc := 60) F 3 dX2_dayOf_60 rfl rfl ?_
        refine j_iadd (pc := 61) F dX2_dayOf_61 ?_
        refine j_iconst (pc := 62) F (v := 1) dX2_dayOf_62 rfl ?_
        refine j_isub (pc := 63) F dX2_dayOf_63 ?_
        exact j_iretR (pc := 64) F dX2_dayOf_64 (Option.some.inj hf)
      · have hf := of_neg c_2 hf
        refine j_iload (pc := 40) F 4 dX2_dayOf_40 rfl ?_
        refine j_iload_n (pc := 42) F 0 dX2_dayOf_42 rfl rfl ?_
        refine j_iload_n (pc := 43) F 1 dX2_dayOf_43 rfl rfl ?_
        refine j_iload (pc := 44) F 5 dX2_dayOf_44 rfl ?_
        obtain ⟨o_3, ho_3, hf⟩ := of_bnd hf
        refine j_callRS (pc := 46) (st := [.int y4]) (st1 := [.int o_3, .int y4]) F hK (hpR hP hS hp_nil) (c_X2_monthLength (l := l) (D := D) (cy := cy) (g := g) ho_3) tm_368 cf_X2_monthLength (Nat.le_of_ble_eq_true rfl) (Nat.le_of_ble_eq_true rfl) ⟨Nat.zero_le _, Nat.zero_le _⟩ rfl rfl (Nat.le_of_ble_eq_true rfl) rfl dX2_dayOf_46 ?_
        refine j_iadd (pc := 49) F dX2_dayOf_49 ?_
        refine j_istore (pc := 50) (lv' := [(4, .int (y4 + o_3)), (0, .int y0), (1, .int y1), (2, .int y2), (3, .int y3), (5, .int y5)]) F dX2_dayOf_50 (by decide) rfl ?_
        refine j_iinc (pc := 52) (v := y5 + 1) (lv' := [(5, .int (y5 + 1)), (4, .int (y4 + o_3)), (0, .int y0), (1, .int y1), (2, .int y2), (3, .int y3)]) F 5 dX2_dayOf_52 rfl rfl (by decide) rfl ?_
        refine j_goto (pc := 55) F (tgt := 27) dX2_dayOf_55 rfl ?_
        refine j_sub [2, 3, 4, 5, 1, 0] rfl ?_
        exact ih y0 y1 y2 y3 (y4 + o_3) (y5 + 1) hf
set_option maxHeartbeats 4000000 in
set_option maxRecDepth 100000 in
theorem c_X2_dayOf {l : Launch} {D : va_G} {cy : Nat → ClassId} {g : Gs} {N : Nat} {x0 : Int32} {x1 : Int32} {x2 : Int32} {x3 : Int32} {out : Int32} (hf : f_X2_dayOf N x0 x1 x2 x3 = some out) : CR l D cy g yX2_dayOf cX2_dayOf 6 (some .int) 1 22 ([]) [.int x0, .int x1, .int x2, .int x3] (some (.int out)) := by
  unfold f_X2_dayOf at hf
  refine met_R (lv := [(0, .int x0), (1, .int x1), (2, .int x2), (3, .int x3)]) (by decide) (Nat.le_of_ble_eq_true rfl) rfl ?_
  intro p e s m args below meth c F hP hK hS
  refine j_iload_n (pc := 0) F 3 dX2_dayOf_0 rfl rfl ?_
  refine j_iconst (pc := 1) F (v := 1) dX2_dayOf_1 rfl ?_
  refine j_icmp_lt (pc := 2) (tgt := 15) F dX2_dayOf_2 rfl (fun c_1 => ?_) (fun c_1 => ?_)
  · have hf := of_pos c_1 hf
    refine j_iconst (pc := 15) F (v := (-1)) dX2_dayOf_15 rfl ?_
    exact j_iretR (pc := 16) F dX2_dayOf_16 (Option.some.inj hf)
  · have hf := of_neg c_1 hf
    refine j_iload_n (pc := 5) F 3 dX2_dayOf_5 rfl rfl ?_
    refine j_iload_n (pc := 6) F 0 dX2_dayOf_6 rfl rfl ?_
    refine j_iload_n (pc := 7) F 1 dX2_dayOf_7 rfl rfl ?_
    refine j_iload_n (pc := 8) F 2 dX2_dayOf_8 rfl rfl ?_
    obtain ⟨o_2, ho_2, hf⟩ := of_bnd hf
    refine j_callRS (pc := 9) (st := [.int x3]) (st1 := [.int o_2, .int x3]) F hK (hpR hP hS hp_nil) (c_X2_monthLength (l := l) (D := D) (cy := cy) (g := g) ho_2) tm_368 cf_X2_monthLength (Nat.le_of_ble_eq_true rfl) (Nat.le_of_ble_eq_true rfl) ⟨Nat.zero_le _, Nat.zero_le _⟩ rfl rfl (Nat.le_of_ble_eq_true rfl) rfl dX2_dayOf_9 ?_
    refine j_icmp_le (pc := 12) (tgt := 17) F dX2_dayOf_12 rfl (fun c_3 => ?_) (fun c_3 => ?_)
    · have hf := of_pos c_3 hf
      refine j_iload_n (pc := 17) F 0 dX2_dayOf_17 rfl rfl ?_
      refine j_iload_n (pc := 18) F 1 dX2_dayOf_18 rfl rfl ?_
      refine j_callRS (pc := 19) (st := []) (st1 := [.int (f_X2_firstDay x0 x1)]) F hK (hpR hP hS hp_nil) (c_X2_firstDay (l := l) (D := D) (cy := cy) (g := g) (rfl : f_X2_firstDay x0 x1 = _)) tm_362 cf_X2_firstDay (Nat.le_of_ble_eq_true rfl) (Nat.le_of_ble_eq_true rfl) ⟨Nat.zero_le _, Nat.zero_le _⟩ rfl rfl (Nat.le_of_ble_eq_true rfl) rfl dX2_dayOf_19 ?_
      refine j_istore (pc := 22) (lv' := [(4, .int (f_X2_firstDay x0 x1)), (0, .int x0), (1, .int x1), (2, .int x2), (3, .int x3)]) F dX2_dayOf_22 (by decide) rfl ?_
      refine j_iconst (pc := 24) F (v := 1) dX2_dayOf_24 rfl ?_
      refine j_istore (pc := 25) (lv' := [(5, .int 1), (4, .int (f_X2_firstDay x0 x1)), (0, .int x0), (1, .int x1), (2, .int x2), (3, .int x3)]) F dX2_dayOf_25 (by decide) rfl ?_
      refine j_sub [2, 3, 4, 5, 1, 0] rfl ?_
      exact b_X2_dayOf_27 F hP hK hS N x0 x1 x2 x3 (f_X2_firstDay x0 x1) 1 hf
    · have hf := of_neg c_3 hf
      refine j_iconst (pc := 15) F (v := (-1)) dX2_dayOf_15 rfl ?_
      exact j_iretR (pc := 16) F dX2_dayOf_16 (Option.some.inj hf)
theorem cf_X2_dayOf : cfS yX2_dayOf cX2_dayOf 6 (some .int) 4 := ⟨tm_384, tm_62, tm_385, by decide, by decide, by decide +kernel⟩
