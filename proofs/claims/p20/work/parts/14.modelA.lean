def f_X8_isIn (x0 : Int32) (x1 : Int32) (x2 : Int32) : Bool := if x0 < x1 then false else if x2 < x0 then false else true
set_option maxHeartbeats 4000000 in
set_option maxRecDepth 100000 in
theorem c_X8_isIn {l : Launch} {D : va_G} {cy : Nat → ClassId} {g : Gs} {x0 : Int32} {x1 : Int32} {x2 : Int32} {out : Bool} (hf : f_X8_isIn x0 x1 x2 = out) : CR l D cy g yX8_isIn cX8_isIn 3 (some .boolean) 0 0 ([]) [.int x0, .int x1, .int x2] (some (.int (bI out))) := by
  unfold f_X8_isIn at hf
  refine met_R (lv := [(0, .int x0), (1, .int x1), (2, .int x2)]) (by decide) (Nat.le_of_ble_eq_true rfl) rfl ?_
  intro p e s m args below meth c F hP hK hS
  refine j_iload_n (pc := 0) F 0 dX8_isIn_0 rfl rfl ?_
  refine j_iload_n (pc := 1) F 1 dX8_isIn_1 rfl rfl ?_
  refine j_icmp_lt (pc := 2) (tgt := 14) F dX8_isIn_2 rfl (fun c_1 => ?_) (fun c_1 => ?_)
  · have hf := of_pos c_1 hf
    refine j_iconst (pc := 14) F (v := 0) dX8_isIn_14 rfl ?_
    exact j_zretR (pc := 15) F dX8_isIn_15 (congrArg bI hf)
  · have hf := of_neg c_1 hf
    refine j_iload_n (pc := 5) F 0 dX8_isIn_5 rfl rfl ?_
    refine j_iload_n (pc := 6) F 2 dX8_isIn_6 rfl rfl ?_
    refine j_icmp_gt (pc := 7) (tgt := 14) F dX8_isIn_7 rfl (fun c_2 => ?_) (fun c_2 => ?_)
    · have hf := of_pos c_2 hf
      refine j_iconst (pc := 14) F (v := 0) dX8_isIn_14 rfl ?_
      exact j_zretR (pc := 15) F dX8_isIn_15 (congrArg bI hf)
    · have hf := of_neg c_2 hf
      refine j_iconst (pc := 10) F (v := 1) dX8_isIn_10 rfl ?_
      refine j_goto (pc := 11) F (tgt := 15) dX8_isIn_11 rfl ?_
      exact j_zretR (pc := 15) F dX8_isIn_15 (congrArg bI hf)
theorem cf_X8_isIn : cfS yX8_isIn cX8_isIn 3 (some .boolean) 3 := ⟨tm_974, tm_60, tm_975, by decide, by decide, by decide +kernel⟩

def f_X8_floor (x0 : Int64) (x1 : Int64) : Option (Int64) := if x1 = 0 then none else if x1 = 0 then none else if 0 ≤ (lg_cmp (x0 - x0 / x1 * x1) 0) then some (x0 / x1) else some ((x0 / x1) - 1)
set_option maxHeartbeats 4000000 in
set_option maxRecDepth 100000 in
theorem c_X8_floor {l : Launch} {D : va_G} {cy : Nat → ClassId} {g : Gs} {x0 : Int64} {x1 : Int64} {out : Int64} (hf : f_X8_floor x0 x1 = some out) : CR l D cy g yX8_floor cX8_floor 6 (some .long) 0 0 ([]) [.long x0, .long x1] (some (.long out)) := by
  unfold f_X8_floor at hf
  refine met_R (lv := [(0, .long x0), (2, .long x1)]) (by decide) (Nat.le_of_ble_eq_true rfl) rfl ?_
  intro p e s m args below meth c F hP hK hS
  refine j_lload_n (pc := 0) F 0 dX8_floor_0 rfl rfl ?_
  refine j_lload_n (pc := 1) F 1 dX8_floor_1 rfl rfl ?_
  have c_1 : ¬ x1 = 0 := fun z => by rw [if_pos z] at hf; cases hf
  have hf := of_neg c_1 hf
  refine j_ldiv (pc := 2) F dX8_floor_2 c_1 ?_
  refine j_lstore (pc := 3) (lv' := [(4, .long (x0 / x1)), (0, .long x0), (2, .long x1)]) F dX8_floor_3 (by decide) rfl ?_
  refine j_lload_n (pc := 5) F 1 dX8_floor_5 rfl rfl ?_
  refine j_lload_n (pc := 6) F 2 dX8_floor_6 rfl rfl ?_
  have c_2 : ¬ x1 = 0 := fun z => by rw [if_pos z] at hf; cases hf
  have hf := of_neg c_2 hf
  refine j_lrem (pc := 7) F dX8_floor_7 c_2 ?_
  refine j_lconst (pc := 8) F (v := 0) dX8_floor_8 rfl ?_
  refine j_lcmp (pc := 9) F dX8_floor_9 ?_
  refine j_if_ge (pc := 10) (tgt := 20) F dX8_floor_10 rfl (fun c_3 => ?_) (fun c_3 => ?_)
  · have hf := of_pos c_3 hf
    refine j_lload (pc := 20) F 0 dX8_floor_20 rfl ?_
    exact j_lretR (pc := 22) F dX8_floor_22 (Option.some.inj hf)
  · have hf := of_neg c_3 hf
    refine j_lload (pc := 13) F 0 dX8_floor_13 rfl ?_
    refine j_lconst (pc := 15) F (v := 1) dX8_floor_15 rfl ?_
    refine j_lsub (pc := 16) F dX8_floor_16 ?_
    refine j_goto (pc := 17) F (tgt := 22) dX8_floor_17 rfl ?_
    exact j_lretR (pc := 22) F dX8_floor_22 (Option.some.inj hf)
theorem cf_X8_floor : cfS yX8_floor cX8_floor 6 (some .long) 2 := ⟨tm_1017, tm_60, tm_1018, by decide, by decide, by decide +kernel⟩

def f_X8_isMoon (x0 : Int32) : Bool := if x0 < 0 then false else if 12000 < x0 then false else true
set_option maxHeartbeats 4000000 in
set_option maxRecDepth 100000 in
theorem c_X8_isMoon {l : Launch} {D : va_G} {cy : Nat → ClassId} {g : Gs} {x0 : Int32} {out : Bool} (hf : f_X8_isMoon x0 = out) : CR l D cy g yX8_isMoon cX8_isMoon 1 (some .boolean) 0 0 ([]) [.int x0] (some (.int (bI out))) := by
  unfold f_X8_isMoon at hf
  refine met_R (lv := [(0, .int x0)]) (by decide) (Nat.le_of_ble_eq_true rfl) rfl ?_
  intro p e s m args below meth c F hP hK hS
  refine j_iload_n (pc := 0) F 0 dX8_isMoon_0 rfl rfl ?_
  refine j_if_lt (pc := 1) (tgt := 15) F dX8_isMoon_1 rfl (fun c_1 => ?_) (fun c_1 => ?_)
  · have hf := of_pos c_1 hf
    refine j_iconst (pc := 15) F (v := 0) dX8_isMoon_15 rfl ?_
    exact j_zretR (pc := 16) F dX8_isMoon_16 (congrArg bI hf)
  · have hf := of_neg c_1 hf
    refine j_iload_n (pc := 4) F 0 dX8_isMoon_4 rfl rfl ?_
    refine j_sipush (pc := 5) F (v := 12000) dX8_isMoon_5 rfl ?_
    refine j_icmp_gt (pc := 8) (tgt := 15) F dX8_isMoon_8 rfl (fun c_2 => ?_) (fun c_2 => ?_)
    · have hf := of_pos c_2 hf
      refine j_iconst (pc := 15) F (v := 0) dX8_isMoon_15 rfl ?_
      exact j_zretR (pc := 16) F dX8_isMoon_16 (congrArg bI hf)
    · have hf := of_neg c_2 hf
      refine j_iconst (pc := 11) F (v := 1) dX8_isMoon_11 rfl ?_
      refine j_goto (pc := 12) F (tgt := 16) dX8_isMoon_12 rfl ?_
      exact j_zretR (pc := 16) F dX8_isMoon_16 (congrArg bI hf)
theorem cf_X8_isMoon : cfS yX8_isMoon cX8_isMoon 1 (some .boolean) 1 := ⟨tm_981, tm_60, tm_982, by decide, by decide, by decide +kernel⟩

def f_X8_isLong (x0 : Int32) (x1 : Int32) : Bool := if x0 = 1 then if (x1 - x1 / 4 * 4) = 0 then true else false else if x0 = 2 then if 7 ≤ (((7 * x1) + 1) - ((7 * x1) + 1) / 19 * 19) then false else true else false
set_option maxHeartbeats 4000000 in
set_option maxRecDepth 100000 in
theorem c_X8_isLong {l : Launch} {D : va_G} {cy : Nat → ClassId} {g : Gs} {x0 : Int32} {x1 : Int32} {out : Bool} (hf : f_X8_isLong x0 x1 = out) : CR l D cy g yX8_isLong cX8_isLong 2 (some .boolean) 0 0 ([]) [.int x0, .int x1] (some (.int (bI out))) := by
  unfold f_X8_isLong at hf
  refine met_R (lv := [(0, .int x0), (1, .int x1)]) (by decide) (Nat.le_of_ble_eq_true rfl) rfl ?_
  intro p e s m args below meth c F hP hK hS
  refine j_iload_n (pc := 0) F 0 dX8_isLong_0 rfl rfl ?_
  refine j_iconst (pc := 1) F (v := 1) dX8_isLong_1 rfl ?_
  refine j_icmp_ne (pc := 2) (tgt := 19) F dX8_isLong_2 rfl (fun c_1 => ?_) (fun c_1 => ?_)
  · have hf := of_neg c_1 hf
    refine j_iload_n (pc := 19) F 0 dX8_isLong_19 rfl rfl ?_
    refine j_iconst (pc := 20) F (v := 2) dX8_isLong_20 rfl ?_
    refine j_icmp_ne (pc := 21) (tgt := 42) F dX8_isLong_21 rfl (fun c_2 => ?_) (fun c_2 => ?_)
    · have hf := of_neg c_2 hf
      refine j_iconst (pc := 42) F (v := 0) dX8_isLong_42 rfl ?_
      exact j_zretR (pc := 43) F dX8_isLong_43 (congrArg bI hf)
    · have hf := of_pos c_2 hf
      refine j_bipush (pc := 24) F (v := 7) dX8_isLong_24 rfl ?_
      refine j_iload_n (pc := 26) F 1 dX8_isLong_26 rfl rfl ?_
      refine j_imul (pc := 27) F dX8_isLong_27 ?_
      refine j_iconst (pc := 28) F (v := 1) dX8_isLong_28 rfl ?_
      refine j_iadd (pc := 29) F dX8_isLong_29 ?_
      refine j_bipush (pc := 30) F (v := 19) dX8_isLong_30 rfl ?_
      refine j_irem (pc := 32) F dX8_isLong_32 (by decide) ?_
      refine j_bipush (pc := 33) F (v := 7) dX8_isLong_33 rfl ?_
      refine j_icmp_ge (pc := 35) (tgt := 42) F dX8_isLong_35 rfl (fun c_3 => ?_) (fun c_3 => ?_)
      · have hf := of_pos c_3 hf
        refine j_iconst (pc := 42) F (v := 0) dX8_isLong_42 rfl ?_
        exact j_zretR (pc := 43) F dX8_isLong_43 (congrArg bI hf)
      · have hf := of_neg c_3 hf
        refine j_iconst (pc := 38) F (v := 1) dX8_isLong_38 rfl ?_
        refine j_goto (pc := 39) F (tgt := 43) dX8_isLong_39 rfl ?_
        exact j_zretR (pc := 43) F dX8_isLong_43 (congrArg bI hf)
  · have hf := of_pos c_1 hf
    refine j_iload_n (pc := 5) F 1 dX8_isLong_5 rfl rfl ?_
    refine j_iconst (pc := 6) F (v := 4) dX8_isLong_6 rfl ?_
    refine j_irem (pc := 7) F dX8_isLong_7 (by decide) ?_
    refine j_if_ne (pc := 8) (tgt := 15) F dX8_isLong_8 rfl (fun c_4 => ?_) (fun c_4 => ?_)
    · have hf := of_neg c_4 hf
      refine j_iconst (pc := 15) F (v := 0) dX8_isLong_15 rfl ?_
      refine j_goto (pc := 16) F (tgt := 43) dX8_isLong_16 rfl ?_
      exact j_zretR (pc := 43) F dX8_isLong_43 (congrArg bI hf)
    · have hf := of_pos c_4 hf
      refine j_iconst (pc := 11) F (v := 1) dX8_isLong_11 rfl ?_
      refine j_goto (pc := 12) F (tgt := 43) dX8_isLong_12 rfl ?_
      exact j_zretR (pc := 43) F dX8_isLong_43 (congrArg bI hf)
theorem cf_X8_isLong : cfS yX8_isLong cX8_isLong 2 (some .boolean) 2 := ⟨tm_1053, tm_60, tm_1054, by decide, by decide, by decide +kernel⟩

def f_X8_yearDays (x0 : Int32) (x1 : Int32) : Int32 := if x0 = 0 then 365 else if x0 = 1 then if (bI (f_X8_isLong x0 x1)) = 0 then 365 else 366 else if (bI (f_X8_isLong x0 x1)) = 0 then 354 else 384
set_option maxHeartbeats 4000000 in
set_option maxRecDepth 100000 in
theorem c_X8_yearDays {l : Launch} {D : va_G} {cy : Nat → ClassId} {g : Gs} {x0 : Int32} {x1 : Int32} {out : Int32} (hf : f_X8_yearDays x0 x1 = out) : CR l D cy g yX8_yearDays cX8_yearDays 2 (some .int) 1 21 ([]) [.int x0, .int x1] (some (.int out)) := by
  unfold f_X8_yearDays at hf
  refine met_R (lv := [(0, .int x0), (1, .int x1)]) (by decide) (Nat.le_of_ble_eq_true rfl) rfl ?_
  intro p e s m args below meth c F hP hK hS
  refine j_iload_n (pc := 0) F 0 dX8_yearDays_0 rfl rfl ?_
  refine j_if_ne (pc := 1) (tgt := 8) F dX8_yearDays_1 rfl (fun c_1 => ?_) (fun c_1 => ?_)
  · have hf := of_neg c_1 hf
    refine j_iload_n (pc := 8) F 0 dX8_yearDays_8 rfl rfl ?_
    refine j_iconst (pc := 9) F (v := 1) dX8_yearDays_9 rfl ?_
    refine j_icmp_ne (pc := 10) (tgt := 31) F dX8_yearDays_10 rfl (fun c_2 => ?_) (fun c_2 => ?_)
    · have hf := of_neg c_2 hf
      refine j_iload_n (pc := 31) F 0 dX8_yearDays_31 rfl rfl ?_
      refine j_iload_n (pc := 32) F 1 dX8_yearDays_32 rfl rfl ?_
      refine j_callRS (pc := 33) (st := []) (st1 := [.int (bI (f_X8_isLong x0 x1))]) F hK (hpR hP hS hp_nil) (c_X8_isLong (l := l) (D := D) (cy := cy) (g := g) (rfl : f_X8_isLong x0 x1 = _)) tm_1052 cf_X8_isLong (Nat.le_of_ble_eq_true rfl) (Nat.le_of_ble_eq_true rfl) ⟨Nat.zero_le _, Nat.zero_le _⟩ rfl rfl (Nat.le_of_ble_eq_true rfl) rfl dX8_yearDays_33 ?_
      refine j_if_eq (pc := 36) (tgt := 45) F dX8_yearDays_36 rfl (fun c_4 => ?_) (fun c_4 => ?_)
      · have hf := of_pos c_4 hf
        refine j_sipush (pc := 45) F (v := 354) dX8_yearDays_45 rfl ?_
        exact j_iretR (pc := 48) F dX8_yearDays_48 hf
      · have hf := of_neg c_4 hf
        refine j_sipush (pc := 39) F (v := 384) dX8_yearDays_39 rfl ?_
        refine j_goto (pc := 42) F (tgt := 48) dX8_yearDays_42 rfl ?_
        exact j_iretR (pc := 48) F dX8_yearDays_48 hf
    · have hf := of_pos c_2 hf
      refine j_iload_n (pc := 13) F 0 dX8_yearDays_13 rfl rfl ?_
      refine j_iload_n (pc := 14) F 1 dX8_yearDays_14 rfl rfl ?_
      refine j_callRS (pc := 15) (st := []) (st1 := [.int (bI (f_X8_isLong x0 x1))]) F hK (hpR hP hS hp_nil) (c_X8_isLong (l := l) (D := D) (cy := cy) (g := g) (rfl : f_X8_isLong x0 x1 = _)) tm_1052 cf_X8_isLong (Nat.le_of_ble_eq_true rfl) (Nat.le_of_ble_eq_true rfl) ⟨Nat.zero_le _, Nat.zero_le _⟩ rfl rfl (Nat.le_of_ble_eq_true rfl) rfl dX8_yearDays_15 ?_
      refine j_if_eq (pc := 18) (tgt := 27) F dX8_yearDays_18 rfl (fun c_6 => ?_) (fun c_6 => ?_)
      · have hf := of_pos c_6 hf
        refine j_sipush (pc := 27) F (v := 365) dX8_yearDays_27 rfl ?_
        exact j_iretR (pc := 30) F dX8_yearDays_30 hf
      · have hf := of_neg c_6 hf
        refine j_sipush (pc := 21) F (v := 366) dX8_yearDays_21 rfl ?_
        refine j_goto (pc := 24) F (tgt := 30) dX8_yearDays_24 rfl ?_
        exact j_iretR (pc := 30) F dX8_yearDays_30 hf
  · have hf := of_pos c_1 hf
    refine j_sipush (pc := 4) F (v := 365) dX8_yearDays_4 rfl ?_
    exact j_iretR (pc := 7) F dX8_yearDays_7 hf
theorem cf_X8_yearDays : cfS yX8_yearDays cX8_yearDays 2 (some .int) 2 := ⟨tm_1050, tm_60, tm_1051, by decide, by decide, by decide +kernel⟩

def f_X8_seenAt (x0 : Int32) (x1 : Int32) (x2 : Int32) : Int32 := (x0 + x1) + (((x2 * (x0 / 525600)) * (x0 / 525600)) / 10000)
set_option maxHeartbeats 4000000 in
set_option maxRecDepth 100000 in
theorem c_X8_seenAt {l : Launch} {D : va_G} {cy : Nat → ClassId} {g : Gs} {x0 : Int32} {x1 : Int32} {x2 : Int32} {out : Int32} (hf : f_X8_seenAt x0 x1 x2 = out) : CR l D cy g yX8_seenAt cX8_seenAt 4 (some .int) 0 0 ([]) [.int x0, .int x1, .int x2] (some (.int out)) := by
  unfold f_X8_seenAt at hf
  refine met_R (lv := [(0, .int x0), (1, .int x1), (2, .int x2)]) (by decide) (Nat.le_of_ble_eq_true rfl) rfl ?_
  intro p e s m args below meth c F hP hK hS
  refine j_iload_n (pc := 0) F 0 dX8_seenAt_0 rfl rfl ?_
  refine j_ldc (pc := 1) F tm_1070 dX8_seenAt_1 ?_
  refine j_idiv (pc := 3) F dX8_seenAt_3 (by decide) ?_
  refine j_istore_n (pc := 4) (lv' := [(3, .int (x0 / 525600)), (0, .int x0), (1, .int x1), (2, .int x2)]) F dX8_seenAt_4 rfl (by decide) rfl ?_
  refine j_iload_n (pc := 5) F 1 dX8_seenAt_5 rfl rfl ?_
  refine j_iload_n (pc := 6) F 2 dX8_seenAt_6 rfl rfl ?_
  refine j_iadd (pc := 7) F dX8_seenAt_7 ?_
  refine j_iload_n (pc := 8) F 3 dX8_seenAt_8 rfl rfl ?_
  refine j_iload_n (pc := 9) F 0 dX8_seenAt_9 rfl rfl ?_
  refine j_imul (pc := 10) F dX8_seenAt_10 ?_
  refine j_iload_n (pc := 11) F 0 dX8_seenAt_11 rfl rfl ?_
  refine j_imul (pc := 12) F dX8_seenAt_12 ?_
  refine j_sipush (pc := 13) F (v := 10000) dX8_seenAt_13 rfl ?_
  refine j_idiv (pc := 16) F dX8_seenAt_16 (by decide) ?_
  refine j_iadd (pc := 17) F dX8_seenAt_17 ?_
  exact j_iretR (pc := 18) F dX8_seenAt_18 hf
theorem cf_X8_seenAt : cfS yX8_seenAt cX8_seenAt 4 (some .int) 3 := ⟨tm_1068, tm_60, tm_1069, by decide, by decide, by decide +kernel⟩

def f_X8_isLetter (x0 : Int32) : Bool := if x0 < 97 then false else if 122 < x0 then false else true
set_option maxHeartbeats 4000000 in
set_option maxRecDepth 100000 in
theorem c_X8_isLetter {l : Launch} {D : va_G} {cy : Nat → ClassId} {g : Gs} {x0 : Int32} {out : Bool} (hf : f_X8_isLetter x0 = out) : CR l D cy g yX8_isLetter cX8_isLetter 1 (some .boolean) 0 0 ([]) [.int x0] (some (.int (bI out))) := by
  unfold f_X8_isLetter at hf
  refine met_R (lv := [(0, .int x0)]) (by decide) (Nat.le_of_ble_eq_true rfl) rfl ?_
  intro p e s m args below meth c F hP hK hS
  refine j_iload_n (pc := 0) F 0 dX8_isLetter_0 rfl rfl ?_
  refine j_bipush (pc := 1) F (v := 97) dX8_isLetter_1 rfl ?_
  refine j_icmp_lt (pc := 3) (tgt := 16) F dX8_isLetter_3 rfl (fun c_1 => ?_) (fun c_1 => ?_)
  · have hf := of_pos c_1 hf
    refine j_iconst (pc := 16) F (v := 0) dX8_isLetter_16 rfl ?_
    exact j_zretR (pc := 17) F dX8_isLetter_17 (congrArg bI hf)
  · have hf := of_neg c_1 hf
    refine j_iload_n (pc := 6) F 0 dX8_isLetter_6 rfl rfl ?_
    refine j_bipush (pc := 7) F (v := 122) dX8_isLetter_7 rfl ?_
    refine j_icmp_gt (pc := 9) (tgt := 16) F dX8_isLetter_9 rfl (fun c_2 => ?_) (fun c_2 => ?_)
    · have hf := of_pos c_2 hf
      refine j_iconst (pc := 16) F (v := 0) dX8_isLetter_16 rfl ?_
      exact j_zretR (pc := 17) F dX8_isLetter_17 (congrArg bI hf)
    · have hf := of_neg c_2 hf
      refine j_iconst (pc := 12) F (v := 1) dX8_isLetter_12 rfl ?_
      refine j_goto (pc := 13) F (tgt := 17) dX8_isLetter_13 rfl ?_
      exact j_zretR (pc := 17) F dX8_isLetter_17 (congrArg bI hf)
theorem cf_X8_isLetter : cfS yX8_isLetter cX8_isLetter 1 (some .boolean) 1 := ⟨tm_1085, tm_60, tm_1086, by decide, by decide, by decide +kernel⟩

def f_X8_isDigit (x0 : Int32) : Bool := if x0 < 48 then false else if 57 < x0 then false else true
set_option maxHeartbeats 4000000 in
set_option maxRecDepth 100000 in
theorem c_X8_isDigit {l : Launch} {D : va_G} {cy : Nat → ClassId} {g : Gs} {x0 : Int32} {out : Bool} (hf : f_X8_isDigit x0 = out) : CR l D cy g yX8_isDigit cX8_isDigit 1 (some .boolean) 0 0 ([]) [.int x0] (some (.int (bI out))) := by
  unfold f_X8_isDigit at hf
  refine met_R (lv := [(0, .int x0)]) (by decide) (Nat.le_of_ble_eq_true rfl) rfl ?_
  intro p e s m args below meth c F hP hK hS
  refine j_iload_n (pc := 0) F 0 dX8_isDigit_0 rfl rfl ?_
  refine j_bipush (pc := 1) F (v := 48) dX8_isDigit_1 rfl ?_
  refine j_icmp_lt (pc := 3) (tgt := 16) F dX8_isDigit_3 rfl (fun c_1 => ?_) (fun c_1 => ?_)
  · have hf := of_pos c_1 hf
    refine j_iconst (pc := 16) F (v := 0) dX8_isDigit_16 rfl ?_
    exact j_zretR (pc := 17) F dX8_isDigit_17 (congrArg bI hf)
  · have hf := of_neg c_1 hf
    refine j_iload_n (pc := 6) F 0 dX8_isDigit_6 rfl rfl ?_
    refine j_bipush (pc := 7) F (v := 57) dX8_isDigit_7 rfl ?_
    refine j_icmp_gt (pc := 9) (tgt := 16) F dX8_isDigit_9 rfl (fun c_2 => ?_) (fun c_2 => ?_)
    · have hf := of_pos c_2 hf
      refine j_iconst (pc := 16) F (v := 0) dX8_isDigit_16 rfl ?_
      exact j_zretR (pc := 17) F dX8_isDigit_17 (congrArg bI hf)
    · have hf := of_neg c_2 hf
      refine j_iconst (pc := 12) F (v := 1) dX8_isDigit_12 rfl ?_
      refine j_goto (pc := 13) F (tgt := 17) dX8_isDigit_13 rfl ?_
      exact j_zretR (pc := 17) F dX8_isDigit_17 (congrArg bI hf)
theorem cf_X8_isDigit : cfS yX8_isDigit cX8_isDigit 1 (some .boolean) 1 := ⟨tm_1134, tm_60, tm_1135, by decide, by decide, by decide +kernel⟩

def f_X8_tables (σM : St2 × (Nat → Int64)) (x1 : Int32) (x2 : Int32) (x3 : Int32) : Bool × (St2 × (Nat → Int64)) := if (bI (f_X8_isIn x1 0 35999)) = 0 then (false, σM) else if (bI (f_X8_isIn x2 0 35999)) = 0 then (false, σM) else if (bI (f_X8_isIn x3 0 35999)) = 0 then (false, σM) else (true, (up2 (up2 (up2 (up2 σM.1 0 0 x1) 0 1 x2) 0 2 x3) 0 3 0, σM.2))
set_option maxHeartbeats 4000000 in
set_option maxRecDepth 100000 in
theorem c_X8_tables {l : Launch} {D : va_G} {cy : Nat → ClassId} {g : Gs} {aM : Nat → Nat} {σM : St2 × (Nat → Int64)} {x1 : Int32} {x2 : Int32} {x3 : Int32} {out : Bool × (St2 × (Nat → Int64))} (hf : f_X8_tables σM x1 x2 x3 = out) : CW l D cy g yX8_tables cX8_tables 4 (some .boolean) 1 22 (wM aM cy σM) [.ref (aM 0), .int x1, .int x2, .int x3] (some (.int (bI out.1))) (wM aM cy out.2) := by
  unfold f_X8_tables at hf
  refine met_W (lv := [(0, .ref (aM 0)), (1, .int x1), (2, .int x2), (3, .int x3)]) (by decide) (Nat.le_of_ble_eq_true rfl) rfl ?_
  intro p e s m args below meth c A F hK hS hA
  refine j_iload_n (pc := 0) F 1 dX8_tables_0 rfl rfl ?_
  refine j_iconst (pc := 1) F (v := 0) dX8_tables_1 rfl ?_
  refine j_ldc (pc := 2) F tm_972 dX8_tables_2 ?_
  refine j_callRS (pc := 4) (st := []) (st1 := [.int (bI (f_X8_isIn x1 0 35999))]) F hK (hpW hS hp_nil) (c_X8_isIn (l := l) (D := D) (cy := cy) (g := g) (rfl : f_X8_isIn x1 0 35999 = _)) tm_973 cf_X8_isIn (Nat.le_of_ble_eq_true rfl) (Nat.le_of_ble_eq_true rfl) ⟨Nat.zero_le _, Nat.zero_le _⟩ rfl rfl (Nat.le_of_ble_eq_true rfl) rfl dX8_tables_4 ?_
  refine j_if_eq (pc := 7) (tgt := 30) F dX8_tables_7 rfl (fun c_2 => ?_) (fun c_2 => ?_)
  · have hf := of_pos c_2 hf
    refine j_iconst (pc := 30) F (v := 0) dX8_tables_30 rfl ?_
    have hf := hf
    subst hf
    exact j_zretW (pc := 31) F dX8_tables_31 rfl rfl
  · have hf := of_neg c_2 hf
    refine j_iload_n (pc := 10) F 2 dX8_tables_10 rfl rfl ?_
    refine j_iconst (pc := 11) F (v := 0) dX8_tables_11 rfl ?_
    refine j_ldc (pc := 12) F tm_972 dX8_tables_12 ?_
    refine j_callRS (pc := 14) (st := []) (st1 := [.int (bI (f_X8_isIn x2 0 35999))]) F hK (hpW hS hp_nil) (c_X8_isIn (l := l) (D := D) (cy := cy) (g := g) (rfl : f_X8_isIn x2 0 35999 = _)) tm_973 cf_X8_isIn (Nat.le_of_ble_eq_true rfl) (Nat.le_of_ble_eq_true rfl) ⟨Nat.zero_le _, Nat.zero_le _⟩ rfl rfl (Nat.le_of_ble_eq_true rfl) rfl dX8_tables_14 ?_
    refine j_if_eq (pc := 17) (tgt := 30) F dX8_tables_17 rfl (fun c_4 => ?_) (fun c_4 => ?_)
    · have hf := of_pos c_4 hf
      refine j_iconst (pc := 30) F (v := 0) dX8_tables_30 rfl ?_
      have hf := hf
      subst hf
      exact j_zretW (pc := 31) F dX8_tables_31 rfl rfl
    · have hf := of_neg c_4 hf
      refine j_iload_n (pc := 20) F 3 dX8_tables_20 rfl rfl ?_
      refine j_iconst (pc := 21) F (v := 0) dX8_tables_21 rfl ?_
      refine j_ldc (pc := 22) F tm_972 dX8_tables_22 ?_
      refine j_callRS (pc := 24) (st := []) (st1 := [.int (bI (f_X8_isIn x3 0 35999))]) F hK (hpW hS hp_nil) (c_X8_isIn (l := l) (D := D) (cy := cy) (g := g) (rfl : f_X8_isIn x3 0 35999 = _)) tm_973 cf_X8_isIn (Nat.le_of_ble_eq_true rfl) (Nat.le_of_ble_eq_true rfl) ⟨Nat.zero_le _, Nat.zero_le _⟩ rfl rfl (Nat.le_of_ble_eq_true rfl) rfl dX8_tables_24 ?_
      refine j_if_ne (pc := 27) (tgt := 32) F dX8_tables_27 rfl (fun c_6 => ?_) (fun c_6 => ?_)
      · have hf := of_neg c_6 hf
        refine j_aload_n (pc := 32) F 0 dX8_tables_32 rfl rfl ?_
        refine j_iload_n (pc := 33) F 1 dX8_tables_33 rfl rfl ?_
        refine jw_put (pc := 34) (w' := wM aM cy (up2 σM.1 0 0 x1, σM.2)) F hK ix_8 tyX8 tyX8_ok nmX8 0 rfl rfl 0 (by decide) tm_815 rfl rfl rfl rfl rfl (Nat.le_of_ble_eq_true rfl) (wM_put_0 _ _ _ _) dX8_tables_34 ?_
        refine j_aload_n (pc := 37) F 0 dX8_tables_37 rfl rfl ?_
        refine j_iload_n (pc := 38) F 2 dX8_tables_38 rfl rfl ?_
        refine jw_put (pc := 39) (w' := wM aM cy (up2 (up2 σM.1 0 0 x1) 0 1 x2, σM.2)) F hK ix_8 tyX8 tyX8_ok nmX8 0 rfl rfl 1 (by decide) tm_816 rfl rfl rfl rfl rfl (Nat.le_of_ble_eq_true rfl) (wM_put_1 _ _ _ _) dX8_tables_39 ?_
        refine j_aload_n (pc := 42) F 0 dX8_tables_42 rfl rfl ?_
        refine j_iload_n (pc := 43) F 3 dX8_tables_43 rfl rfl ?_
        refine jw_put (pc := 44) (w' := wM aM cy (up2 (up2 (up2 σM.1 0 0 x1) 0 1 x2) 0 2 x3, σM.2)) F hK ix_8 tyX8 tyX8_ok nmX8 0 rfl rfl 2 (by decide) tm_817 rfl rfl rfl rfl rfl (Nat.le_of_ble_eq_true rfl) (wM_put_2 _ _ _ _) dX8_tables_44 ?_
        refine j_aload_n (pc := 47) F 0 dX8_tables_47 rfl rfl ?_
        refine j_iconst (pc := 48) F (v := 0) dX8_tables_48 rfl ?_
        refine jw_put (pc := 49) (w' := wM aM cy (up2 (up2 (up2 (up2 σM.1 0 0 x1) 0 1 x2) 0 2 x3) 0 3 0, σM.2)) F hK ix_8 tyX8 tyX8_ok nmX8 0 rfl rfl 3 (by decide) tm_818 rfl rfl rfl rfl rfl (Nat.le_of_ble_eq_true rfl) (wM_put_3 _ _ _ _) dX8_tables_49 ?_
        refine j_iconst (pc := 52) F (v := 1) dX8_tables_52 rfl ?_
        have hf := hf
        subst hf
        exact j_zretW (pc := 53) F dX8_tables_53 rfl rfl
      · have hf := of_pos c_6 hf
        refine j_iconst (pc := 30) F (v := 0) dX8_tables_30 rfl ?_
        have hf := hf
        subst hf
        exact j_zretW (pc := 31) F dX8_tables_31 rfl rfl
theorem cf_X8_tables : cfV yX8_tables cX8_tables 4 (some .boolean) 3 := ⟨tm_969, tm_970, tm_60, tm_971, by decide, by decide, by decide +kernel⟩

def f_X8_moonAt (σM : St2 × (Nat → Int64)) (x1 : Int32) : Int32 := (((19291 * x1.toInt64) + ((σM.1 0 0).toInt64)) - ((19291 * x1.toInt64) + ((σM.1 0 0).toInt64)) / 36000 * 36000).toInt32
set_option maxHeartbeats 4000000 in
set_option maxRecDepth 100000 in
theorem c_X8_moonAt {l : Launch} {D : va_G} {cy : Nat → ClassId} {g : Gs} {aM : Nat → Nat} {σM : St2 × (Nat → Int64)} {x1 : Int32} {out : Int32} (hf : f_X8_moonAt σM x1 = out) : CR l D cy g yX8_moonAt cX8_moonAt 2 (some .int) 0 0 (wM aM cy σM) [.ref (aM 0), .int x1] (some (.int out)) := by
  unfold f_X8_moonAt at hf
  refine met_R (lv := [(0, .ref (aM 0)), (1, .int x1)]) (by decide) (Nat.le_of_ble_eq_true rfl) rfl ?_
  intro p e s m args below meth c F hP hK hS
  refine j_ldc2 (pc := 0) F tm_987 dX8_moonAt_0 ?_
  refine j_iload_n (pc := 3) F 1 dX8_moonAt_3 rfl rfl ?_
  refine j_i2l (pc := 4) F dX8_moonAt_4 ?_
  refine j_lmul (pc := 5) F dX8_moonAt_5 ?_
  refine j_aload_n (pc := 6) F 0 dX8_moonAt_6 rfl rfl ?_
  refine jr_get (pc := 7) (v := .int (σM.1 0 0)) F hK hP ix_8 0 rfl rfl 0 (by decide) tm_815 rfl rfl dX8_moonAt_7 ?_
  refine j_i2l (pc := 10) F dX8_moonAt_10 ?_
  refine j_ladd (pc := 11) F dX8_moonAt_11 ?_
  refine j_ldc2 (pc := 12) F tm_988 dX8_moonAt_12 ?_
  refine j_lrem (pc := 15) F dX8_moonAt_15 (by decide) ?_
  refine j_l2i (pc := 16) F dX8_moonAt_16 ?_
  exact j_iretR (pc := 17) F dX8_moonAt_17 hf
theorem cf_X8_moonAt : cfV yX8_moonAt cX8_moonAt 2 (some .int) 1 := ⟨tm_985, tm_27, tm_60, tm_986, by decide, by decide, by decide +kernel⟩

def f_X8_sunAt (σM : St2 × (Nat → Int64)) (x1 : Int32) : Int32 := (((1455 * x1.toInt64) + ((σM.1 0 1).toInt64)) - ((1455 * x1.toInt64) + ((σM.1 0 1).toInt64)) / 36000 * 36000).toInt32
set_option maxHeartbeats 4000000 in
set_option maxRecDepth 100000 in
theorem c_X8_sunAt {l : Launch} {D : va_G} {cy : Nat → ClassId} {g : Gs} {aM : Nat → Nat} {σM : St2 × (Nat → Int64)} {x1 : Int32} {out : Int32} (hf : f_X8_sunAt σM x1 = out) : CR l D cy g yX8_sunAt cX8_sunAt 2 (some .int) 0 0 (wM aM cy σM) [.ref (aM 0), .int x1] (some (.int out)) := by
  unfold f_X8_sunAt at hf
  refine met_R (lv := [(0, .ref (aM 0)), (1, .int x1)]) (by decide) (Nat.le_of_ble_eq_true rfl) rfl ?_
  intro p e s m args below meth c F hP hK hS
  refine j_ldc2 (pc := 0) F tm_993 dX8_sunAt_0 ?_
  refine j_iload_n (pc := 3) F 1 dX8_sunAt_3 rfl rfl ?_
  refine j_i2l (pc := 4) F dX8_sunAt_4 ?_
  refine j_lmul (pc := 5) F dX8_sunAt_5 ?_
  refine j_aload_n (pc := 6) F 0 dX8_sunAt_6 rfl rfl ?_
  refine jr_get (pc := 7) (v := .int (σM.1 0 1)) F hK hP ix_8 0 rfl rfl 1 (by decide) tm_816 rfl rfl dX8_sunAt_7 ?_
  refine j_i2l (pc := 10) F dX8_sunAt_10 ?_
  refine j_ladd (pc := 11) F dX8_sunAt_11 ?_
  refine j_ldc2 (pc := 12) F tm_988 dX8_sunAt_12 ?_
  refine j_lrem (pc := 15) F dX8_sunAt_15 (by decide) ?_
  refine j_l2i (pc := 16) F dX8_sunAt_16 ?_
  exact j_iretR (pc := 17) F dX8_sunAt_17 hf
theorem cf_X8_sunAt : cfV yX8_sunAt cX8_sunAt 2 (some .int) 1 := ⟨tm_991, tm_28, tm_60, tm_992, by decide, by decide, by decide +kernel⟩

def f_X8_nodeAt (σM : St2 × (Nat → Int64)) (x1 : Int32) : Int32 := ((((1953353 * x1.toInt64) / 100) + ((σM.1 0 2).toInt64)) - (((1953353 * x1.toInt64) / 100) + ((σM.1 0 2).toInt64)) / 36000 * 36000).toInt32
set_option maxHeartbeats 4000000 in
set_option maxRecDepth 100000 in
theorem c_X8_nodeAt {l : Launch} {D : va_G} {cy : Nat → ClassId} {g : Gs} {aM : Nat → Nat} {σM : St2 × (Nat → Int64)} {x1 : Int32} {out : Int32} (hf : f_X8_nodeAt σM x1 = out) : CR l D cy g yX8_nodeAt cX8_nodeAt 2 (some .int) 0 0 (wM aM cy σM) [.ref (aM 0), .int x1] (some (.int out)) := by
  unfold f_X8_nodeAt at hf
  refine met_R (lv := [(0, .ref (aM 0)), (1, .int x1)]) (by decide) (Nat.le_of_ble_eq_true rfl) rfl ?_
  intro p e s m args below meth c F hP hK hS
  refine j_ldc2 (pc := 0) F tm_998 dX8_nodeAt_0 ?_
  refine j_iload_n (pc := 3) F 1 dX8_nodeAt_3 rfl rfl ?_
  refine j_i2l (pc := 4) F dX8_nodeAt_4 ?_
  refine j_lmul (pc := 5) F dX8_nodeAt_5 ?_
  refine j_ldc2 (pc := 6) F tm_999 dX8_nodeAt_6 ?_
  refine j_ldiv (pc := 9) F dX8_nodeAt_9 (by decide) ?_
  refine j_aload_n (pc := 10) F 0 dX8_nodeAt_10 rfl rfl ?_
  refine jr_get (pc := 11) (v := .int (σM.1 0 2)) F hK hP ix_8 0 rfl rfl 2 (by decide) tm_817 rfl rfl dX8_nodeAt_11 ?_
  refine j_i2l (pc := 14) F dX8_nodeAt_14 ?_
  refine j_ladd (pc := 15) F dX8_nodeAt_15 ?_
  refine j_ldc2 (pc := 16) F tm_988 dX8_nodeAt_16 ?_
  refine j_lrem (pc := 19) F dX8_nodeAt_19 (by decide) ?_
  refine j_l2i (pc := 20) F dX8_nodeAt_20 ?_
  exact j_iretR (pc := 21) F dX8_nodeAt_21 hf
theorem cf_X8_nodeAt : cfV yX8_nodeAt cX8_nodeAt 2 (some .int) 1 := ⟨tm_996, tm_29, tm_60, tm_997, by decide, by decide, by decide +kernel⟩

def f_X8_quarter (σM : St2 × (Nat → Int64)) (x1 : Int32) : Option (Int32) := if (x1 / 1000) = 9 then if (9 : Int32) < 0 ∨ 10 ≤ Int32.toNatClampNeg (9 : Int32) then none else some (σM.1 9 (Int32.toNatClampNeg 9)) else if (x1 / 1000) < 0 ∨ 10 ≤ Int32.toNatClampNeg (x1 / 1000) then none else if ((x1 / 1000) + 1) < 0 ∨ 10 ≤ Int32.toNatClampNeg ((x1 / 1000) + 1) then none else if (x1 / 1000) < 0 ∨ 10 ≤ Int32.toNatClampNeg (x1 / 1000) then none else some ((σM.1 9 (Int32.toNatClampNeg (x1 / 1000))) + ((((σM.1 9 (Int32.toNatClampNeg ((x1 / 1000) + 1))) - (σM.1 9 (Int32.toNatClampNeg (x1 / 1000)))) * (x1 - x1 / 1000 * 1000)) / 1000))
set_option maxHeartbeats 4000000 in
set_option maxRecDepth 100000 in
theorem c_X8_quarter {l : Launch} {D : va_G} {cy : Nat → ClassId} {g : Gs} {aM : Nat → Nat} {σM : St2 × (Nat → Int64)} {x1 : Int32} {out : Int32} (hf : f_X8_quarter σM x1 = some out) : CR l D cy g yX8_quarter cX8_quarter 3 (some .int) 0 0 (wM aM cy σM) [.ref (aM 0), .int x1] (some (.int out)) := by
  unfold f_X8_quarter at hf
  refine met_R (lv := [(0, .ref (aM 0)), (1, .int x1)]) (by decide) (Nat.le_of_ble_eq_true rfl) rfl ?_
  intro p e s m args below meth c F hP hK hS
  refine j_iload_n (pc := 0) F 1 dX8_quarter_0 rfl rfl ?_
  refine j_sipush (pc := 1) F (v := 1000) dX8_quarter_1 rfl ?_
  refine j_idiv (pc := 4) F dX8_quarter_4 (by decide) ?_
  refine j_istore_n (pc := 5) (lv' := [(2, .int (x1 / 1000)), (0, .ref (aM 0)), (1, .int x1)]) F dX8_quarter_5 rfl (by decide) rfl ?_
  refine j_iload_n (pc := 6) F 0 dX8_quarter_6 rfl rfl ?_
  refine j_bipush (pc := 7) F (v := 9) dX8_quarter_7 rfl ?_
  refine j_icmp_ne (pc := 9) (tgt := 22) F dX8_quarter_9 rfl (fun c_1 => ?_) (fun c_1 => ?_)
  · have hf := of_neg c_1 hf
    refine j_aload_n (pc := 22) F 1 dX8_quarter_22 rfl rfl ?_
    refine jr_get (pc := 23) (v := .ref (aM 9)) F hK hP ix_8 0 rfl rfl 8 (by decide) tm_823 rfl rfl dX8_quarter_23 ?_
    refine j_iload_n (pc := 26) F 0 dX8_quarter_26 rfl rfl ?_
    have c_2 : ¬ ((x1 / 1000) < 0 ∨ 10 ≤ Int32.toNatClampNeg (x1 / 1000)) := fun z => by rw [if_pos z] at hf; cases hf
    have hf := of_neg c_2 hf
    refine jr_iald (pc := 27) F hK hP 4 rfl c_2 dX8_quarter_27 ?_
    refine j_aload_n (pc := 28) F 1 dX8_quarter_28 rfl rfl ?_
    refine jr_get (pc := 29) (v := .ref (aM 9)) F hK hP ix_8 0 rfl rfl 8 (by decide) tm_823 rfl rfl dX8_quarter_29 ?_
    refine j_iload_n (pc := 32) F 0 dX8_quarter_32 rfl rfl ?_
    refine j_iconst (pc := 33) F (v := 1) dX8_quarter_33 rfl ?_
    refine j_iadd (pc := 34) F dX8_quarter_34 ?_
    have c_3 : ¬ (((x1 / 1000) + 1) < 0 ∨ 10 ≤ Int32.toNatClampNeg ((x1 / 1000) + 1)) := fun z => by rw [if_pos z] at hf; cases hf
    have hf := of_neg c_3 hf
    refine jr_iald (pc := 35) F hK hP 4 rfl c_3 dX8_quarter_35 ?_
    refine j_aload_n (pc := 36) F 1 dX8_quarter_36 rfl rfl ?_
    refine jr_get (pc := 37) (v := .ref (aM 9)) F hK hP ix_8 0 rfl rfl 8 (by decide) tm_823 rfl rfl dX8_quarter_37 ?_
    refine j_iload_n (pc := 40) F 0 dX8_quarter_40 rfl rfl ?_
    have c_4 : ¬ ((x1 / 1000) < 0 ∨ 10 ≤ Int32.toNatClampNeg (x1 / 1000)) := fun z => by rw [if_pos z] at hf; cases hf
    have hf := of_neg c_4 hf
    refine jr_iald (pc := 41) F hK hP 4 rfl c_4 dX8_quarter_41 ?_
    refine j_isub (pc := 42) F dX8_quarter_42 ?_
    refine j_iload_n (pc := 43) F 2 dX8_quarter_43 rfl rfl ?_
    refine j_sipush (pc := 44) F (v := 1000) dX8_quarter_44 rfl ?_
    refine j_irem (pc := 47) F dX8_quarter_47 (by decide) ?_
    refine j_imul (pc := 48) F dX8_quarter_48 ?_
    refine j_sipush (pc := 49) F (v := 1000) dX8_quarter_49 rfl ?_
    refine j_idiv (pc := 52) F dX8_quarter_52 (by decide) ?_
    refine j_iadd (pc := 53) F dX8_quarter_53 ?_
    exact j_iretR (pc := 54) F dX8_quarter_54 (Option.some.inj hf)
  · have hf := of_pos c_1 hf
    refine j_aload_n (pc := 12) F 1 dX8_quarter_12 rfl rfl ?_
    refine jr_get (pc := 13) (v := .ref (aM 9)) F hK hP ix_8 0 rfl rfl 8 (by decide) tm_823 rfl rfl dX8_quarter_13 ?_
    refine j_bipush (pc := 16) F (v := 9) dX8_quarter_16 rfl ?_
    have c_5 : ¬ ((9 : Int32) < 0 ∨ 10 ≤ Int32.toNatClampNeg (9 : Int32)) := fun z => by rw [if_pos z] at hf; cases hf
    have hf := of_neg c_5 hf
    refine jr_iald (pc := 18) F hK hP 4 rfl c_5 dX8_quarter_18 ?_
    refine j_goto (pc := 19) F (tgt := 54) dX8_quarter_19 rfl ?_
    exact j_iretR (pc := 54) F dX8_quarter_54 (Option.some.inj hf)
theorem cf_X8_quarter : cfV yX8_quarter cX8_quarter 3 (some .int) 1 := ⟨tm_1013, tm_32, tm_60, tm_1014, by decide, by decide, by decide +kernel⟩

def f_X8_wave_34 (σM : St2 × (Nat → Int64)) (y1 : Int32) (t0 : Int32) : Option (Int32) := (f_X8_quarter σM t0).bind fun o_1 => if y1 ≤ 18000 then some o_1 else some (-o_1)
def f_X8_wave_16 (σM : St2 × (Nat → Int64)) (y1 : Int32) (t0 : Int32) : Option (Int32) := if t0 ≤ 9000 then f_X8_wave_34 σM y1 t0 else f_X8_wave_34 σM y1 (18000 - t0)
def f_X8_wave (σM : St2 × (Nat → Int64)) (x1 : Int32) : Option (Int32) := if x1 ≤ 18000 then f_X8_wave_16 σM x1 x1 else f_X8_wave_16 σM x1 (x1 - 18000)
set_option maxHeartbeats 4000000 in
set_option maxRecDepth 100000 in
theorem b_X8_wave_34 {l : Launch} {D : va_G} {cy : Nat → ClassId} {g : Gs} {p : Program} {e : Env} {s : State} {m : MethodId} {args : Array Value} {below : List Frame} {meth : Method} {c : Code} {aM : Nat → Nat} {σM : St2 × (Nat → Int64)} {out : Int32} (F : Fx p s m args meth c cX8_wave RX8 4 (some .int)) (hP : va_P D vwCl (wM aM cy σM) s.heap) (hK : va_K D vwCl (tys cy) s) (hS : St g nA s s.heap) :
    ∀ (y1 : Int32) (t0 : Int32), f_X8_wave_34 σM y1 t0 = some out → J p l e { frames := 1, cells := 0, slots := 0, locals := 22 } s m args below meth c 4 (hR s) 0 0 (MQ below (QR (some (.int out))) args s 0 0 nA) 34 [(1, .int y1)] [.int t0, .ref (aM 0)] := by
  intro y1 t0 hf
  unfold f_X8_wave_34 at hf
  obtain ⟨o_1, ho_1, hf⟩ := of_bnd hf
  refine j_callRV (pc := 34) (st := []) (st1 := [.int o_1]) F hK (hpR hP hS hp_id) (c_X8_quarter (l := l) (D := D) (cy := cy) (g := g) (aM := aM) ho_1) tm_1011 cf_X8_quarter (Nat.le_of_ble_eq_true rfl) (Nat.le_of_ble_eq_true rfl) ⟨Nat.zero_le _, Nat.zero_le _⟩ 0 rfl rfl rfl rfl rfl (Nat.le_of_ble_eq_true rfl) rfl dX8_wave_34 ?_
  refine j_istore_n (pc := 37) (lv' := [(3, .int o_1), (1, .int y1)]) F dX8_wave_37 rfl (by decide) rfl ?_
  refine j_iload_n (pc := 38) F 1 dX8_wave_38 rfl rfl ?_
  refine j_sipush (pc := 39) F (v := 18000) dX8_wave_39 rfl ?_
  refine j_icmp_le (pc := 42) (tgt := 50) F dX8_wave_42 rfl (fun c_2 => ?_) (fun c_2 => ?_)
  · have hf := of_pos c_2 hf
    refine j_iload_n (pc := 50) F 0 dX8_wave_50 rfl rfl ?_
    exact j_iretR (pc := 51) F dX8_wave_51 (Option.some.inj hf)
  · have hf := of_neg c_2 hf
    refine j_iload_n (pc := 45) F 0 dX8_wave_45 rfl rfl ?_
    refine j_ineg (pc := 46) F dX8_wave_46 ?_
    refine j_goto (pc := 47) F (tgt := 51) dX8_wave_47 rfl ?_
    exact j_iretR (pc := 51) F dX8_wave_51 (Option.some.inj hf)
set_option maxHeartbeats 4000000 in
set_option maxRecDepth 100000 in
theorem b_X8_wave_16 {l : Launch} {D : va_G} {cy : Nat → ClassId} {g : Gs} {p : Program} {e : Env} {s : State} {m : MethodId} {args : Array Value} {below : List Frame} {meth : Method} {c : Code} {aM : Nat → Nat} {σM : St2 × (Nat → Int64)} {out : Int32} (F : Fx p s m args meth c cX8_wave RX8 4 (some .int)) (hP : va_P D vwCl (wM aM cy σM) s.heap) (hK : va_K D vwCl (tys cy) s) (hS : St g nA s s.heap) :
    ∀ (y1 : Int32) (t0 : Int32), f_X8_wave_16 σM y1 t0 = some out → J p l e { frames := 1, cells := 0, slots := 0, locals := 22 } s m args below meth c 4 (hR s) 0 0 (MQ below (QR (some (.int out))) args s 0 0 nA) 16 [(0, .ref (aM 0)), (1, .int y1)] [.int t0] := by
  intro y1 t0 hf
  unfold f_X8_wave_16 at hf
  refine j_istore_n (pc := 16) (lv' := [(2, .int t0), (0, .ref (aM 0)), (1, .int y1)]) F dX8_wave_16 rfl (by decide) rfl ?_
  refine j_aload_n (pc := 17) F 1 dX8_wave_17 rfl rfl ?_
  refine j_iload_n (pc := 18) F 0 dX8_wave_18 rfl rfl ?_
  refine j_sipush (pc := 19) F (v := 9000) dX8_wave_19 rfl ?_
  refine j_icmp_le (pc := 22) (tgt := 33) F dX8_wave_22 rfl (fun c_1 => ?_) (fun c_1 => ?_)
  · have hf := of_pos c_1 hf
    refine j_iload_n (pc := 33) F 0 dX8_wave_33 rfl rfl ?_
    refine j_sub [2] rfl ?_
    exact b_X8_wave_34 F hP hK hS y1 t0 hf
  · have hf := of_neg c_1 hf
    refine j_sipush (pc := 25) F (v := 18000) dX8_wave_25 rfl ?_
    refine j_iload_n (pc := 28) F 0 dX8_wave_28 rfl rfl ?_
    refine j_isub (pc := 29) F dX8_wave_29 ?_
    refine j_goto (pc := 30) F (tgt := 34) dX8_wave_30 rfl ?_
    refine j_sub [2] rfl ?_
    exact b_X8_wave_34 F hP hK hS y1 (18000 - t0) hf
set_option maxHeartbeats 4000000 in
set_option maxRecDepth 100000 in
theorem c_X8_wave {l : Launch} {D : va_G} {cy : Nat → ClassId} {g : Gs} {aM : Nat → Nat} {σM : St2 × (Nat → Int64)} {x1 : Int32} {out : Int32} (hf : f_X8_wave σM x1 = some out) : CR l D cy g yX8_wave cX8_wave 4 (some .int) 1 22 (wM aM cy σM) [.ref (aM 0), .int x1] (some (.int out)) := by
  unfold f_X8_wave at hf
  refine met_R (lv := [(0, .ref (aM 0)), (1, .int x1)]) (by decide) (Nat.le_of_ble_eq_true rfl) rfl ?_
  intro p e s m args below meth c F hP hK hS
  refine j_iload_n (pc := 0) F 1 dX8_wave_0 rfl rfl ?_
  refine j_sipush (pc := 1) F (v := 18000) dX8_wave_1 rfl ?_
  refine j_icmp_le (pc := 4) (tgt := 15) F dX8_wave_4 rfl (fun c_1 => ?_) (fun c_1 => ?_)
  · have hf := of_pos c_1 hf
    refine j_iload_n (pc := 15) F 1 dX8_wave_15 rfl rfl ?_
    exact b_X8_wave_16 F hP hK hS x1 x1 hf
  · have hf := of_neg c_1 hf
    refine j_iload_n (pc := 7) F 1 dX8_wave_7 rfl rfl ?_
    refine j_sipush (pc := 8) F (v := 18000) dX8_wave_8 rfl ?_
    refine j_isub (pc := 11) F dX8_wave_11 ?_
    refine j_goto (pc := 12) F (tgt := 16) dX8_wave_12 rfl ?_
    exact b_X8_wave_16 F hP hK hS x1 (x1 - 18000) hf
theorem cf_X8_wave : cfV yX8_wave cX8_wave 4 (some .int) 1 := ⟨tm_1009, tm_31, tm_60, tm_1010, by decide, by decide, by decide +kernel⟩

def f_X8_timeOf (σM : St2 × (Nat → Int64)) (x1 : Int32) : Option (Int32) := (f_X8_wave σM (f_X8_moonAt σM x1)).bind fun o_2 => (f_X8_floor (586 * o_2.toInt64) 1000).bind fun o_3 => (f_X8_wave σM (f_X8_sunAt σM x1)).bind fun o_5 => (f_X8_floor (248 * o_5.toInt64) 1000).bind fun o_6 => some ((((((212620236 * x1.toInt64) / 10000) - o_3) + o_6) + 1000).toInt32)
set_option maxHeartbeats 4000000 in
set_option maxRecDepth 100000 in
theorem c_X8_timeOf {l : Launch} {D : va_G} {cy : Nat → ClassId} {g : Gs} {aM : Nat → Nat} {σM : St2 × (Nat → Int64)} {x1 : Int32} {out : Int32} (hf : f_X8_timeOf σM x1 = some out) : CR l D cy g yX8_timeOf cX8_timeOf 2 (some .int) 2 45 (wM aM cy σM) [.ref (aM 0), .int x1] (some (.int out)) := by
  unfold f_X8_timeOf at hf
  refine met_R (lv := [(0, .ref (aM 0)), (1, .int x1)]) (by decide) (Nat.le_of_ble_eq_true rfl) rfl ?_
  intro p e s m args below meth c F hP hK hS
  refine j_ldc2 (pc := 0) F tm_1004 dX8_timeOf_0 ?_
  refine j_iload_n (pc := 3) F 1 dX8_timeOf_3 rfl rfl ?_
  refine j_i2l (pc := 4) F dX8_timeOf_4 ?_
  refine j_lmul (pc := 5) F dX8_timeOf_5 ?_
  refine j_ldc2 (pc := 6) F tm_1005 dX8_timeOf_6 ?_
  refine j_ldiv (pc := 9) F dX8_timeOf_9 (by decide) ?_
  refine j_ldc2 (pc := 10) F tm_1006 dX8_timeOf_10 ?_
  refine j_aload_n (pc := 13) F 0 dX8_timeOf_13 rfl rfl ?_
  refine j_aload_n (pc := 14) F 0 dX8_timeOf_14 rfl rfl ?_
  refine j_iload_n (pc := 15) F 1 dX8_timeOf_15 rfl rfl ?_
  refine j_callRV (pc := 16) (st := [.ref (aM 0), .long 586, .long ((212620236 * x1.toInt64) / 10000)]) (st1 := [.int (f_X8_moonAt σM x1), .ref (aM 0), .long 586, .long ((212620236 * x1.toInt64) / 10000)]) F hK (hpR hP hS hp_id) (c_X8_moonAt (l := l) (D := D) (cy := cy) (g := g) (aM := aM) (rfl : f_X8_moonAt σM x1 = _)) tm_983 cf_X8_moonAt (Nat.le_of_ble_eq_true rfl) (Nat.le_of_ble_eq_true rfl) ⟨Nat.zero_le _, Nat.zero_le _⟩ 0 rfl rfl rfl rfl rfl (Nat.le_of_ble_eq_true rfl) rfl dX8_timeOf_16 ?_
  obtain ⟨o_2, ho_2, hf⟩ := of_bnd hf
  refine j_callRV (pc := 19) (st := [.long 586, .long ((212620236 * x1.toInt64) / 10000)]) (st1 := [.int o_2, .long 586, .long ((212620236 * x1.toInt64) / 10000)]) F hK (hpR hP hS hp_id) (c_X8_wave (l := l) (D := D) (cy := cy) (g := g) (aM := aM) ho_2) tm_1007 cf_X8_wave (Nat.le_of_ble_eq_true rfl) (Nat.le_of_ble_eq_true rfl) ⟨Nat.zero_le _, Nat.zero_le _⟩ 0 rfl rfl rfl rfl rfl (Nat.le_of_ble_eq_true rfl) rfl dX8_timeOf_19 ?_
  refine j_i2l (pc := 22) F dX8_timeOf_22 ?_
  refine j_lmul (pc := 23) F dX8_timeOf_23 ?_
  refine j_ldc2 (pc := 24) F tm_1015 dX8_timeOf_24 ?_
  obtain ⟨o_3, ho_3, hf⟩ := of_bnd hf
  refine j_callRS (pc := 27) (st := [.long ((212620236 * x1.toInt64) / 10000)]) (st1 := [.long o_3, .long ((212620236 * x1.toInt64) / 10000)]) F hK (hpR hP hS hp_nil) (c_X8_floor (l := l) (D := D) (cy := cy) (g := g) ho_3) tm_1016 cf_X8_floor (Nat.le_of_ble_eq_true rfl) (Nat.le_of_ble_eq_true rfl) ⟨Nat.zero_le _, Nat.zero_le _⟩ rfl rfl (Nat.le_of_ble_eq_true rfl) rfl dX8_timeOf_27 ?_
  refine j_lsub (pc := 30) F dX8_timeOf_30 ?_
  refine j_ldc2 (pc := 31) F tm_1019 dX8_timeOf_31 ?_
  refine j_aload_n (pc := 34) F 0 dX8_timeOf_34 rfl rfl ?_
  refine j_aload_n (pc := 35) F 0 dX8_timeOf_35 rfl rfl ?_
  refine j_iload_n (pc := 36) F 1 dX8_timeOf_36 rfl rfl ?_
  refine j_callRV (pc := 37) (st := [.ref (aM 0), .long 248, .long (((212620236 * x1.toInt64) / 10000) - o_3)]) (st1 := [.int (f_X8_sunAt σM x1), .ref (aM 0), .long 248, .long (((212620236 * x1.toInt64) / 10000) - o_3)]) F hK (hpR hP hS hp_id) (c_X8_sunAt (l := l) (D := D) (cy := cy) (g := g) (aM := aM) (rfl : f_X8_sunAt σM x1 = _)) tm_989 cf_X8_sunAt (Nat.le_of_ble_eq_true rfl) (Nat.le_of_ble_eq_true rfl) ⟨Nat.zero_le _, Nat.zero_le _⟩ 0 rfl rfl rfl rfl rfl (Nat.le_of_ble_eq_true rfl) rfl dX8_timeOf_37 ?_
  obtain ⟨o_5, ho_5, hf⟩ := of_bnd hf
  refine j_callRV (pc := 40) (st := [.long 248, .long (((212620236 * x1.toInt64) / 10000) - o_3)]) (st1 := [.int o_5, .long 248, .long (((212620236 * x1.toInt64) / 10000) - o_3)]) F hK (hpR hP hS hp_id) (c_X8_wave (l := l) (D := D) (cy := cy) (g := g) (aM := aM) ho_5) tm_1007 cf_X8_wave (Nat.le_of_ble_eq_true rfl) (Nat.le_of_ble_eq_true rfl) ⟨Nat.zero_le _, Nat.zero_le _⟩ 0 rfl rfl rfl rfl rfl (Nat.le_of_ble_eq_true rfl) rfl dX8_timeOf_40 ?_
  refine j_i2l (pc := 43) F dX8_timeOf_43 ?_
  refine j_lmul (pc := 44) F dX8_timeOf_44 ?_
  refine j_ldc2 (pc := 45) F tm_1015 dX8_timeOf_45 ?_
  obtain ⟨o_6, ho_6, hf⟩ := of_bnd hf
  refine j_callRS (pc := 48) (st := [.long (((212620236 * x1.toInt64) / 10000) - o_3)]) (st1 := [.long o_6, .long (((212620236 * x1.toInt64) / 10000) - o_3)]) F hK (hpR hP hS hp_nil) (c_X8_floor (l := l) (D := D) (cy := cy) (g := g) ho_6) tm_1016 cf_X8_floor (Nat.le_of_ble_eq_true rfl) (Nat.le_of_ble_eq_true rfl) ⟨Nat.zero_le _, Nat.zero_le _⟩ rfl rfl (Nat.le_of_ble_eq_true rfl) rfl dX8_timeOf_48 ?_
  refine j_ladd (pc := 51) F dX8_timeOf_51 ?_
  refine j_ldc2 (pc := 52) F tm_1015 dX8_timeOf_52 ?_
  refine j_ladd (pc := 55) F dX8_timeOf_55 ?_
  refine j_l2i (pc := 56) F dX8_timeOf_56 ?_
  exact j_iretR (pc := 57) F dX8_timeOf_57 (Option.some.inj hf)
theorem cf_X8_timeOf : cfV yX8_timeOf cX8_timeOf 2 (some .int) 1 := ⟨tm_1002, tm_30, tm_60, tm_1003, by decide, by decide, by decide +kernel⟩

def f_X8_sortOf_25 (σM : St2 × (Nat → Int64)) (y1 : Int32) (y3 : Int32) : Int32 := if (y1 - y1 / 2 * 2) = 1 then if 480 < y3 then if 1080 < y3 then 0 else 5 else 4 else if 1000 < y3 then if 1550 < y3 then 0 else 3 else if (f_X8_moonAt σM y1) < 9000 then 1 else if (f_X8_moonAt σM y1) < 27000 then 2 else 1
def f_X8_sortOf (σM : St2 × (Nat → Int64)) (x1 : Int32) : Int32 := lt ((f_X8_nodeAt σM x1) - (f_X8_nodeAt σM x1) / 18000 * 18000 : Int32) fun z_2 => if z_2 ≤ 9000 then f_X8_sortOf_25 σM x1 z_2 else f_X8_sortOf_25 σM x1 (18000 - z_2)
set_option maxHeartbeats 4000000 in
set_option maxRecDepth 100000 in
theorem b_X8_sortOf_25 {l : Launch} {D : va_G} {cy : Nat → ClassId} {g : Gs} {p : Program} {e : Env} {s : State} {m : MethodId} {args : Array Value} {below : List Frame} {meth : Method} {c : Code} {aM : Nat → Nat} {σM : St2 × (Nat → Int64)} {out : Int32} (F : Fx p s m args meth c cX8_sortOf RX8 5 (some .int)) (hP : va_P D vwCl (wM aM cy σM) s.heap) (hK : va_K D vwCl (tys cy) s) (hS : St g nA s s.heap) :
    ∀ (y1 : Int32) (y3 : Int32), f_X8_sortOf_25 σM y1 y3 = out → J p l e { frames := 1, cells := 0, slots := 0, locals := 21 } s m args below meth c 5 (hR s) 0 0 (MQ below (QR (some (.int out))) args s 0 0 nA) 25 [(0, .ref (aM 0)), (1, .int y1), (3, .int y3)] [] := by
  intro y1 y3 hf
  unfold f_X8_sortOf_25 at hf
  refine j_iload_n (pc := 25) F 1 dX8_sortOf_25 rfl rfl ?_
  refine j_iconst (pc := 26) F (v := 2) dX8_sortOf_26 rfl ?_
  refine j_irem (pc := 27) F dX8_sortOf_27 (by decide) ?_
  refine j_iconst (pc := 28) F (v := 1) dX8_sortOf_28 rfl ?_
  refine j_icmp_ne (pc := 29) (tgt := 56) F dX8_sortOf_29 rfl (fun c_1 => ?_) (fun c_1 => ?_)
  · have hf := of_neg c_1 hf
    refine j_aload_n (pc := 56) F 0 dX8_sortOf_56 rfl rfl ?_
    refine j_iload_n (pc := 57) F 1 dX8_sortOf_57 rfl rfl ?_
    refine j_callRV (pc := 58) (st := []) (st1 := [.int (f_X8_moonAt σM y1)]) F hK (hpR hP hS hp_id) (c_X8_moonAt (l := l) (D := D) (cy := cy) (g := g) (aM := aM) (rfl : f_X8_moonAt σM y1 = _)) tm_983 cf_X8_moonAt (Nat.le_of_ble_eq_true rfl) (Nat.le_of_ble_eq_true rfl) ⟨Nat.zero_le _, Nat.zero_le _⟩ 0 rfl rfl rfl rfl rfl (Nat.le_of_ble_eq_true rfl) rfl dX8_sortOf_58 ?_
    refine j_istore (pc := 61) (lv' := [(4, .int (f_X8_moonAt σM y1)), (0, .ref (aM 0)), (1, .int y1), (3, .int y3)]) F dX8_sortOf_61 (by decide) rfl ?_
    refine j_iload_n (pc := 63) F 3 dX8_sortOf_63 rfl rfl ?_
    refine j_sipush (pc := 64) F (v := 1000) dX8_sortOf_64 rfl ?_
    refine j_icmp_gt (pc := 67) (tgt := 94) F dX8_sortOf_67 rfl (fun c_3 => ?_) (fun c_3 => ?_)
    · have hf := of_pos c_3 hf
      refine j_iload_n (pc := 94) F 3 dX8_sortOf_94 rfl rfl ?_
      refine j_sipush (pc := 95) F (v := 1550) dX8_sortOf_95 rfl ?_
      refine j_icmp_gt (pc := 98) (tgt := 105) F dX8_sortOf_98 rfl (fun c_4 => ?_) (fun c_4 => ?_)
      · have hf := of_pos c_4 hf
        refine j_iconst (pc := 105) F (v := 0) dX8_sortOf_105 rfl ?_
        exact j_iretR (pc := 106) F dX8_sortOf_106 hf
      · have hf := of_neg c_4 hf
        refine j_iconst (pc := 101) F (v := 3) dX8_sortOf_101 rfl ?_
        refine j_goto (pc := 102) F (tgt := 106) dX8_sortOf_102 rfl ?_
        exact j_iretR (pc := 106) F dX8_sortOf_106 hf
    · have hf := of_neg c_3 hf
      refine j_iload (pc := 70) F 0 dX8_sortOf_70 rfl ?_
      refine j_sipush (pc := 72) F (v := 9000) dX8_sortOf_72 rfl ?_
      refine j_icmp_lt (pc := 75) (tgt := 86) F dX8_sortOf_75 rfl (fun c_5 => ?_) (fun c_5 => ?_)
      · have hf := of_pos c_5 hf
        refine j_iconst (pc := 86) F (v := 1) dX8_sortOf_86 rfl ?_
        refine j_goto (pc := 87) F (tgt := 106) dX8_sortOf_87 rfl ?_
        exact j_iretR (pc := 106) F dX8_sortOf_106 hf
      · have hf := of_neg c_5 hf
        refine j_iload (pc := 78) F 0 dX8_sortOf_78 rfl ?_
        refine j_sipush (pc := 80) F (v := 27000) dX8_sortOf_80 rfl ?_
        refine j_icmp_lt (pc := 83) (tgt := 90) F dX8_sortOf_83 rfl (fun c_6 => ?_) (fun c_6 => ?_)
        · have hf := of_pos c_6 hf
          refine j_iconst (pc := 90) F (v := 2) dX8_sortOf_90 rfl ?_
          refine j_goto (pc := 91) F (tgt := 106) dX8_sortOf_91 rfl ?_
          exact j_iretR (pc := 106) F dX8_sortOf_106 hf
        · have hf := of_neg c_6 hf
          refine j_iconst (pc := 86) F (v := 1) dX8_sortOf_86 rfl ?_
          refine j_goto (pc := 87) F (tgt := 106) dX8_sortOf_87 rfl ?_
          exact j_iretR (pc := 106) F dX8_sortOf_106 hf
  · have hf := of_pos c_1 hf
    refine j_iload_n (pc := 32) F 2 dX8_sortOf_32 rfl rfl ?_
    refine j_sipush (pc := 33) F (v := 480) dX8_sortOf_33 rfl ?_
    refine j_icmp_gt (pc := 36) (tgt := 43) F dX8_sortOf_36 rfl (fun c_7 => ?_) (fun c_7 => ?_)
    · have hf := of_pos c_7 hf
      refine j_iload_n (pc := 43) F 2 dX8_sortOf_43 rfl rfl ?_
      refine j_sipush (pc := 44) F (v := 1080) dX8_sortOf_44 rfl ?_
      refine j_icmp_gt (pc := 47) (tgt := 54) F dX8_sortOf_47 rfl (fun c_8 => ?_) (fun c_8 => ?_)
      · have hf := of_pos c_8 hf
        refine j_iconst (pc := 54) F (v := 0) dX8_sortOf_54 rfl ?_
        exact j_iretR (pc := 55) F dX8_sortOf_55 hf
      · have hf := of_neg c_8 hf
        refine j_iconst (pc := 50) F (v := 5) dX8_sortOf_50 rfl ?_
        refine j_goto (pc := 51) F (tgt := 55) dX8_sortOf_51 rfl ?_
        exact j_iretR (pc := 55) F dX8_sortOf_55 hf
    · have hf := of_neg c_7 hf
      refine j_iconst (pc := 39) F (v := 4) dX8_sortOf_39 rfl ?_
      refine j_goto (pc := 40) F (tgt := 55) dX8_sortOf_40 rfl ?_
      exact j_iretR (pc := 55) F dX8_sortOf_55 hf
set_option maxHeartbeats 4000000 in
set_option maxRecDepth 100000 in
theorem c_X8_sortOf {l : Launch} {D : va_G} {cy : Nat → ClassId} {g : Gs} {aM : Nat → Nat} {σM : St2 × (Nat → Int64)} {x1 : Int32} {out : Int32} (hf : f_X8_sortOf σM x1 = out) : CR l D cy g yX8_sortOf cX8_sortOf 5 (some .int) 1 21 (wM aM cy σM) [.ref (aM 0), .int x1] (some (.int out)) := by
  unfold f_X8_sortOf at hf
  refine met_R (lv := [(0, .ref (aM 0)), (1, .int x1)]) (by decide) (Nat.le_of_ble_eq_true rfl) rfl ?_
  intro p e s m args below meth c F hP hK hS
  refine j_aload_n (pc := 0) F 0 dX8_sortOf_0 rfl rfl ?_
  refine j_iload_n (pc := 1) F 1 dX8_sortOf_1 rfl rfl ?_
  refine j_callRV (pc := 2) (st := []) (st1 := [.int (f_X8_nodeAt σM x1)]) F hK (hpR hP hS hp_id) (c_X8_nodeAt (l := l) (D := D) (cy := cy) (g := g) (aM := aM) (rfl : f_X8_nodeAt σM x1 = _)) tm_994 cf_X8_nodeAt (Nat.le_of_ble_eq_true rfl) (Nat.le_of_ble_eq_true rfl) ⟨Nat.zero_le _, Nat.zero_le _⟩ 0 rfl rfl rfl rfl rfl (Nat.le_of_ble_eq_true rfl) rfl dX8_sortOf_2 ?_
  refine j_istore_n (pc := 5) (lv' := [(2, .int (f_X8_nodeAt σM x1)), (0, .ref (aM 0)), (1, .int x1)]) F dX8_sortOf_5 rfl (by decide) rfl ?_
  refine j_iload_n (pc := 6) F 0 dX8_sortOf_6 rfl rfl ?_
  refine j_sipush (pc := 7) F (v := 18000) dX8_sortOf_7 rfl ?_
  refine j_irem (pc := 10) F dX8_sortOf_10 (by decide) ?_
  obtain ⟨z_2, ez_2, hf⟩ := of_lt hf
  refine j_topi ez_2 ?_
  refine j_istore_n (pc := 11) (lv' := [(3, .int z_2), (2, .int (f_X8_nodeAt σM x1)), (0, .ref (aM 0)), (1, .int x1)]) F dX8_sortOf_11 rfl (by decide) rfl ?_
  refine j_iload_n (pc := 12) F 0 dX8_sortOf_12 rfl rfl ?_
  refine j_sipush (pc := 13) F (v := 9000) dX8_sortOf_13 rfl ?_
  refine j_icmp_le (pc := 16) (tgt := 25) F dX8_sortOf_16 rfl (fun c_3 => ?_) (fun c_3 => ?_)
  · have hf := of_pos c_3 hf
    refine j_sub [2, 3, 0] rfl ?_
    exact b_X8_sortOf_25 F hP hK hS x1 z_2 hf
  · have hf := of_neg c_3 hf
    refine j_sipush (pc := 19) F (v := 18000) dX8_sortOf_19 rfl ?_
    refine j_iload_n (pc := 22) F 0 dX8_sortOf_22 rfl rfl ?_
    refine j_isub (pc := 23) F dX8_sortOf_23 ?_
    refine j_istore_n (pc := 24) (lv' := [(3, .int (18000 - z_2)), (2, .int (f_X8_nodeAt σM x1)), (0, .ref (aM 0)), (1, .int x1)]) F dX8_sortOf_24 rfl (by decide) rfl ?_
    refine j_sub [2, 3, 0] rfl ?_
    exact b_X8_sortOf_25 F hP hK hS x1 (18000 - z_2) hf
theorem cf_X8_sortOf : cfV yX8_sortOf cX8_sortOf 5 (some .int) 1 := ⟨tm_1022, tm_33, tm_60, tm_1023, by decide, by decide, by decide +kernel⟩

def f_X8_moon (σM : St2 × (Nat → Int64)) (x1 : Int32) (x2 : Int32) : Option (Int32) := if (bI (f_X8_isMoon x1)) = 0 then some (-1) else if x2 = 0 then some (f_X8_moonAt σM x1) else if x2 = 1 then some (f_X8_sunAt σM x1) else if x2 = 2 then some (f_X8_nodeAt σM x1) else if x2 = 3 then (f_X8_timeOf σM x1).bind fun o_10 => some o_10 else if x2 = 4 then some (f_X8_sortOf σM x1) else some (-1)
set_option maxHeartbeats 4000000 in
set_option maxRecDepth 100000 in
theorem c_X8_moon {l : Launch} {D : va_G} {cy : Nat → ClassId} {g : Gs} {aM : Nat → Nat} {σM : St2 × (Nat → Int64)} {x1 : Int32} {x2 : Int32} {out : Int32} (hf : f_X8_moon σM x1 x2 = some out) : CR l D cy g yX8_moon cX8_moon 3 (some .int) 3 66 (wM aM cy σM) [.ref (aM 0), .int x1, .int x2] (some (.int out)) := by
  unfold f_X8_moon at hf
  refine met_R (lv := [(0, .ref (aM 0)), (1, .int x1), (2, .int x2)]) (by decide) (Nat.le_of_ble_eq_true rfl) rfl ?_
  intro p e s m args below meth c F hP hK hS
  refine j_iload_n (pc := 0) F 1 dX8_moon_0 rfl rfl ?_
  refine j_callRS (pc := 1) (st := []) (st1 := [.int (bI (f_X8_isMoon x1))]) F hK (hpR hP hS hp_nil) (c_X8_isMoon (l := l) (D := D) (cy := cy) (g := g) (rfl : f_X8_isMoon x1 = _)) tm_980 cf_X8_isMoon (Nat.le_of_ble_eq_true rfl) (Nat.le_of_ble_eq_true rfl) ⟨Nat.zero_le _, Nat.zero_le _⟩ rfl rfl (Nat.le_of_ble_eq_true rfl) rfl dX8_moon_1 ?_
  refine j_if_ne (pc := 4) (tgt := 9) F dX8_moon_4 rfl (fun c_2 => ?_) (fun c_2 => ?_)
  · have hf := of_neg c_2 hf
    refine j_iload_n (pc := 9) F 2 dX8_moon_9 rfl rfl ?_
    by_cases c_3 : x2 = 0
    · have hf := of_pos c_3 hf
      refine j_tabIn (pc := 10) (tgt := 44) F 0 dX8_moon_10 c_3 (by decide) (by decide) rfl rfl ?_
      refine j_aload_n (pc := 44) F 0 dX8_moon_44 rfl rfl ?_
      refine j_iload_n (pc := 45) F 1 dX8_moon_45 rfl rfl ?_
      refine j_callRV (pc := 46) (st := []) (st1 := [.int (f_X8_moonAt σM x1)]) F hK (hpR hP hS hp_id) (c_X8_moonAt (l := l) (D := D) (cy := cy) (g := g) (aM := aM) (rfl : f_X8_moonAt σM x1 = _)) tm_983 cf_X8_moonAt (Nat.le_of_ble_eq_true rfl) (Nat.le_of_ble_eq_true rfl) ⟨Nat.zero_le _, Nat.zero_le _⟩ 0 rfl rfl rfl rfl rfl (Nat.le_of_ble_eq_true rfl) rfl dX8_moon_46 ?_
      exact j_iretR (pc := 49) F dX8_moon_49 (Option.some.inj hf)
    · have hf := of_neg c_3 hf
      by_cases c_5 : x2 = 1
      · have hf := of_pos c_5 hf
        refine j_tabIn (pc := 10) (tgt := 50) F 1 dX8_moon_10 c_5 (by decide) (by decide) rfl rfl ?_
        refine j_aload_n (pc := 50) F 0 dX8_moon_50 rfl rfl ?_
        refine j_iload_n (pc := 51) F 1 dX8_moon_51 rfl rfl ?_
        refine j_callRV (pc := 52) (st := []) (st1 := [.int (f_X8_sunAt σM x1)]) F hK (hpR hP hS hp_id) (c_X8_sunAt (l := l) (D := D) (cy := cy) (g := g) (aM := aM) (rfl : f_X8_sunAt σM x1 = _)) tm_989 cf_X8_sunAt (Nat.le_of_ble_eq_true rfl) (Nat.le_of_ble_eq_true rfl) ⟨Nat.zero_le _, Nat.zero_le _⟩ 0 rfl rfl rfl rfl rfl (Nat.le_of_ble_eq_true rfl) rfl dX8_moon_52 ?_
        exact j_iretR (pc := 55) F dX8_moon_55 (Option.some.inj hf)
      · have hf := of_neg c_5 hf
        by_cases c_7 : x2 = 2
        · have hf := of_pos c_7 hf
          refine j_tabIn (pc := 10) (tgt := 56) F 2 dX8_moon_10 c_7 (by decide) (by decide) rfl rfl ?_
          refine j_aload_n (pc := 56) F 0 dX8_moon_56 rfl rfl ?_
          refine j_iload_n (pc := 57) F 1 dX8_moon_57 rfl rfl ?_
          refine j_callRV (pc := 58) (st := []) (st1 := [.int (f_X8_nodeAt σM x1)]) F hK (hpR hP hS hp_id) (c_X8_nodeAt (l := l) (D := D) (cy := cy) (g := g) (aM := aM) (rfl : f_X8_nodeAt σM x1 = _)) tm_994 cf_X8_nodeAt (Nat.le_of_ble_eq_true rfl) (Nat.le_of_ble_eq_true rfl) ⟨Nat.zero_le _, Nat.zero_le _⟩ 0 rfl rfl rfl rfl rfl (Nat.le_of_ble_eq_true rfl) rfl dX8_moon_58 ?_
          exact j_iretR (pc := 61) F dX8_moon_61 (Option.some.inj hf)
        · have hf := of_neg c_7 hf
          by_cases c_9 : x2 = 3
          · have hf := of_pos c_9 hf
            refine j_tabIn (pc := 10) (tgt := 62) F 3 dX8_moon_10 c_9 (by decide) (by decide) rfl rfl ?_
            refine j_aload_n (pc := 62) F 0 dX8_moon_62 rfl rfl ?_
            refine j_iload_n (pc := 63) F 1 dX8_moon_63 rfl rfl ?_
            obtain ⟨o_10, ho_10, hf⟩ := of_bnd hf
            refine j_callRV (pc := 64) (st := []) (st1 := [.int o_10]) F hK (hpR hP hS hp_id) (c_X8_timeOf (l := l) (D := D) (cy := cy) (g := g) (aM := aM) ho_10) tm_1000 cf_X8_timeOf (Nat.le_of_ble_eq_true rfl) (Nat.le_of_ble_eq_true rfl) ⟨Nat.zero_le _, Nat.zero_le _⟩ 0 rfl rfl rfl rfl rfl (Nat.le_of_ble_eq_true rfl) rfl dX8_moon_64 ?_
            exact j_iretR (pc := 67) F dX8_moon_67 (Option.some.inj hf)
          · have hf := of_neg c_9 hf
            by_cases c_11 : x2 = 4
            · have hf := of_pos c_11 hf
              refine j_tabIn (pc := 10) (tgt := 68) F 4 dX8_moon_10 c_11 (by decide) (by decide) rfl rfl ?_
              refine j_aload_n (pc := 68) F 0 dX8_moon_68 rfl rfl ?_
              refine j_iload_n (pc := 69) F 1 dX8_moon_69 rfl rfl ?_
              refine j_callRV (pc := 70) (st := []) (st1 := [.int (f_X8_sortOf σM x1)]) F hK (hpR hP hS hp_id) (c_X8_sortOf (l := l) (D := D) (cy := cy) (g := g) (aM := aM) (rfl : f_X8_sortOf σM x1 = _)) tm_1020 cf_X8_sortOf (Nat.le_of_ble_eq_true rfl) (Nat.le_of_ble_eq_true rfl) ⟨Nat.zero_le _, Nat.zero_le _⟩ 0 rfl rfl rfl rfl rfl (Nat.le_of_ble_eq_true rfl) rfl dX8_moon_70 ?_
              exact j_iretR (pc := 73) F dX8_moon_73 (Option.some.inj hf)
            · have hf := of_neg c_11 hf
              refine j_tabOut (pc := 10) (n := 4) (tgt := 74) F dX8_moon_10 (by decide) (fun j hj => match j, hj with | 0, _ => c_3 | 1, _ => c_5 | 2, _ => c_7 | 3, _ => c_9 | 4, _ => c_11 | j + 5, hj => absurd hj (by omega)) rfl ?_
              refine j_iconst (pc := 74) F (v := (-1)) dX8_moon_74 rfl ?_
              exact j_iretR (pc := 75) F dX8_moon_75 (Option.some.inj hf)
  · have hf := of_pos c_2 hf
    refine j_iconst (pc := 7) F (v := (-1)) dX8_moon_7 rfl ?_
    exact j_iretR (pc := 8) F dX8_moon_8 (Option.some.inj hf)
theorem cf_X8_moon : cfV yX8_moon cX8_moon 3 (some .int) 2 := ⟨tm_977, tm_978, tm_60, tm_979, by decide, by decide, by decide +kernel⟩

def f_X8_notes_84 (N : Nat) (K20 : (St2 × (Nat → Int64)) → Int32 → Option ((St2 × (Nat → Int64)))) (σM : St2 × (Nat → Int64)) (y1 : Int32) : Option ((St2 × (Nat → Int64))) := K20 σM (y1 + 1)
def f_X8_notes_20 (N : Nat) : Nat → (St2 × (Nat → Int64)) → Int32 → Option ((St2 × (Nat → Int64)))
  | 0, _, _ => none
  | n + 1, σM, y1 => if 12000 < y1 then some σM else if (f_X8_sortOf σM y1) = 0 then f_X8_notes_84 N (f_X8_notes_20 N n) σM y1 else if (σM.1 0 4) < 0 ∨ 12001 ≤ Int32.toNatClampNeg (σM.1 0 4) then none else lt (f_X8_sortOf σM y1 : Int32) fun z_5 => if (σM.1 0 4) < 0 ∨ 12001 ≤ Int32.toNatClampNeg (σM.1 0 4) then none else (f_X8_timeOf (up2 (up2 σM.1 6 (Int32.toNatClampNeg (σM.1 0 4)) y1) 7 (Int32.toNatClampNeg (σM.1 0 4)) z_5, σM.2) y1).bind fun o_7 => if (σM.1 0 4) < 0 ∨ 12001 ≤ Int32.toNatClampNeg (σM.1 0 4) then none else lt ((σM.1 0 4) + 1 : Int32) fun z_9 => f_X8_notes_84 N (f_X8_notes_20 N n) (up2 (up2 (up2 (up2 σM.1 6 (Int32.toNatClampNeg (σM.1 0 4)) y1) 7 (Int32.toNatClampNeg (σM.1 0 4)) z_5) 8 (Int32.toNatClampNeg (σM.1 0 4)) o_7) 0 4 z_9, σM.2) y1
def f_X8_notes (N : Nat) (σM : St2 × (Nat → Int64)) : Option ((St2 × (Nat → Int64))) := if (σM.1 0 3) = 0 then f_X8_notes_20 N N (up2 (up2 σM.1 0 3 1) 0 4 0, σM.2) 0 else some σM
set_option maxHeartbeats 4000000 in
set_option maxRecDepth 100000 in
theorem b_X8_notes_84 {l : Launch} {D : va_G} {cy : Nat → ClassId} {g : Gs} {p : Program} {e : Env} {s : State} {m : MethodId} {args : Array Value} {below : List Frame} {meth : Method} {c : Code} {A : Nat → Prop} {aM : Nat → Nat} {N : Nat} {out : (St2 × (Nat → Int64))} {K20 : (St2 × (Nat → Int64)) → Int32 → Option ((St2 × (Nat → Int64)))} (F : Fx p s m args meth c cX8_notes RX8 3 none) (hK : va_K D vwCl (tys cy) s) (hS : St g A s s.heap) (hA : ∀ q, s.heap.size ≤ q → A q) (hK20 : ∀ (σM : St2 × (Nat → Int64)) (y1 : Int32), K20 σM y1 = some out → J p l e { frames := 3, cells := 0, slots := 0, locals := 66 } s m args below meth c 3 (hW D A s (wM aM cy σM)) 0 0 (MQ below (QW D A none (wM aM cy out)) args s 0 0 A) 20 [(0, .ref (aM 0)), (1, .int y1)] []) :
    ∀ (σM : St2 × (Nat → Int64)) (y1 : Int32), f_X8_notes_84 N K20 σM y1 = some out → J p l e { frames := 3, cells := 0, slots := 0, locals := 66 } s m args below meth c 3 (hW D A s (wM aM cy σM)) 0 0 (MQ below (QW D A none (wM aM cy out)) args s 0 0 A) 84 [(0, .ref (aM 0)), (1, .int y1)] [] := by
  intro σM y1 hf
  unfold f_X8_notes_84 at hf
  refine j_iinc (pc := 84) (v := y1 + 1) (lv' := [(1, .int (y1 + 1)), (0, .ref (aM 0))]) F 1 dX8_notes_84 rfl rfl (by decide) rfl ?_
  refine j_goto (pc := 87) F (tgt := 20) dX8_notes_87 rfl ?_
  refine j_sub [1, 0] rfl ?_
  exact hK20 σM (y1 + 1) hf
set_option maxHeartbeats 4000000 in
set_option maxRecDepth 100000 in
theorem b_X8_notes_20 {l : Launch} {D : va_G} {cy : Nat → ClassId} {g : Gs} {p : Program} {e : Env} {s : State} {m : MethodId} {args : Array Value} {below : List Frame} {meth : Method} {c : Code} {A : Nat → Prop} {aM : Nat → Nat} {N : Nat} {out : (St2 × (Nat → Int64))} (F : Fx p s m args meth c cX8_notes RX8 3 none) (hK : va_K D vwCl (tys cy) s) (hS : St g A s s.heap) (hA : ∀ q, s.heap.size ≤ q → A q) :
    ∀ (n : Nat) (σM : St2 × (Nat → Int64)) (y1 : Int32), f_X8_notes_20 N n σM y1 = some out → J p l e { frames := 3, cells := 0, slots := 0, locals := 66 } s m args below meth c 3 (hW D A s (wM aM cy σM)) 0 0 (MQ below (QW D A none (wM aM cy out)) args s 0 0 A) 20 [(0, .ref (aM 0)), (1, .int y1)] [] := by
  intro n
  induction n with
  | zero =>
    intro σM y1 hf
    cases hf
  | succ n ih =>
    intro σM y1 hf
    rw [f_X8_notes_20] at hf
    refine j_iload_n (pc := 20) F 1 dX8_notes_20 rfl rfl ?_
    refine j_sipush (pc := 21) F (v := 12000) dX8_notes_21 rfl ?_
    refine j_icmp_gt (pc := 24) (tgt := 90) F dX8_notes_24 rfl (fun c_1 => ?_) (fun c_1 => ?_)
    · have hf := of_pos c_1 hf
      have hf := (Option.some.inj hf)
      subst hf
      exact j_vretW (pc := 90) F dX8_notes_90 rfl
    · have hf := of_neg c_1 hf
      refine j_aload_n (pc := 27) F 0 dX8_notes_27 rfl rfl ?_
      refine j_iload_n (pc := 28) F 1 dX8_notes_28 rfl rfl ?_
      refine j_callRV (pc := 29) (st := []) (st1 := [.int (f_X8_sortOf σM y1)]) F hK (hpW hS hp_id) (c_X8_sortOf (l := l) (D := D) (cy := cy) (g := g) (aM := aM) (rfl : f_X8_sortOf σM y1 = _)) tm_1020 cf_X8_sortOf (Nat.le_of_ble_eq_true rfl) (Nat.le_of_ble_eq_true rfl) ⟨Nat.zero_le _, Nat.zero_le _⟩ 0 rfl rfl rfl rfl rfl (Nat.le_of_ble_eq_true rfl) rfl dX8_notes_29 ?_
      refine j_istore_n (pc := 32) (lv' := [(2, .int (f_X8_sortOf σM y1)), (0, .ref (aM 0)), (1, .int y1)]) F dX8_notes_32 rfl (by decide) rfl ?_
      refine j_iload_n (pc := 33) F 0 dX8_notes_33 rfl rfl ?_
      refine j_if_ne (pc := 34) (tgt := 40) F dX8_notes_34 rfl (fun c_3 => ?_) (fun c_3 => ?_)
      · have hf := of_neg c_3 hf
        refine j_aload_n (pc := 40) F 1 dX8_notes_40 rfl rfl ?_
        refine jw_get (pc := 41) (v := .ref (aM 6)) F hK ix_8 0 rfl rfl 5 (by decide) tm_820 rfl rfl dX8_notes_41 ?_
        refine j_aload_n (pc := 44) F 1 dX8_notes_44 rfl rfl ?_
        refine jw_get (pc := 45) (v := .int (σM.1 0 4)) F hK ix_8 0 rfl rfl 4 (by decide) tm_819 rfl rfl dX8_notes_45 ?_
        refine j_iload_n (pc := 48) F 2 dX8_notes_48 rfl rfl ?_
        have c_4 : ¬ ((σM.1 0 4) < 0 ∨ 12001 ≤ Int32.toNatClampNeg (σM.1 0 4)) := fun z => by rw [if_pos z] at hf; cases hf
        have hf := of_neg c_4 hf
        refine jw_iast (pc := 49) (w' := wM aM cy (up2 σM.1 6 (Int32.toNatClampNeg (σM.1 0 4)) y1, σM.2)) F hK 1 rfl c_4 (wM_row_6 _ _ _ _ _) dX8_notes_49 ?_
        refine j_aload_n (pc := 50) F 1 dX8_notes_50 rfl rfl ?_
        refine jw_get (pc := 51) (v := .ref (aM 7)) F hK ix_8 0 rfl rfl 6 (by decide) tm_821 rfl rfl dX8_notes_51 ?_
        refine j_aload_n (pc := 54) F 1 dX8_notes_54 rfl rfl ?_
        refine jw_get (pc := 55) (v := .int (σM.1 0 4)) F hK ix_8 0 rfl rfl 4 (by decide) tm_819 rfl rfl dX8_notes_55 ?_
        refine j_iload_n (pc := 58) F 0 dX8_notes_58 rfl rfl ?_
        obtain ⟨z_5, ez_5, hf⟩ := of_lt hf
        refine j_topi ez_5 ?_
        have c_6 : ¬ ((σM.1 0 4) < 0 ∨ 12001 ≤ Int32.toNatClampNeg (σM.1 0 4)) := fun z => by rw [if_pos z] at hf; cases hf
        have hf := of_neg c_6 hf
        refine jw_iast (pc := 59) (w' := wM aM cy (up2 (up2 σM.1 6 (Int32.toNatClampNeg (σM.1 0 4)) y1) 7 (Int32.toNatClampNeg (σM.1 0 4)) z_5, σM.2)) F hK 2 rfl c_6 (wM_row_7 _ _ _ _ _) dX8_notes_59 ?_
        refine j_aload_n (pc := 60) F 1 dX8_notes_60 rfl rfl ?_
        refine jw_get (pc := 61) (v := .ref (aM 8)) F hK ix_8 0 rfl rfl 7 (by decide) tm_822 rfl rfl dX8_notes_61 ?_
        refine j_aload_n (pc := 64) F 1 dX8_notes_64 rfl rfl ?_
        refine jw_get (pc := 65) (v := .int (σM.1 0 4)) F hK ix_8 0 rfl rfl 4 (by decide) tm_819 rfl rfl dX8_notes_65 ?_
        refine j_aload_n (pc := 68) F 1 dX8_notes_68 rfl rfl ?_
        refine j_iload_n (pc := 69) F 2 dX8_notes_69 rfl rfl ?_
        obtain ⟨o_7, ho_7, hf⟩ := of_bnd hf
        refine j_callRV (pc := 70) (st := [.int (σM.1 0 4), .ref (aM 8)]) (st1 := [.int o_7, .int (σM.1 0 4), .ref (aM 8)]) F hK (hpW hS hp_id) (c_X8_timeOf (l := l) (D := D) (cy := cy) (g := g) (aM := aM) ho_7) tm_1000 cf_X8_timeOf (Nat.le_of_ble_eq_true rfl) (Nat.le_of_ble_eq_true rfl) ⟨Nat.zero_le _, Nat.zero_le _⟩ 0 rfl rfl rfl rfl rfl (Nat.le_of_ble_eq_true rfl) rfl dX8_notes_70 ?_
        have c_8 : ¬ ((σM.1 0 4) < 0 ∨ 12001 ≤ Int32.toNatClampNeg (σM.1 0 4)) := fun z => by rw [if_pos z] at hf; cases hf
        have hf := of_neg c_8 hf
        refine jw_iast (pc := 73) (w' := wM aM cy (up2 (up2 (up2 σM.1 6 (Int32.toNatClampNeg (σM.1 0 4)) y1) 7 (Int32.toNatClampNeg (σM.1 0 4)) z_5) 8 (Int32.toNatClampNeg (σM.1 0 4)) o_7, σM.2)) F hK 3 rfl c_8 (wM_row_8 _ _ _ _ _) dX8_notes_73 ?_
        refine j_aload_n (pc := 74) F 1 dX8_notes_74 rfl rfl ?_
        refine j_dup (pc := 75) F dX8_notes_75 rfl ?_
        refine jw_get (pc := 76) (v := .int (σM.1 0 4)) F hK ix_8 0 rfl rfl 4 (by decide) tm_819 rfl rfl dX8_notes_76 ?_
        refine j_iconst (pc := 79) F (v := 1) dX8_notes_79 rfl ?_
        refine j_iadd (pc := 80) F dX8_notes_80 ?_
        obtain ⟨z_9, ez_9, hf⟩ := of_lt hf
        refine j_topi ez_9 ?_
        refine jw_put (pc := 81) (w' := wM aM cy (up2 (up2 (up2 (up2 σM.1 6 (Int32.toNatClampNeg (σM.1 0 4)) y1) 7 (Int32.toNatClampNeg (σM.1 0 4)) z_5) 8 (Int32.toNatClampNeg (σM.1 0 4)) o_7) 0 4 z_9, σM.2)) F hK ix_8 tyX8 tyX8_ok nmX8 0 rfl rfl 4 (by decide) tm_819 rfl rfl rfl rfl rfl (Nat.le_of_ble_eq_true rfl) (wM_put_4 _ _ _ _) dX8_notes_81 ?_
        refine j_sub [1, 2] rfl ?_
        exact b_X8_notes_84 F hK hS hA ih (up2 (up2 (up2 (up2 σM.1 6 (Int32.toNatClampNeg (σM.1 0 4)) y1) 7 (Int32.toNatClampNeg (σM.1 0 4)) z_5) 8 (Int32.toNatClampNeg (σM.1 0 4)) o_7) 0 4 z_9, σM.2) y1 hf
      · have hf := of_pos c_3 hf
        refine j_goto (pc := 37) F (tgt := 84) dX8_notes_37 rfl ?_
        refine j_sub [1, 2] rfl ?_
        exact b_X8_notes_84 F hK hS hA ih σM y1 hf
set_option maxHeartbeats 4000000 in
set_option maxRecDepth 100000 in
theorem c_X8_notes {l : Launch} {D : va_G} {cy : Nat → ClassId} {g : Gs} {aM : Nat → Nat} {σM : St2 × (Nat → Int64)} {N : Nat} {out : (St2 × (Nat → Int64))} (hf : f_X8_notes N σM = some out) : CW l D cy g yX8_notes cX8_notes 3 none 3 66 (wM aM cy σM) [.ref (aM 0)] none (wM aM cy out) := by
  unfold f_X8_notes at hf
  refine met_W (lv := [(0, .ref (aM 0))]) (by decide) (Nat.le_of_ble_eq_true rfl) rfl ?_
  intro p e s m args below meth c A F hK hS hA
  refine j_aload_n (pc := 0) F 0 dX8_notes_0 rfl rfl ?_
  refine jw_get (pc := 1) (v := .int (σM.1 0 3)) F hK ix_8 0 rfl rfl 3 (by decide) tm_818 rfl rfl dX8_notes_1 ?_
  refine j_if_eq (pc := 4) (tgt := 8) F dX8_notes_4 rfl (fun c_1 => ?_) (fun c_1 => ?_)
  · have hf := of_pos c_1 hf
    refine j_aload_n (pc := 8) F 0 dX8_notes_8 rfl rfl ?_
    refine j_iconst (pc := 9) F (v := 1) dX8_notes_9 rfl ?_
    refine jw_put (pc := 10) (w' := wM aM cy (up2 σM.1 0 3 1, σM.2)) F hK ix_8 tyX8 tyX8_ok nmX8 0 rfl rfl 3 (by decide) tm_818 rfl rfl rfl rfl rfl (Nat.le_of_ble_eq_true rfl) (wM_put_3 _ _ _ _) dX8_notes_10 ?_
    refine j_aload_n (pc := 13) F 0 dX8_notes_13 rfl rfl ?_
    refine j_iconst (pc := 14) F (v := 0) dX8_notes_14 rfl ?_
    refine jw_put (pc := 15) (w' := wM aM cy (up2 (up2 σM.1 0 3 1) 0 4 0, σM.2)) F hK ix_8 tyX8 tyX8_ok nmX8 0 rfl rfl 4 (by decide) tm_819 rfl rfl rfl rfl rfl (Nat.le_of_ble_eq_true rfl) (wM_put_4 _ _ _ _) dX8_notes_15 ?_
    refine j_iconst (pc := 18) F (v := 0) dX8_notes_18 rfl ?_
    refine j_istore_n (pc := 19) (lv' := [(1, .int 0), (0, .ref (aM 0))]) F dX8_notes_19 rfl (by decide) rfl ?_
    refine j_sub [1, 0] rfl ?_
    exact b_X8_notes_20 F hK hS hA N (up2 (up2 σM.1 0 3 1) 0 4 0, σM.2) 0 hf
  · have hf := of_neg c_1 hf
    have hf := (Option.some.inj hf)
    subst hf
    exact j_vretW (pc := 7) F dX8_notes_7 rfl
theorem cf_X8_notes : cfV yX8_notes cX8_notes 3 none 0 := ⟨tm_1030, tm_34, tm_60, tm_1031, by decide, by decide, by decide +kernel⟩

def f_X8_next_77 (N : Nat) (K24 : (St2 × (Nat → Int64)) → Int32 → Int32 → Int32 → Int32 → Option (Int32 × (St2 × (Nat → Int64)))) (σM : St2 × (Nat → Int64)) (y1 : Int32) (y3 : Int32) (y4 : Int32) (y5 : Int32) : Option (Int32 × (St2 × (Nat → Int64))) := K24 σM y1 y3 y4 (y5 + 1)
def f_X8_next_24 (N : Nat) : Nat → (St2 × (Nat → Int64)) → Int32 → Int32 → Int32 → Int32 → Option (Int32 × (St2 × (Nat → Int64)))
  | 0, _, _, _, _, _ => none
  | n + 1, σM, y1, y3, y4, y5 => if (σM.1 0 4) ≤ y5 then some ((-1), σM) else if y5 < 0 ∨ 12001 ≤ Int32.toNatClampNeg y5 then none else if (σM.1 6 (Int32.toNatClampNeg y5)) < y1 then f_X8_next_77 N (f_X8_next_24 N n) σM y1 y3 y4 y5 else if y5 < 0 ∨ 12001 ≤ Int32.toNatClampNeg y5 then none else if ((y3 >>> ((σM.1 7 (Int32.toNatClampNeg y5)) &&& 31)) &&& 1) = 0 then f_X8_next_77 N (f_X8_next_24 N n) σM y1 y3 y4 y5 else if (y4 + (-1)) = 0 then if y5 < 0 ∨ 12001 ≤ Int32.toNatClampNeg y5 then none else some (σM.1 6 (Int32.toNatClampNeg y5), σM) else f_X8_next_77 N (f_X8_next_24 N n) σM y1 y3 (y4 + (-1)) y5
def f_X8_next (N : Nat) (σM : St2 × (Nat → Int64)) (x1 : Int32) (x2 : Int32) (x3 : Int32) : Option (Int32 × (St2 × (Nat → Int64))) := if (bI (f_X8_isMoon x1)) = 0 then some ((-1), σM) else if 1 ≤ x2 then (f_X8_notes N σM).bind fun o_4 => f_X8_next_24 N N o_4 x1 x3 x2 0 else some ((-1), σM)
set_option maxHeartbeats 4000000 in
set_option maxRecDepth 100000 in
theorem b_X8_next_77 {l : Launch} {D : va_G} {cy : Nat → ClassId} {g : Gs} {p : Program} {e : Env} {s : State} {m : MethodId} {args : Array Value} {below : List Frame} {meth : Method} {c : Code} {A : Nat → Prop} {aM : Nat → Nat} {N : Nat} {out : Int32 × (St2 × (Nat → Int64))} {K24 : (St2 × (Nat → Int64)) → Int32 → Int32 → Int32 → Int32 → Option (Int32 × (St2 × (Nat → Int64)))} (F : Fx p s m args meth c cX8_next RX8 6 (some .int)) (hK : va_K D vwCl (tys cy) s) (hS : St g A s s.heap) (hA : ∀ q, s.heap.size ≤ q → A q) (hK24 : ∀ (σM : St2 × (Nat → Int64)) (y1 : Int32) (y3 : Int32) (y4 : Int32) (y5 : Int32), K24 σM y1 y3 y4 y5 = some out → J p l e { frames := 4, cells := 0, slots := 0, locals := 88 } s m args below meth c 6 (hW D A s (wM aM cy σM)) 0 0 (MQ below (QW D A (some (.int out.1)) (wM aM cy out.2)) args s 0 0 A) 24 [(0, .ref (aM 0)), (1, .int y1), (3, .int y3), (4, .int y4), (5, .int y5)] []) :
    ∀ (σM : St2 × (Nat → Int64)) (y1 : Int32) (y3 : Int32) (y4 : Int32) (y5 : Int32), f_X8_next_77 N K24 σM y1 y3 y4 y5 = some out → J p l e { frames := 4, cells := 0, slots := 0, locals := 88 } s m args below meth c 6 (hW D A s (wM aM cy σM)) 0 0 (MQ below (QW D A (some (.int out.1)) (wM aM cy out.2)) args s 0 0 A) 77 [(0, .ref (aM 0)), (1, .int y1), (3, .int y3), (4, .int y4), (5, .int y5)] [] := by
  intro σM y1 y3 y4 y5 hf
  unfold f_X8_next_77 at hf
  refine j_iinc (pc := 77) (v := y5 + 1) (lv' := [(5, .int (y5 + 1)), (0, .ref (aM 0)), (1, .int y1), (3, .int y3), (4, .int y4)]) F 4 dX8_next_77 rfl rfl (by decide) rfl ?_
  refine j_goto (pc := 80) F (tgt := 24) dX8_next_80 rfl ?_
  refine j_sub [1, 2, 3, 4, 0] rfl ?_
  exact hK24 σM y1 y3 y4 (y5 + 1) hf
set_option maxHeartbeats 4000000 in
set_option maxRecDepth 100000 in
theorem b_X8_next_24 {l : Launch} {D : va_G} {cy : Nat → ClassId} {g : Gs} {p : Program} {e : Env} {s : State} {m : MethodId} {args : Array Value} {below : List Frame} {meth : Method} {c : Code} {A : Nat → Prop} {aM : Nat → Nat} {N : Nat} {out : Int32 × (St2 × (Nat → Int64))} (F : Fx p s m args meth c cX8_next RX8 6 (some .int)) (hK : va_K D vwCl (tys cy) s) (hS : St g A s s.heap) (hA : ∀ q, s.heap.size ≤ q → A q) :
    ∀ (n : Nat) (σM : St2 × (Nat → Int64)) (y1 : Int32) (y3 : Int32) (y4 : Int32) (y5 : Int32), f_X8_next_24 N n σM y1 y3 y4 y5 = some out → J p l e { frames := 4, cells := 0, slots := 0, locals := 88 } s m args below meth c 6 (hW D A s (wM aM cy σM)) 0 0 (MQ below (QW D A (some (.int out.1)) (wM aM cy out.2)) args s 0 0 A) 24 [(0, .ref (aM 0)), (1, .int y1), (3, .int y3), (4, .int y4), (5, .int y5)] [] := by
  intro n
  induction n with
  | zero =>
    intro σM y1 y3 y4 y5 hf
    cases hf
  | succ n ih =>
    intro σM y1 y3 y4 y5 hf
    rw [f_X8_next_24] at hf
    refine j_iload (pc := 24) F 4 dX8_next_24 rfl ?_
    refine j_aload_n (pc := 26) F 0 dX8_next_26 rfl rfl ?_
    refine jw_get (pc := 27) (v := .int (σM.1 0 4)) F hK ix_8 0 rfl rfl 4 (by decide) tm_819 rfl rfl dX8_next_27 ?_
    refine j_icmp_ge (pc := 30) (tgt := 83) F dX8_next_30 rfl (fun c_1 => ?_) (fun c_1 => ?_)
    · have hf := of_pos c_1 hf
      refine j_iconst (pc := 83) F (v := (-1)) dX8_next_83 rfl ?_
      have hf := (Option.some.inj hf)
      subst hf
      exact j_iretW (pc := 84) F dX8_next_84 rfl rfl
    · have hf := of_neg c_1 hf
      refine j_aload_n (pc := 33) F 0 dX8_next_33 rfl rfl ?_
      refine jw_get (pc := 34) (v := .ref (aM 6)) F hK ix_8 0 rfl rfl 5 (by decide) tm_820 rfl rfl dX8_next_34 ?_
      refine j_iload (pc := 37) F 4 dX8_next_37 rfl ?_
      have c_2 : ¬ (y5 < 0 ∨ 12001 ≤ Int32.toNatClampNeg y5) := fun z => by rw [if_pos z] at hf; cases hf
      have hf := of_neg c_2 hf
      refine jw_iald (pc := 39) F hK 1 rfl c_2 dX8_next_39 ?_
      refine j_iload_n (pc := 40) F 1 dX8_next_40 rfl rfl ?_
      refine j_icmp_lt (pc := 41) (tgt := 77) F dX8_next_41 rfl (fun c_3 => ?_) (fun c_3 => ?_)
      · have hf := of_pos c_3 hf
        exact b_X8_next_77 F hK hS hA ih σM y1 y3 y4 y5 hf
      · have hf := of_neg c_3 hf
        refine j_iload_n (pc := 44) F 2 dX8_next_44 rfl rfl ?_
        refine j_aload_n (pc := 45) F 0 dX8_next_45 rfl rfl ?_
        refine jw_get (pc := 46) (v := .ref (aM 7)) F hK ix_8 0 rfl rfl 6 (by decide) tm_821 rfl rfl dX8_next_46 ?_
        refine j_iload (pc := 49) F 4 dX8_next_49 rfl ?_
        have c_4 : ¬ (y5 < 0 ∨ 12001 ≤ Int32.toNatClampNeg y5) := fun z => by rw [if_pos z] at hf; cases hf
        have hf := of_neg c_4 hf
        refine jw_iald (pc := 51) F hK 2 rfl c_4 dX8_next_51 ?_
        refine j_ishr (pc := 52) F dX8_next_52 ?_
        refine j_iconst (pc := 53) F (v := 1) dX8_next_53 rfl ?_
        refine j_iand (pc := 54) F dX8_next_54 ?_
        refine j_if_ne (pc := 55) (tgt := 61) F dX8_next_55 rfl (fun c_5 => ?_) (fun c_5 => ?_)
        · have hf := of_neg c_5 hf
          refine j_iinc (pc := 61) (v := y4 + (-1)) (lv' := [(4, .int (y4 + (-1))), (0, .ref (aM 0)), (1, .int y1), (3, .int y3), (5, .int y5)]) F 3 dX8_next_61 rfl rfl (by decide) rfl ?_
          refine j_iload (pc := 64) F 0 dX8_next_64 rfl ?_
          refine j_if_ne (pc := 66) (tgt := 77) F dX8_next_66 rfl (fun c_6 => ?_) (fun c_6 => ?_)
          · have hf := of_neg c_6 hf
            refine j_sub [1, 2, 3, 0, 4] rfl ?_
            exact b_X8_next_77 F hK hS hA ih σM y1 y3 (y4 + (-1)) y5 hf
          · have hf := of_pos c_6 hf
            refine j_aload_n (pc := 69) F 1 dX8_next_69 rfl rfl ?_
            refine jw_get (pc := 70) (v := .ref (aM 6)) F hK ix_8 0 rfl rfl 5 (by decide) tm_820 rfl rfl dX8_next_70 ?_
            refine j_iload (pc := 73) F 4 dX8_next_73 rfl ?_
            have c_7 : ¬ (y5 < 0 ∨ 12001 ≤ Int32.toNatClampNeg y5) := fun z => by rw [if_pos z] at hf; cases hf
            have hf := of_neg c_7 hf
            refine jw_iald (pc := 75) F hK 1 rfl c_7 dX8_next_75 ?_
            have hf := (Option.some.inj hf)
            subst hf
            exact j_iretW (pc := 76) F dX8_next_76 rfl rfl
        · have hf := of_pos c_5 hf
          refine j_goto (pc := 58) F (tgt := 77) dX8_next_58 rfl ?_
          exact b_X8_next_77 F hK hS hA ih σM y1 y3 y4 y5 hf
set_option maxHeartbeats 4000000 in
set_option maxRecDepth 100000 in
theorem c_X8_next {l : Launch} {D : va_G} {cy : Nat → ClassId} {g : Gs} {aM : Nat → Nat} {σM : St2 × (Nat → Int64)} {N : Nat} {x1 : Int32} {x2 : Int32} {x3 : Int32} {out : Int32 × (St2 × (Nat → Int64))} (hf : f_X8_next N σM x1 x2 x3 = some out) : CW l D cy g yX8_next cX8_next 6 (some .int) 4 88 (wM aM cy σM) [.ref (aM 0), .int x1, .int x2, .int x3] (some (.int out.1)) (wM aM cy out.2) := by
  unfold f_X8_next at hf
  refine met_W (lv := [(0, .ref (aM 0)), (1, .int x1), (2, .int x2), (3, .int x3)]) (by decide) (Nat.le_of_ble_eq_true rfl) rfl ?_
  intro p e s m args below meth c A F hK hS hA
  refine j_iload_n (pc := 0) F 1 dX8_next_0 rfl rfl ?_
  refine j_callRS (pc := 1) (st := []) (st1 := [.int (bI (f_X8_isMoon x1))]) F hK (hpW hS hp_nil) (c_X8_isMoon (l := l) (D := D) (cy := cy) (g := g) (rfl : f_X8_isMoon x1 = _)) tm_980 cf_X8_isMoon (Nat.le_of_ble_eq_true rfl) (Nat.le_of_ble_eq_true rfl) ⟨Nat.zero_le _, Nat.zero_le _⟩ rfl rfl (Nat.le_of_ble_eq_true rfl) rfl dX8_next_1 ?_
  refine j_if_eq (pc := 4) (tgt := 12) F dX8_next_4 rfl (fun c_2 => ?_) (fun c_2 => ?_)
  · have hf := of_pos c_2 hf
    refine j_iconst (pc := 12) F (v := (-1)) dX8_next_12 rfl ?_
    have hf := (Option.some.inj hf)
    subst hf
    exact j_iretW (pc := 13) F dX8_next_13 rfl rfl
  · have hf := of_neg c_2 hf
    refine j_iload_n (pc := 7) F 2 dX8_next_7 rfl rfl ?_
    refine j_iconst (pc := 8) F (v := 1) dX8_next_8 rfl ?_
    refine j_icmp_ge (pc := 9) (tgt := 14) F dX8_next_9 rfl (fun c_3 => ?_) (fun c_3 => ?_)
    · have hf := of_pos c_3 hf
      refine j_aload_n (pc := 14) F 0 dX8_next_14 rfl rfl ?_
      obtain ⟨o_4, ho_4, hf⟩ := of_bnd hf
      refine j_callWs (pc := 15) (st := []) (st1 := []) (w' := wM aM cy o_4) F hK hS hA (c_X8_notes (l := l) (D := D) (cy := cy) (g := g) (aM := aM) ho_4) tm_1028 cf_X8_notes (Nat.le_of_ble_eq_true rfl) (Nat.le_of_ble_eq_true rfl) ⟨Nat.zero_le _, Nat.zero_le _⟩ 0 rfl rfl rfl rfl rfl (Nat.le_of_ble_eq_true rfl) rfl dX8_next_15 ?_
      refine j_iload_n (pc := 18) F 2 dX8_next_18 rfl rfl ?_
      refine j_istore (pc := 19) (lv' := [(4, .int x2), (0, .ref (aM 0)), (1, .int x1), (2, .int x2), (3, .int x3)]) F dX8_next_19 (by decide) rfl ?_
      refine j_iconst (pc := 21) F (v := 0) dX8_next_21 rfl ?_
      refine j_istore (pc := 22) (lv' := [(5, .int 0), (4, .int x2), (0, .ref (aM 0)), (1, .int x1), (2, .int x2), (3, .int x3)]) F dX8_next_22 (by decide) rfl ?_
      refine j_sub [2, 3, 5, 1, 0] rfl ?_
      exact b_X8_next_24 F hK hS hA N o_4 x1 x3 x2 0 hf
    · have hf := of_neg c_3 hf
      refine j_iconst (pc := 12) F (v := (-1)) dX8_next_12 rfl ?_
      have hf := (Option.some.inj hf)
      subst hf
      exact j_iretW (pc := 13) F dX8_next_13 rfl rfl
theorem cf_X8_next : cfV yX8_next cX8_next 6 (some .int) 3 := ⟨tm_1025, tm_1026, tm_60, tm_1027, by decide, by decide, by decide +kernel⟩

def f_X8_many_80 (N : Nat) (K31 : (St2 × (Nat → Int64)) → Int32 → Int32 → Int32 → Int32 → Int32 → Option (Int32 × (St2 × (Nat → Int64)))) (σM : St2 × (Nat → Int64)) (y1 : Int32) (y2 : Int32) (y3 : Int32) (y4 : Int32) (y5 : Int32) : Option (Int32 × (St2 × (Nat → Int64))) := K31 σM y1 y2 y3 y4 (y5 + 1)
def f_X8_many_31 (N : Nat) : Nat → (St2 × (Nat → Int64)) → Int32 → Int32 → Int32 → Int32 → Int32 → Option (Int32 × (St2 × (Nat → Int64)))
  | 0, _, _, _, _, _, _ => none
  | n + 1, σM, y1, y2, y3, y4, y5 => if (σM.1 0 4) ≤ y5 then some (y4, σM) else if y5 < 0 ∨ 12001 ≤ Int32.toNatClampNeg y5 then none else if (σM.1 6 (Int32.toNatClampNeg y5)) < y1 then f_X8_many_80 N (f_X8_many_31 N n) σM y1 y2 y3 y4 y5 else if y5 < 0 ∨ 12001 ≤ Int32.toNatClampNeg y5 then none else if y2 < (σM.1 6 (Int32.toNatClampNeg y5)) then f_X8_many_80 N (f_X8_many_31 N n) σM y1 y2 y3 y4 y5 else if y5 < 0 ∨ 12001 ≤ Int32.toNatClampNeg y5 then none else if ((y3 >>> ((σM.1 7 (Int32.toNatClampNeg y5)) &&& 31)) &&& 1) = 1 then f_X8_many_80 N (f_X8_many_31 N n) σM y1 y2 y3 (y4 + 1) y5 else f_X8_many_80 N (f_X8_many_31 N n) σM y1 y2 y3 y4 y5
def f_X8_many (N : Nat) (σM : St2 × (Nat → Int64)) (x1 : Int32) (x2 : Int32) (x3 : Int32) : Option (Int32 × (St2 × (Nat → Int64))) := if (bI (f_X8_isMoon x1)) = 0 then some ((-1), σM) else if (bI (f_X8_isMoon x2)) = 0 then some ((-1), σM) else if x1 ≤ x2 then (f_X8_notes N σM).bind fun o_6 => f_X8_many_31 N N o_6 x1 x2 x3 0 0 else some ((-1), σM)
set_option maxHeartbeats 4000000 in
set_option maxRecDepth 100000 in
theorem b_X8_many_80 {l : Launch} {D : va_G} {cy : Nat → ClassId} {g : Gs} {p : Program} {e : Env} {s : State} {m : MethodId} {args : Array Value} {below : List Frame} {meth : Method} {c : Code} {A : Nat → Prop} {aM : Nat → Nat} {N : Nat} {out : Int32 × (St2 × (Nat → Int64))} {K31 : (St2 × (Nat → Int64)) → Int32 → Int32 → Int32 → Int32 → Int32 → Option (Int32 × (St2 × (Nat → Int64)))} (F : Fx p s m args meth c cX8_many RX8 6 (some .int)) (hK : va_K D vwCl (tys cy) s) (hS : St g A s s.heap) (hA : ∀ q, s.heap.size ≤ q → A q) (hK31 : ∀ (σM : St2 × (Nat → Int64)) (y1 : Int32) (y2 : Int32) (y3 : Int32) (y4 : Int32) (y5 : Int32), K31 σM y1 y2 y3 y4 y5 = some out → J p l e { frames := 4, cells := 0, slots := 0, locals := 88 } s m args below meth c 6 (hW D A s (wM aM cy σM)) 0 0 (MQ below (QW D A (some (.int out.1)) (wM aM cy out.2)) args s 0 0 A) 31 [(0, .ref (aM 0)), (1, .int y1), (2, .int y2), (3, .int y3), (4, .int y4), (5, .int y5)] []) :
    ∀ (σM : St2 × (Nat → Int64)) (y1 : Int32) (y2 : Int32) (y3 : Int32) (y4 : Int32) (y5 : Int32), f_X8_many_80 N K31 σM y1 y2 y3 y4 y5 = some out → J p l e { frames := 4, cells := 0, slots := 0, locals := 88 } s m args below meth c 6 (hW D A s (wM aM cy σM)) 0 0 (MQ below (QW D A (some (.int out.1)) (wM aM cy out.2)) args s 0 0 A) 80 [(0, .ref (aM 0)), (1, .int y1), (2, .int y2), (3, .int y3), (4, .int y4), (5, .int y5)] [] := by
  intro σM y1 y2 y3 y4 y5 hf
  unfold f_X8_many_80 at hf
  refine j_iinc (pc := 80) (v := y5 + 1) (lv' := [(5, .int (y5 + 1)), (0, .ref (aM 0)), (1, .int y1), (2, .int y2), (3, .int y3), (4, .int y4)]) F 5 dX8_many_80 rfl rfl (by decide) rfl ?_
  refine j_goto (pc := 83) F (tgt := 31) dX8_many_83 rfl ?_
  refine j_sub [1, 2, 3, 4, 5, 0] rfl ?_
  exact hK31 σM y1 y2 y3 y4 (y5 + 1) hf
set_option maxHeartbeats 4000000 in
set_option maxRecDepth 100000 in
theorem b_X8_many_31 {l : Launch} {D : va_G} {cy : Nat → ClassId} {g : Gs} {p : Program} {e : Env} {s : State} {m : MethodId} {args : Array Value} {below : List Frame} {meth : Method} {c : Code} {A : Nat → Prop} {aM : Nat → Nat} {N : Nat} {out : Int32 × (St2 × (Nat → Int64))} (F : Fx p s m args meth c cX8_many RX8 6 (some .int)) (hK : va_K D vwCl (tys cy) s) (hS : St g A s s.heap) (hA : ∀ q, s.heap.size ≤ q → A q) :
    ∀ (n : Nat) (σM : St2 × (Nat → Int64)) (y1 : Int32) (y2 : Int32) (y3 : Int32) (y4 : Int32) (y5 : Int32), f_X8_many_31 N n σM y1 y2 y3 y4 y5 = some out → J p l e { frames := 4, cells := 0, slots := 0, locals := 88 } s m args below meth c 6 (hW D A s (wM aM cy σM)) 0 0 (MQ below (QW D A (some (.int out.1)) (wM aM cy out.2)) args s 0 0 A) 31 [(0, .ref (aM 0)), (1, .int y1), (2, .int y2), (3, .int y3), (4, .int y4), (5, .int y5)] [] := by
  intro n
  induction n with
  | zero =>
    intro σM y1 y2 y3 y4 y5 hf
    cases hf
  | succ n ih =>
    intro σM y1 y2 y3 y4 y5 hf
    rw [f_X8_many_31] at hf
    refine j_iload (pc := 31) F 5 dX8_many_31 rfl ?_
    refine j_aload_n (pc := 33) F 0 dX8_many_33 rfl rfl ?_
    refine jw_get (pc := 34) (v := .int (σM.1 0 4)) F hK ix_8 0 rfl rfl 4 (by decide) tm_819 rfl rfl dX8_many_34 ?_
    refine j_icmp_ge (pc := 37) (tgt := 86) F dX8_many_37 rfl (fun c_1 => ?_) (fun c_1 => ?_)
    · have hf := of_pos c_1 hf
      refine j_iload (pc := 86) F 4 dX8_many_86 rfl ?_
      have hf := (Option.some.inj hf)
      subst hf
      exact j_iretW (pc := 88) F dX8_many_88 rfl rfl
    · have hf := of_neg c_1 hf
      refine j_aload_n (pc := 40) F 0 dX8_many_40 rfl rfl ?_
      refine jw_get (pc := 41) (v := .ref (aM 6)) F hK ix_8 0 rfl rfl 5 (by decide) tm_820 rfl rfl dX8_many_41 ?_
      refine j_iload (pc := 44) F 5 dX8_many_44 rfl ?_
      have c_2 : ¬ (y5 < 0 ∨ 12001 ≤ Int32.toNatClampNeg y5) := fun z => by rw [if_pos z] at hf; cases hf
      have hf := of_neg c_2 hf
      refine jw_iald (pc := 46) F hK 1 rfl c_2 dX8_many_46 ?_
      refine j_iload_n (pc := 47) F 1 dX8_many_47 rfl rfl ?_
      refine j_icmp_lt (pc := 48) (tgt := 80) F dX8_many_48 rfl (fun c_3 => ?_) (fun c_3 => ?_)
      · have hf := of_pos c_3 hf
        exact b_X8_many_80 F hK hS hA ih σM y1 y2 y3 y4 y5 hf
      · have hf := of_neg c_3 hf
        refine j_aload_n (pc := 51) F 0 dX8_many_51 rfl rfl ?_
        refine jw_get (pc := 52) (v := .ref (aM 6)) F hK ix_8 0 rfl rfl 5 (by decide) tm_820 rfl rfl dX8_many_52 ?_
        refine j_iload (pc := 55) F 5 dX8_many_55 rfl ?_
        have c_4 : ¬ (y5 < 0 ∨ 12001 ≤ Int32.toNatClampNeg y5) := fun z => by rw [if_pos z] at hf; cases hf
        have hf := of_neg c_4 hf
        refine jw_iald (pc := 57) F hK 1 rfl c_4 dX8_many_57 ?_
        refine j_iload_n (pc := 58) F 2 dX8_many_58 rfl rfl ?_
        refine j_icmp_gt (pc := 59) (tgt := 80) F dX8_many_59 rfl (fun c_5 => ?_) (fun c_5 => ?_)
        · have hf := of_pos c_5 hf
          exact b_X8_many_80 F hK hS hA ih σM y1 y2 y3 y4 y5 hf
        · have hf := of_neg c_5 hf
          refine j_iload_n (pc := 62) F 3 dX8_many_62 rfl rfl ?_
          refine j_aload_n (pc := 63) F 0 dX8_many_63 rfl rfl ?_
          refine jw_get (pc := 64) (v := .ref (aM 7)) F hK ix_8 0 rfl rfl 6 (by decide) tm_821 rfl rfl dX8_many_64 ?_
          refine j_iload (pc := 67) F 5 dX8_many_67 rfl ?_
          have c_6 : ¬ (y5 < 0 ∨ 12001 ≤ Int32.toNatClampNeg y5) := fun z => by rw [if_pos z] at hf; cases hf
          have hf := of_neg c_6 hf
          refine jw_iald (pc := 69) F hK 2 rfl c_6 dX8_many_69 ?_
          refine j_ishr (pc := 70) F dX8_many_70 ?_
          refine j_iconst (pc := 71) F (v := 1) dX8_many_71 rfl ?_
          refine j_iand (pc := 72) F dX8_many_72 ?_
          refine j_iconst (pc := 73) F (v := 1) dX8_many_73 rfl ?_
          refine j_icmp_ne (pc := 74) (tgt := 80) F dX8_many_74 rfl (fun c_7 => ?_) (fun c_7 => ?_)
          · have hf := of_neg c_7 hf
            exact b_X8_many_80 F hK hS hA ih σM y1 y2 y3 y4 y5 hf
          · have hf := of_pos c_7 hf
            refine j_iinc (pc := 77) (v := y4 + 1) (lv' := [(4, .int (y4 + 1)), (0, .ref (aM 0)), (1, .int y1), (2, .int y2), (3, .int y3), (5, .int y5)]) F 4 dX8_many_77 rfl rfl (by decide) rfl ?_
            refine j_sub [1, 2, 3, 4, 0, 5] rfl ?_
            exact b_X8_many_80 F hK hS hA ih σM y1 y2 y3 (y4 + 1) y5 hf
set_option maxHeartbeats 4000000 in
set_option maxRecDepth 100000 in
theorem c_X8_many {l : Launch} {D : va_G} {cy : Nat → ClassId} {g : Gs} {aM : Nat → Nat} {σM : St2 × (Nat → Int64)} {N : Nat} {x1 : Int32} {x2 : Int32} {x3 : Int32} {out : Int32 × (St2 × (Nat → Int64))} (hf : f_X8_many N σM x1 x2 x3 = some out) : CW l D cy g yX8_many cX8_many 6 (some .int) 4 88 (wM aM cy σM) [.ref (aM 0), .int x1, .int x2, .int x3] (some (.int out.1)) (wM aM cy out.2) := by
  unfold f_X8_many at hf
  refine met_W (lv := [(0, .ref (aM 0)), (1, .int x1), (2, .int x2), (3, .int x3)]) (by decide) (Nat.le_of_ble_eq_true rfl) rfl ?_
  intro p e s m args below meth c A F hK hS hA
  refine j_iload_n (pc := 0) F 1 dX8_many_0 rfl rfl ?_
  refine j_callRS (pc := 1) (st := []) (st1 := [.int (bI (f_X8_isMoon x1))]) F hK (hpW hS hp_nil) (c_X8_isMoon (l := l) (D := D) (cy := cy) (g := g) (rfl : f_X8_isMoon x1 = _)) tm_980 cf_X8_isMoon (Nat.le_of_ble_eq_true rfl) (Nat.le_of_ble_eq_true rfl) ⟨Nat.zero_le _, Nat.zero_le _⟩ rfl rfl (Nat.le_of_ble_eq_true rfl) rfl dX8_many_1 ?_
  refine j_if_eq (pc := 4) (tgt := 19) F dX8_many_4 rfl (fun c_2 => ?_) (fun c_2 => ?_)
  · have hf := of_pos c_2 hf
    refine j_iconst (pc := 19) F (v := (-1)) dX8_many_19 rfl ?_
    have hf := (Option.some.inj hf)
    subst hf
    exact j_iretW (pc := 20) F dX8_many_20 rfl rfl
  · have hf := of_neg c_2 hf
    refine j_iload_n (pc := 7) F 2 dX8_many_7 rfl rfl ?_
    refine j_callRS (pc := 8) (st := []) (st1 := [.int (bI (f_X8_isMoon x2))]) F hK (hpW hS hp_nil) (c_X8_isMoon (l := l) (D := D) (cy := cy) (g := g) (rfl : f_X8_isMoon x2 = _)) tm_980 cf_X8_isMoon (Nat.le_of_ble_eq_true rfl) (Nat.le_of_ble_eq_true rfl) ⟨Nat.zero_le _, Nat.zero_le _⟩ rfl rfl (Nat.le_of_ble_eq_true rfl) rfl dX8_many_8 ?_
    refine j_if_eq (pc := 11) (tgt := 19) F dX8_many_11 rfl (fun c_4 => ?_) (fun c_4 => ?_)
    · have hf := of_pos c_4 hf
      refine j_iconst (pc := 19) F (v := (-1)) dX8_many_19 rfl ?_
      have hf := (Option.some.inj hf)
      subst hf
      exact j_iretW (pc := 20) F dX8_many_20 rfl rfl
    · have hf := of_neg c_4 hf
      refine j_iload_n (pc := 14) F 1 dX8_many_14 rfl rfl ?_
      refine j_iload_n (pc := 15) F 2 dX8_many_15 rfl rfl ?_
      refine j_icmp_le (pc := 16) (tgt := 21) F dX8_many_16 rfl (fun c_5 => ?_) (fun c_5 => ?_)
      · have hf := of_pos c_5 hf
        refine j_aload_n (pc := 21) F 0 dX8_many_21 rfl rfl ?_
        obtain ⟨o_6, ho_6, hf⟩ := of_bnd hf
        refine j_callWs (pc := 22) (st := []) (st1 := []) (w' := wM aM cy o_6) F hK hS hA (c_X8_notes (l := l) (D := D) (cy := cy) (g := g) (aM := aM) ho_6) tm_1028 cf_X8_notes (Nat.le_of_ble_eq_true rfl) (Nat.le_of_ble_eq_true rfl) ⟨Nat.zero_le _, Nat.zero_le _⟩ 0 rfl rfl rfl rfl rfl (Nat.le_of_ble_eq_true rfl) rfl dX8_many_22 ?_
        refine j_iconst (pc := 25) F (v := 0) dX8_many_25 rfl ?_
        refine j_istore (pc := 26) (lv' := [(4, .int 0), (0, .ref (aM 0)), (1, .int x1), (2, .int x2), (3, .int x3)]) F dX8_many_26 (by decide) rfl ?_
        refine j_iconst (pc := 28) F (v := 0) dX8_many_28 rfl ?_
        refine j_istore (pc := 29) (lv' := [(5, .int 0), (4, .int 0), (0, .ref (aM 0)), (1, .int x1), (2, .int x2), (3, .int x3)]) F dX8_many_29 (by decide) rfl ?_
        refine j_sub [2, 3, 4, 5, 1, 0] rfl ?_
        exact b_X8_many_31 F hK hS hA N o_6 x1 x2 x3 0 0 hf
      · have hf := of_neg c_5 hf
        refine j_iconst (pc := 19) F (v := (-1)) dX8_many_19 rfl ?_
        have hf := (Option.some.inj hf)
        subst hf
        exact j_iretW (pc := 20) F dX8_many_20 rfl rfl
theorem cf_X8_many : cfV yX8_many cX8_many 6 (some .int) 3 := ⟨tm_1033, tm_1034, tm_60, tm_1035, by decide, by decide, by decide +kernel⟩

def f_X8_round_84 (N : Nat) (σM : St2 × (Nat → Int64)) (y1 : Int32) (y2 : Int32) (y3 : Int32) (y4 : Int32) : Option (Int32) := if y2 = 0 then some y3 else if y2 = 1 then some y4 else if y2 = 2 then some (((y4 - y3) / 446) + 1) else if y2 = 3 then some (((y1 - y3) / 446) + 1) else some (-1)
def f_X8_round_50 (N : Nat) : Nat → (St2 × (Nat → Int64)) → Int32 → Int32 → Int32 → Int32 → Option (Int32)
  | 0, _, _, _, _, _ => none
  | n + 1, σM, y1, y2, y3, y4 => if 12000 < (y4 + 446) then f_X8_round_84 N σM y1 y2 y3 y4 else if (f_X8_sortOf σM (y4 + 446)) = 0 then f_X8_round_84 N σM y1 y2 y3 y4 else f_X8_round_50 N n σM y1 y2 y3 (y4 + 446)
def f_X8_round_47 (N : Nat) (σM : St2 × (Nat → Int64)) (y1 : Int32) (y2 : Int32) (y3 : Int32) : Option (Int32) := f_X8_round_50 N N σM y1 y2 y3 y1
def f_X8_round_19 (N : Nat) : Nat → (St2 × (Nat → Int64)) → Int32 → Int32 → Int32 → Option (Int32)
  | 0, _, _, _, _ => none
  | n + 1, σM, y1, y2, y3 => if y3 < 446 then f_X8_round_47 N σM y1 y2 y3 else if (f_X8_sortOf σM (y3 - 446)) = 0 then f_X8_round_47 N σM y1 y2 y3 else f_X8_round_19 N n σM y1 y2 (y3 + (-446))
def f_X8_round (N : Nat) (σM : St2 × (Nat → Int64)) (x1 : Int32) (x2 : Int32) : Option (Int32) := if (bI (f_X8_isMoon x1)) = 0 then some (-1) else if (f_X8_sortOf σM x1) = 0 then some (-1) else f_X8_round_19 N N σM x1 x2 x1
set_option maxHeartbeats 4000000 in
set_option maxRecDepth 100000 in
theorem b_X8_round_84 {l : Launch} {D : va_G} {cy : Nat → ClassId} {g : Gs} {p : Program} {e : Env} {s : State} {m : MethodId} {args : Array Value} {below : List Frame} {meth : Method} {c : Code} {aM : Nat → Nat} {σM : St2 × (Nat → Int64)} {N : Nat} {out : Int32} (F : Fx p s m args meth c cX8_round RX8 5 (some .int)) (hP : va_P D vwCl (wM aM cy σM) s.heap) (hK : va_K D vwCl (tys cy) s) (hS : St g nA s s.heap) :
    ∀ (y1 : Int32) (y2 : Int32) (y3 : Int32) (y4 : Int32), f_X8_round_84 N σM y1 y2 y3 y4 = some out → J p l e { frames := 2, cells := 0, slots := 0, locals := 45 } s m args below meth c 5 (hR s) 0 0 (MQ below (QR (some (.int out))) args s 0 0 nA) 84 [(1, .int y1), (2, .int y2), (3, .int y3), (4, .int y4)] [] := by
  intro y1 y2 y3 y4 hf
  unfold f_X8_round_84 at hf
  refine j_iload_n (pc := 84) F 1 dX8_round_84 rfl rfl ?_
  by_cases c_1 : y2 = 0
  · have hf := of_pos c_1 hf
    refine j_tabIn (pc := 85) (tgt := 116) F 0 dX8_round_85 c_1 (by decide) (by decide) rfl rfl ?_
    refine j_iload_n (pc := 116) F 2 dX8_round_116 rfl rfl ?_
    exact j_iretR (pc := 117) F dX8_round_117 (Option.some.inj hf)
  · have hf := of_neg c_1 hf
    by_cases c_2 : y2 = 1
    · have hf := of_pos c_2 hf
      refine j_tabIn (pc := 85) (tgt := 118) F 1 dX8_round_85 c_2 (by decide) (by decide) rfl rfl ?_
      refine j_iload (pc := 118) F 3 dX8_round_118 rfl ?_
      exact j_iretR (pc := 120) F dX8_round_120 (Option.some.inj hf)
    · have hf := of_neg c_2 hf
      by_cases c_3 : y2 = 2
      · have hf := of_pos c_3 hf
        refine j_tabIn (pc := 85) (tgt := 121) F 2 dX8_round_85 c_3 (by decide) (by decide) rfl rfl ?_
        refine j_iload (pc := 121) F 3 dX8_round_121 rfl ?_
        refine j_iload_n (pc := 123) F 2 dX8_round_123 rfl rfl ?_
        refine j_isub (pc := 124) F dX8_round_124 ?_
        refine j_sipush (pc := 125) F (v := 446) dX8_round_125 rfl ?_
        refine j_idiv (pc := 128) F dX8_round_128 (by decide) ?_
        refine j_iconst (pc := 129) F (v := 1) dX8_round_129 rfl ?_
        refine j_iadd (pc := 130) F dX8_round_130 ?_
        exact j_iretR (pc := 131) F dX8_round_131 (Option.some.inj hf)
      · have hf := of_neg c_3 hf
        by_cases c_4 : y2 = 3
        · have hf := of_pos c_4 hf
          refine j_tabIn (pc := 85) (tgt := 132) F 3 dX8_round_85 c_4 (by decide) (by decide) rfl rfl ?_
          refine j_iload_n (pc := 132) F 0 dX8_round_132 rfl rfl ?_
          refine j_iload_n (pc := 133) F 2 dX8_round_133 rfl rfl ?_
          refine j_isub (pc := 134) F dX8_round_134 ?_
          refine j_sipush (pc := 135) F (v := 446) dX8_round_135 rfl ?_
          refine j_idiv (pc := 138) F dX8_round_138 (by decide) ?_
          refine j_iconst (pc := 139) F (v := 1) dX8_round_139 rfl ?_
          refine j_iadd (pc := 140) F dX8_round_140 ?_
          exact j_iretR (pc := 141) F dX8_round_141 (Option.some.inj hf)
        · have hf := of_neg c_4 hf
          refine j_tabOut (pc := 85) (n := 3) (tgt := 142) F dX8_round_85 (by decide) (fun j hj => match j, hj with | 0, _ => c_1 | 1, _ => c_2 | 2, _ => c_3 | 3, _ => c_4 | j + 4, hj => absurd hj (by omega)) rfl ?_
          refine j_iconst (pc := 142) F (v := (-1)) dX8_round_142 rfl ?_
          exact j_iretR (pc := 143) F dX8_round_143 (Option.some.inj hf)
set_option maxHeartbeats 4000000 in
set_option maxRecDepth 100000 in
theorem b_X8_round_50 {l : Launch} {D : va_G} {cy : Nat → ClassId} {g : Gs} {p : Program} {e : Env} {s : State} {m : MethodId} {args : Array Value} {below : List Frame} {meth : Method} {c : Code} {aM : Nat → Nat} {σM : St2 × (Nat → Int64)} {N : Nat} {out : Int32} (F : Fx p s m args meth c cX8_round RX8 5 (some .int)) (hP : va_P D vwCl (wM aM cy σM) s.heap) (hK : va_K D vwCl (tys cy) s) (hS : St g nA s s.heap) :
    ∀ (n : Nat) (y1 : Int32) (y2 : Int32) (y3 : Int32) (y4 : Int32), f_X8_round_50 N n σM y1 y2 y3 y4 = some out → J p l e { frames := 2, cells := 0, slots := 0, locals := 45 } s m args below meth c 5 (hR s) 0 0 (MQ below (QR (some (.int out))) args s 0 0 nA) 50 [(0, .ref (aM 0)), (1, .int y1), (2, .int y2), (3, .int y3), (4, .int y4)] [] := by
  intro n
  induction n with
  | zero =>
    intro y1 y2 y3 y4 hf
    cases hf
  | succ n ih =>
    intro y1 y2 y3 y4 hf
    rw [f_X8_round_50] at hf
    refine j_iload (pc := 50) F 4 dX8_round_50 rfl ?_
    refine j_sipush (pc := 52) F (v := 446) dX8_round_52 rfl ?_
    refine j_iadd (pc := 55) F dX8_round_55 ?_
    refine j_sipush (pc := 56) F (v := 12000) dX8_round_56 rfl ?_
    refine j_icmp_gt (pc := 59) (tgt := 84) F dX8_round_59 rfl (fun c_1 => ?_) (fun c_1 => ?_)
    · have hf := of_pos c_1 hf
      refine j_sub [1, 2, 3, 4] rfl ?_
      exact b_X8_round_84 F hP hK hS y1 y2 y3 y4 hf
    · have hf := of_neg c_1 hf
      refine j_aload_n (pc := 62) F 0 dX8_round_62 rfl rfl ?_
      refine j_iload (pc := 63) F 4 dX8_round_63 rfl ?_
      refine j_sipush (pc := 65) F (v := 446) dX8_round_65 rfl ?_
      refine j_iadd (pc := 68) F dX8_round_68 ?_
      refine j_callRV (pc := 69) (st := []) (st1 := [.int (f_X8_sortOf σM (y4 + 446))]) F hK (hpR hP hS hp_id) (c_X8_sortOf (l := l) (D := D) (cy := cy) (g := g) (aM := aM) (rfl : f_X8_sortOf σM (y4 + 446) = _)) tm_1020 cf_X8_sortOf (Nat.le_of_ble_eq_true rfl) (Nat.le_of_ble_eq_true rfl) ⟨Nat.zero_le _, Nat.zero_le _⟩ 0 rfl rfl rfl rfl rfl (Nat.le_of_ble_eq_true rfl) rfl dX8_round_69 ?_
      refine j_if_eq (pc := 72) (tgt := 84) F dX8_round_72 rfl (fun c_3 => ?_) (fun c_3 => ?_)
      · have hf := of_pos c_3 hf
        refine j_sub [1, 2, 3, 4] rfl ?_
        exact b_X8_round_84 F hP hK hS y1 y2 y3 y4 hf
      · have hf := of_neg c_3 hf
        refine j_iincW (pc := 75) (v := y4 + 446) (lv' := [(4, .int (y4 + 446)), (0, .ref (aM 0)), (1, .int y1), (2, .int y2), (3, .int y3)]) F 4 dX8_round_75 rfl rfl (by decide) rfl ?_
        refine j_goto (pc := 81) F (tgt := 50) dX8_round_81 rfl ?_
        refine j_sub [1, 2, 3, 4, 0] rfl ?_
        exact ih y1 y2 y3 (y4 + 446) hf
set_option maxHeartbeats 4000000 in
set_option maxRecDepth 100000 in
theorem b_X8_round_47 {l : Launch} {D : va_G} {cy : Nat → ClassId} {g : Gs} {p : Program} {e : Env} {s : State} {m : MethodId} {args : Array Value} {below : List Frame} {meth : Method} {c : Code} {aM : Nat → Nat} {σM : St2 × (Nat → Int64)} {N : Nat} {out : Int32} (F : Fx p s m args meth c cX8_round RX8 5 (some .int)) (hP : va_P D vwCl (wM aM cy σM) s.heap) (hK : va_K D vwCl (tys cy) s) (hS : St g nA s s.heap) :
    ∀ (y1 : Int32) (y2 : Int32) (y3 : Int32), f_X8_round_47 N σM y1 y2 y3 = some out → J p l e { frames := 2, cells := 0, slots := 0, locals := 45 } s m args below meth c 5 (hR s) 0 0 (MQ below (QR (some (.int out))) args s 0 0 nA) 47 [(0, .ref (aM 0)), (1, .int y1), (2, .int y2), (3, .int y3)] [] := by
  intro y1 y2 y3 hf
  unfold f_X8_round_47 at hf
  refine j_iload_n (pc := 47) F 1 dX8_round_47 rfl rfl ?_
  refine j_istore (pc := 48) (lv' := [(4, .int y1), (0, .ref (aM 0)), (1, .int y1), (2, .int y2), (3, .int y3)]) F dX8_round_48 (by decide) rfl ?_
  refine j_sub [1, 2, 3, 4, 0] rfl ?_
  exact b_X8_round_50 F hP hK hS N y1 y2 y3 y1 hf
set_option maxHeartbeats 4000000 in
set_option maxRecDepth 100000 in
theorem b_X8_round_19 {l : Launch} {D : va_G} {cy : Nat → ClassId} {g : Gs} {p : Program} {e : Env} {s : State} {m : MethodId} {args : Array Value} {below : List Frame} {meth : Method} {c : Code} {aM : Nat → Nat} {σM : St2 × (Nat → Int64)} {N : Nat} {out : Int32} (F : Fx p s m args meth c cX8_round RX8 5 (some .int)) (hP : va_P D vwCl (wM aM cy σM) s.heap) (hK : va_K D vwCl (tys cy) s) (hS : St g nA s s.heap) :
    ∀ (n : Nat) (y1 : Int32) (y2 : Int32) (y3 : Int32), f_X8_round_19 N n σM y1 y2 y3 = some out → J p l e { frames := 2, cells := 0, slots := 0, locals := 45 } s m args below meth c 5 (hR s) 0 0 (MQ below (QR (some (.int out))) args s 0 0 nA) 19 [(0, .ref (aM 0)), (1, .int y1), (2, .int y2), (3, .int y3)] [] := by
  intro n
  induction n with
  | zero =>
    intro y1 y2 y3 hf
    cases hf
  | succ n ih =>
    intro y1 y2 y3 hf
    rw [f_X8_round_19] at hf
    refine j_iload_n (pc := 19) F 3 dX8_round_19 rfl rfl ?_
    refine j_sipush (pc := 20) F (v := 446) dX8_round_20 rfl ?_
    refine j_icmp_lt (pc := 23) (tgt := 47) F dX8_round_23 rfl (fun c_1 => ?_) (fun c_1 => ?_)
    · have hf := of_pos c_1 hf
      exact b_X8_round_47 F hP hK hS y1 y2 y3 hf
    · have hf := of_neg c_1 hf
      refine j_aload_n (pc := 26) F 0 dX8_round_26 rfl rfl ?_
      refine j_iload_n (pc := 27) F 3 dX8_round_27 rfl rfl ?_
      refine j_sipush (pc := 28) F (v := 446) dX8_round_28 rfl ?_
      refine j_isub (pc := 31) F dX8_round_31 ?_
      refine j_callRV (pc := 32) (st := []) (st1 := [.int (f_X8_sortOf σM (y3 - 446))]) F hK (hpR hP hS hp_id) (c_X8_sortOf (l := l) (D := D) (cy := cy) (g := g) (aM := aM) (rfl : f_X8_sortOf σM (y3 - 446) = _)) tm_1020 cf_X8_sortOf (Nat.le_of_ble_eq_true rfl) (Nat.le_of_ble_eq_true rfl) ⟨Nat.zero_le _, Nat.zero_le _⟩ 0 rfl rfl rfl rfl rfl (Nat.le_of_ble_eq_true rfl) rfl dX8_round_32 ?_
      refine j_if_eq (pc := 35) (tgt := 47) F dX8_round_35 rfl (fun c_3 => ?_) (fun c_3 => ?_)
      · have hf := of_pos c_3 hf
        exact b_X8_round_47 F hP hK hS y1 y2 y3 hf
      · have hf := of_neg c_3 hf
        refine j_iincW (pc := 38) (v := y3 + (-446)) (lv' := [(3, .int (y3 + (-446))), (0, .ref (aM 0)), (1, .int y1), (2, .int y2)]) F 3 dX8_round_38 rfl rfl (by decide) rfl ?_
        refine j_goto (pc := 44) F (tgt := 19) dX8_round_44 rfl ?_
        refine j_sub [1, 2, 3, 0] rfl ?_
        exact ih y1 y2 (y3 + (-446)) hf
set_option maxHeartbeats 4000000 in
set_option maxRecDepth 100000 in
theorem c_X8_round {l : Launch} {D : va_G} {cy : Nat → ClassId} {g : Gs} {aM : Nat → Nat} {σM : St2 × (Nat → Int64)} {N : Nat} {x1 : Int32} {x2 : Int32} {out : Int32} (hf : f_X8_round N σM x1 x2 = some out) : CR l D cy g yX8_round cX8_round 5 (some .int) 2 45 (wM aM cy σM) [.ref (aM 0), .int x1, .int x2] (some (.int out)) := by
  unfold f_X8_round at hf
  refine met_R (lv := [(0, .ref (aM 0)), (1, .int x1), (2, .int x2)]) (by decide) (Nat.le_of_ble_eq_true rfl) rfl ?_
  intro p e s m args below meth c F hP hK hS
  refine j_iload_n (pc := 0) F 1 dX8_round_0 rfl rfl ?_
  refine j_callRS (pc := 1) (st := []) (st1 := [.int (bI (f_X8_isMoon x1))]) F hK (hpR hP hS hp_nil) (c_X8_isMoon (l := l) (D := D) (cy := cy) (g := g) (rfl : f_X8_isMoon x1 = _)) tm_980 cf_X8_isMoon (Nat.le_of_ble_eq_true rfl) (Nat.le_of_ble_eq_true rfl) ⟨Nat.zero_le _, Nat.zero_le _⟩ rfl rfl (Nat.le_of_ble_eq_true rfl) rfl dX8_round_1 ?_
  refine j_if_eq (pc := 4) (tgt := 15) F dX8_round_4 rfl (fun c_2 => ?_) (fun c_2 => ?_)
  · have hf := of_pos c_2 hf
    refine j_iconst (pc := 15) F (v := (-1)) dX8_round_15 rfl ?_
    exact j_iretR (pc := 16) F dX8_round_16 (Option.some.inj hf)
  · have hf := of_neg c_2 hf
    refine j_aload_n (pc := 7) F 0 dX8_round_7 rfl rfl ?_
    refine j_iload_n (pc := 8) F 1 dX8_round_8 rfl rfl ?_
    refine j_callRV (pc := 9) (st := []) (st1 := [.int (f_X8_sortOf σM x1)]) F hK (hpR hP hS hp_id) (c_X8_sortOf (l := l) (D := D) (cy := cy) (g := g) (aM := aM) (rfl : f_X8_sortOf σM x1 = _)) tm_1020 cf_X8_sortOf (Nat.le_of_ble_eq_true rfl) (Nat.le_of_ble_eq_true rfl) ⟨Nat.zero_le _, Nat.zero_le _⟩ 0 rfl rfl rfl rfl rfl (Nat.le_of_ble_eq_true rfl) rfl dX8_round_9 ?_
    refine j_if_ne (pc := 12) (tgt := 17) F dX8_round_12 rfl (fun c_4 => ?_) (fun c_4 => ?_)
    · have hf := of_neg c_4 hf
      refine j_iload_n (pc := 17) F 1 dX8_round_17 rfl rfl ?_
      refine j_istore_n (pc := 18) (lv' := [(3, .int x1), (0, .ref (aM 0)), (1, .int x1), (2, .int x2)]) F dX8_round_18 rfl (by decide) rfl ?_
      refine j_sub [1, 2, 3, 0] rfl ?_
      exact b_X8_round_19 F hP hK hS N x1 x2 x1 hf
    · have hf := of_pos c_4 hf
      refine j_iconst (pc := 15) F (v := (-1)) dX8_round_15 rfl ?_
      exact j_iretR (pc := 16) F dX8_round_16 (Option.some.inj hf)
theorem cf_X8_round : cfV yX8_round cX8_round 5 (some .int) 2 := ⟨tm_1037, tm_1038, tm_60, tm_1039, by decide, by decide, by decide +kernel⟩

def f_X8_monthDays (σM : St2 × (Nat → Int64)) (x1 : Int32) (x2 : Int32) (x3 : Int32) : Option (Int32) := if x3 < 1 then some 0 else if x3 ≤ 13 then if x1 = 0 then if x3 = 13 then some 5 else some 30 else if x1 = 1 then if x3 = 13 then some 0 else if x3 = 2 then if (bI (f_X8_isLong x1 x2)) = 0 then if (x3 - 1) < 0 ∨ 12 ≤ Int32.toNatClampNeg (x3 - 1) then none else some (σM.1 10 (Int32.toNatClampNeg (x3 - 1))) else some 29 else if (x3 - 1) < 0 ∨ 12 ≤ Int32.toNatClampNeg (x3 - 1) then none else some (σM.1 10 (Int32.toNatClampNeg (x3 - 1))) else if x3 = 13 then if (bI (f_X8_isLong x1 x2)) = 0 then some 0 else some 30 else if (x3 - x3 / 2 * 2) = 1 then some 30 else some 29 else some 0
set_option maxHeartbeats 4000000 in
set_option maxRecDepth 100000 in
theorem c_X8_monthDays {l : Launch} {D : va_G} {cy : Nat → ClassId} {g : Gs} {aM : Nat → Nat} {σM : St2 × (Nat → Int64)} {x1 : Int32} {x2 : Int32} {x3 : Int32} {out : Int32} (hf : f_X8_monthDays σM x1 x2 x3 = some out) : CR l D cy g yX8_monthDays cX8_monthDays 4 (some .int) 1 21 (wM aM cy σM) [.ref (aM 0), .int x1, .int x2, .int x3] (some (.int out)) := by
  unfold f_X8_monthDays at hf
  refine met_R (lv := [(0, .ref (aM 0)), (1, .int x1), (2, .int x2), (3, .int x3)]) (by decide) (Nat.le_of_ble_eq_true rfl) rfl ?_
  intro p e s m args below meth c F hP hK hS
  refine j_iload_n (pc := 0) F 3 dX8_monthDays_0 rfl rfl ?_
  refine j_iconst (pc := 1) F (v := 1) dX8_monthDays_1 rfl ?_
  refine j_icmp_lt (pc := 2) (tgt := 11) F dX8_monthDays_2 rfl (fun c_1 => ?_) (fun c_1 => ?_)
  · have hf := of_pos c_1 hf
    refine j_iconst (pc := 11) F (v := 0) dX8_monthDays_11 rfl ?_
    exact j_iretR (pc := 12) F dX8_monthDays_12 (Option.some.inj hf)
  · have hf := of_neg c_1 hf
    refine j_iload_n (pc := 5) F 3 dX8_monthDays_5 rfl rfl ?_
    refine j_bipush (pc := 6) F (v := 13) dX8_monthDays_6 rfl ?_
    refine j_icmp_le (pc := 8) (tgt := 13) F dX8_monthDays_8 rfl (fun c_2 => ?_) (fun c_2 => ?_)
    · have hf := of_pos c_2 hf
      refine j_iload_n (pc := 13) F 1 dX8_monthDays_13 rfl rfl ?_
      refine j_if_ne (pc := 14) (tgt := 30) F dX8_monthDays_14 rfl (fun c_3 => ?_) (fun c_3 => ?_)
      · have hf := of_neg c_3 hf
        refine j_iload_n (pc := 30) F 1 dX8_monthDays_30 rfl rfl ?_
        refine j_iconst (pc := 31) F (v := 1) dX8_monthDays_31 rfl ?_
        refine j_icmp_ne (pc := 32) (tgt := 72) F dX8_monthDays_32 rfl (fun c_4 => ?_) (fun c_4 => ?_)
        · have hf := of_neg c_4 hf
          refine j_iload_n (pc := 72) F 3 dX8_monthDays_72 rfl rfl ?_
          refine j_bipush (pc := 73) F (v := 13) dX8_monthDays_73 rfl ?_
          refine j_icmp_ne (pc := 75) (tgt := 95) F dX8_monthDays_75 rfl (fun c_5 => ?_) (fun c_5 => ?_)
          · have hf := of_neg c_5 hf
            refine j_iload_n (pc := 95) F 3 dX8_monthDays_95 rfl rfl ?_
            refine j_iconst (pc := 96) F (v := 2) dX8_monthDays_96 rfl ?_
            refine j_irem (pc := 97) F dX8_monthDays_97 (by decide) ?_
            refine j_iconst (pc := 98) F (v := 1) dX8_monthDays_98 rfl ?_
            refine j_icmp_ne (pc := 99) (tgt := 107) F dX8_monthDays_99 rfl (fun c_6 => ?_) (fun c_6 => ?_)
            · have hf := of_neg c_6 hf
              refine j_bipush (pc := 107) F (v := 29) dX8_monthDays_107 rfl ?_
              exact j_iretR (pc := 109) F dX8_monthDays_109 (Option.some.inj hf)
            · have hf := of_pos c_6 hf
              refine j_bipush (pc := 102) F (v := 30) dX8_monthDays_102 rfl ?_
              refine j_goto (pc := 104) F (tgt := 109) dX8_monthDays_104 rfl ?_
              exact j_iretR (pc := 109) F dX8_monthDays_109 (Option.some.inj hf)
          · have hf := of_pos c_5 hf
            refine j_iload_n (pc := 78) F 1 dX8_monthDays_78 rfl rfl ?_
            refine j_iload_n (pc := 79) F 2 dX8_monthDays_79 rfl rfl ?_
            refine j_callRS (pc := 80) (st := []) (st1 := [.int (bI (f_X8_isLong x1 x2))]) F hK (hpR hP hS hp_nil) (c_X8_isLong (l := l) (D := D) (cy := cy) (g := g) (rfl : f_X8_isLong x1 x2 = _)) tm_1052 cf_X8_isLong (Nat.le_of_ble_eq_true rfl) (Nat.le_of_ble_eq_true rfl) ⟨Nat.zero_le _, Nat.zero_le _⟩ rfl rfl (Nat.le_of_ble_eq_true rfl) rfl dX8_monthDays_80 ?_
            refine j_if_eq (pc := 83) (tgt := 91) F dX8_monthDays_83 rfl (fun c_8 => ?_) (fun c_8 => ?_)
            · have hf := of_pos c_8 hf
              refine j_iconst (pc := 91) F (v := 0) dX8_monthDays_91 rfl ?_
              refine j_goto (pc := 92) F (tgt := 109) dX8_monthDays_92 rfl ?_
              exact j_iretR (pc := 109) F dX8_monthDays_109 (Option.some.inj hf)
            · have hf := of_neg c_8 hf
              refine j_bipush (pc := 86) F (v := 30) dX8_monthDays_86 rfl ?_
              refine j_goto (pc := 88) F (tgt := 109) dX8_monthDays_88 rfl ?_
              exact j_iretR (pc := 109) F dX8_monthDays_109 (Option.some.inj hf)
        · have hf := of_pos c_4 hf
          refine j_iload_n (pc := 35) F 3 dX8_monthDays_35 rfl rfl ?_
          refine j_bipush (pc := 36) F (v := 13) dX8_monthDays_36 rfl ?_
          refine j_icmp_ne (pc := 38) (tgt := 45) F dX8_monthDays_38 rfl (fun c_9 => ?_) (fun c_9 => ?_)
          · have hf := of_neg c_9 hf
            refine j_iload_n (pc := 45) F 3 dX8_monthDays_45 rfl rfl ?_
            refine j_iconst (pc := 46) F (v := 2) dX8_monthDays_46 rfl ?_
            refine j_icmp_ne (pc := 47) (tgt := 63) F dX8_monthDays_47 rfl (fun c_10 => ?_) (fun c_10 => ?_)
            · have hf := of_neg c_10 hf
              refine j_aload_n (pc := 63) F 0 dX8_monthDays_63 rfl rfl ?_
              refine jr_get (pc := 64) (v := .ref (aM 10)) F hK hP ix_8 0 rfl rfl 9 (by decide) tm_824 rfl rfl dX8_monthDays_64 ?_
              refine j_iload_n (pc := 67) F 3 dX8_monthDays_67 rfl rfl ?_
              refine j_iconst (pc := 68) F (v := 1) dX8_monthDays_68 rfl ?_
              refine j_isub (pc := 69) F dX8_monthDays_69 ?_
              have c_11 : ¬ ((x3 - 1) < 0 ∨ 12 ≤ Int32.toNatClampNeg (x3 - 1)) := fun z => by rw [if_pos z] at hf; cases hf
              have hf := of_neg c_11 hf
              refine jr_iald (pc := 70) F hK hP 5 rfl c_11 dX8_monthDays_70 ?_
              exact j_iretR (pc := 71) F dX8_monthDays_71 (Option.some.inj hf)
            · have hf := of_pos c_10 hf
              refine j_iload_n (pc := 50) F 1 dX8_monthDays_50 rfl rfl ?_
              refine j_iload_n (pc := 51) F 2 dX8_monthDays_51 rfl rfl ?_
              refine j_callRS (pc := 52) (st := []) (st1 := [.int (bI (f_X8_isLong x1 x2))]) F hK (hpR hP hS hp_nil) (c_X8_isLong (l := l) (D := D) (cy := cy) (g := g) (rfl : f_X8_isLong x1 x2 = _)) tm_1052 cf_X8_isLong (Nat.le_of_ble_eq_true rfl) (Nat.le_of_ble_eq_true rfl) ⟨Nat.zero_le _, Nat.zero_le _⟩ rfl rfl (Nat.le_of_ble_eq_true rfl) rfl dX8_monthDays_52 ?_
              refine j_if_eq (pc := 55) (tgt := 63) F dX8_monthDays_55 rfl (fun c_13 => ?_) (fun c_13 => ?_)
              · have hf := of_pos c_13 hf
                refine j_aload_n (pc := 63) F 0 dX8_monthDays_63 rfl rfl ?_
                refine jr_get (pc := 64) (v := .ref (aM 10)) F hK hP ix_8 0 rfl rfl 9 (by decide) tm_824 rfl rfl dX8_monthDays_64 ?_
                refine j_iload_n (pc := 67) F 3 dX8_monthDays_67 rfl rfl ?_
                refine j_iconst (pc := 68) F (v := 1) dX8_monthDays_68 rfl ?_
                refine j_isub (pc := 69) F dX8_monthDays_69 ?_
                have c_14 : ¬ ((x3 - 1) < 0 ∨ 12 ≤ Int32.toNatClampNeg (x3 - 1)) := fun z => by rw [if_pos z] at hf; cases hf
                have hf := of_neg c_14 hf
                refine jr_iald (pc := 70) F hK hP 5 rfl c_14 dX8_monthDays_70 ?_
                exact j_iretR (pc := 71) F dX8_monthDays_71 (Option.some.inj hf)
              · have hf := of_neg c_13 hf
                refine j_bipush (pc := 58) F (v := 29) dX8_monthDays_58 rfl ?_
                refine j_goto (pc := 60) F (tgt := 71) dX8_monthDays_60 rfl ?_
                exact j_iretR (pc := 71) F dX8_monthDays_71 (Option.some.inj hf)
          · have hf := of_pos c_9 hf
            refine j_iconst (pc := 41) F (v := 0) dX8_monthDays_41 rfl ?_
            refine j_goto (pc := 42) F (tgt := 71) dX8_monthDays_42 rfl ?_
            exact j_iretR (pc := 71) F dX8_monthDays_71 (Option.some.inj hf)
      · have hf := of_pos c_3 hf
        refine j_iload_n (pc := 17) F 3 dX8_monthDays_17 rfl rfl ?_
        refine j_bipush (pc := 18) F (v := 13) dX8_monthDays_18 rfl ?_
        refine j_icmp_ne (pc := 20) (tgt := 27) F dX8_monthDays_20 rfl (fun c_15 => ?_) (fun c_15 => ?_)
        · have hf := of_neg c_15 hf
          refine j_bipush (pc := 27) F (v := 30) dX8_monthDays_27 rfl ?_
          exact j_iretR (pc := 29) F dX8_monthDays_29 (Option.some.inj hf)
        · have hf := of_pos c_15 hf
          refine j_iconst (pc := 23) F (v := 5) dX8_monthDays_23 rfl ?_
          refine j_goto (pc := 24) F (tgt := 29) dX8_monthDays_24 rfl ?_
          exact j_iretR (pc := 29) F dX8_monthDays_29 (Option.some.inj hf)
    · have hf := of_neg c_2 hf
      refine j_iconst (pc := 11) F (v := 0) dX8_monthDays_11 rfl ?_
      exact j_iretR (pc := 12) F dX8_monthDays_12 (Option.some.inj hf)
theorem cf_X8_monthDays : cfV yX8_monthDays cX8_monthDays 4 (some .int) 3 := ⟨tm_1057, tm_36, tm_60, tm_1058, by decide, by decide, by decide +kernel⟩

def f_X8_dates_106 (N : Nat) : Nat → (St2 × (Nat → Int64)) → Int32 → Int32 → Option ((St2 × (Nat → Int64)))
  | 0, _, _, _ => none
  | n + 1, σM, y2, y5 => (f_X8_monthDays σM y2 (σM.1 0 10) (σM.1 0 11)).bind fun o_1 => if y5 < o_1 then lt (y5 + 1 : Int32) fun z_3 => some (up2 σM.1 0 12 z_3, σM.2) else (f_X8_monthDays σM y2 (σM.1 0 10) (σM.1 0 11)).bind fun o_4 => lt ((σM.1 0 11) + 1 : Int32) fun z_5 => f_X8_dates_106 N n (up2 σM.1 0 11 z_5, σM.2) y2 (y5 - o_4)
def f_X8_dates_62 (N : Nat) : Nat → (St2 × (Nat → Int64)) → Int32 → Int32 → Option ((St2 × (Nat → Int64)))
  | 0, _, _, _ => none
  | n + 1, σM, y2, y5 => if y5 < (f_X8_yearDays y2 (σM.1 0 10)) then f_X8_dates_106 N N (up2 σM.1 0 11 1, σM.2) y2 y5 else lt ((σM.1 0 10) + 1 : Int32) fun z_4 => f_X8_dates_62 N n (up2 σM.1 0 10 z_4, σM.2) y2 (y5 - (f_X8_yearDays y2 (σM.1 0 10)))
def f_X8_dates_44 (N : Nat) (σM : St2 × (Nat → Int64)) (y1 : Int32) (y2 : Int32) (y3 : Int32) (t0 : Int32) : Option ((St2 × (Nat → Int64))) := if t0 = 0 then none else lt ((y1 / t0) * y3 : Int32) fun z_2 => if t0 = 0 then none else f_X8_dates_62 N N (up2 σM.1 0 10 z_2, σM.2) y2 (y1 - y1 / t0 * t0)
def f_X8_dates_19 (N : Nat) (σM : St2 × (Nat → Int64)) (y1 : Int32) (y2 : Int32) (t0 : Int32) : Option ((St2 × (Nat → Int64))) := if y2 = 0 then f_X8_dates_44 N σM y1 y2 t0 365 else if y2 = 1 then f_X8_dates_44 N σM y1 y2 t0 1461 else f_X8_dates_44 N σM y1 y2 t0 6936
def f_X8_dates (N : Nat) (σM : St2 × (Nat → Int64)) (x1 : Int32) (x2 : Int32) : Option ((St2 × (Nat → Int64))) := if x2 = 0 then f_X8_dates_19 N σM x1 x2 1 else if x2 = 1 then f_X8_dates_19 N σM x1 x2 4 else f_X8_dates_19 N σM x1 x2 19
set_option maxHeartbeats 4000000 in
set_option maxRecDepth 100000 in
theorem b_X8_dates_106 {l : Launch} {D : va_G} {cy : Nat → ClassId} {g : Gs} {p : Program} {e : Env} {s : State} {m : MethodId} {args : Array Value} {below : List Frame} {meth : Method} {c : Code} {A : Nat → Prop} {aM : Nat → Nat} {N : Nat} {out : (St2 × (Nat → Int64))} (F : Fx p s m args meth c cX8_dates RX8 6 none) (hK : va_K D vwCl (tys cy) s) (hS : St g A s s.heap) (hA : ∀ q, s.heap.size ≤ q → A q) :
    ∀ (n : Nat) (σM : St2 × (Nat → Int64)) (y2 : Int32) (y5 : Int32), f_X8_dates_106 N n σM y2 y5 = some out → J p l e { frames := 2, cells := 0, slots := 0, locals := 44 } s m args below meth c 6 (hW D A s (wM aM cy σM)) 0 0 (MQ below (QW D A none (wM aM cy out)) args s 0 0 A) 106 [(0, .ref (aM 0)), (2, .int y2), (5, .int y5)] [] := by
  intro n
  induction n with
  | zero =>
    intro σM y2 y5 hf
    cases hf
  | succ n ih =>
    intro σM y2 y5 hf
    rw [f_X8_dates_106] at hf
    refine j_iload (pc := 106) F 2 dX8_dates_106 rfl ?_
    refine j_aload_n (pc := 108) F 0 dX8_dates_108 rfl rfl ?_
    refine j_iload_n (pc := 109) F 1 dX8_dates_109 rfl rfl ?_
    refine j_aload_n (pc := 110) F 0 dX8_dates_110 rfl rfl ?_
    refine jw_get (pc := 111) (v := .int (σM.1 0 10)) F hK ix_8 0 rfl rfl 10 (by decide) tm_825 rfl rfl dX8_dates_111 ?_
    refine j_aload_n (pc := 114) F 0 dX8_dates_114 rfl rfl ?_
    refine jw_get (pc := 115) (v := .int (σM.1 0 11)) F hK ix_8 0 rfl rfl 11 (by decide) tm_826 rfl rfl dX8_dates_115 ?_
    obtain ⟨o_1, ho_1, hf⟩ := of_bnd hf
    refine j_callRV (pc := 118) (st := [.int y5]) (st1 := [.int o_1, .int y5]) F hK (hpW hS hp_id) (c_X8_monthDays (l := l) (D := D) (cy := cy) (g := g) (aM := aM) ho_1) tm_1055 cf_X8_monthDays (Nat.le_of_ble_eq_true rfl) (Nat.le_of_ble_eq_true rfl) ⟨Nat.zero_le _, Nat.zero_le _⟩ 0 rfl rfl rfl rfl rfl (Nat.le_of_ble_eq_true rfl) rfl dX8_dates_118 ?_
    refine j_icmp_lt (pc := 121) (tgt := 155) F dX8_dates_121 rfl (fun c_2 => ?_) (fun c_2 => ?_)
    · have hf := of_pos c_2 hf
      refine j_aload_n (pc := 155) F 0 dX8_dates_155 rfl rfl ?_
      refine j_iload (pc := 156) F 2 dX8_dates_156 rfl ?_
      refine j_iconst (pc := 158) F (v := 1) dX8_dates_158 rfl ?_
      refine j_iadd (pc := 159) F dX8_dates_159 ?_
      obtain ⟨z_3, ez_3, hf⟩ := of_lt hf
      refine j_topi ez_3 ?_
      refine jw_put (pc := 160) (w' := wM aM cy (up2 σM.1 0 12 z_3, σM.2)) F hK ix_8 tyX8 tyX8_ok nmX8 0 rfl rfl 12 (by decide) tm_827 rfl rfl rfl rfl rfl (Nat.le_of_ble_eq_true rfl) (wM_put_12 _ _ _ _) dX8_dates_160 ?_
      have hf := (Option.some.inj hf)
      subst hf
      exact j_vretW (pc := 163) F dX8_dates_163 rfl
    · have hf := of_neg c_2 hf
      refine j_iload (pc := 124) F 2 dX8_dates_124 rfl ?_
      refine j_aload_n (pc := 126) F 0 dX8_dates_126 rfl rfl ?_
      refine j_iload_n (pc := 127) F 1 dX8_dates_127 rfl rfl ?_
      refine j_aload_n (pc := 128) F 0 dX8_dates_128 rfl rfl ?_
      refine jw_get (pc := 129) (v := .int (σM.1 0 10)) F hK ix_8 0 rfl rfl 10 (by decide) tm_825 rfl rfl dX8_dates_129 ?_
      refine j_aload_n (pc := 132) F 0 dX8_dates_132 rfl rfl ?_
      refine jw_get (pc := 133) (v := .int (σM.1 0 11)) F hK ix_8 0 rfl rfl 11 (by decide) tm_826 rfl rfl dX8_dates_133 ?_
      obtain ⟨o_4, ho_4, hf⟩ := of_bnd hf
      refine j_callRV (pc := 136) (st := [.int y5]) (st1 := [.int o_4, .int y5]) F hK (hpW hS hp_id) (c_X8_monthDays (l := l) (D := D) (cy := cy) (g := g) (aM := aM) ho_4) tm_1055 cf_X8_monthDays (Nat.le_of_ble_eq_true rfl) (Nat.le_of_ble_eq_true rfl) ⟨Nat.zero_le _, Nat.zero_le _⟩ 0 rfl rfl rfl rfl rfl (Nat.le_of_ble_eq_true rfl) rfl dX8_dates_136 ?_
      refine j_isub (pc := 139) F dX8_dates_139 ?_
      refine j_istore (pc := 140) (lv' := [(5, .int (y5 - o_4)), (0, .ref (aM 0)), (2, .int y2)]) F dX8_dates_140 (by decide) rfl ?_
      refine j_aload_n (pc := 142) F 1 dX8_dates_142 rfl rfl ?_
      refine j_dup (pc := 143) F dX8_dates_143 rfl ?_
      refine jw_get (pc := 144) (v := .int (σM.1 0 11)) F hK ix_8 0 rfl rfl 11 (by decide) tm_826 rfl rfl dX8_dates_144 ?_
      refine j_iconst (pc := 147) F (v := 1) dX8_dates_147 rfl ?_
      refine j_iadd (pc := 148) F dX8_dates_148 ?_
      obtain ⟨z_5, ez_5, hf⟩ := of_lt hf
      refine j_topi ez_5 ?_
      refine jw_put (pc := 149) (w' := wM aM cy (up2 σM.1 0 11 z_5, σM.2)) F hK ix_8 tyX8 tyX8_ok nmX8 0 rfl rfl 11 (by decide) tm_826 rfl rfl rfl rfl rfl (Nat.le_of_ble_eq_true rfl) (wM_put_11 _ _ _ _) dX8_dates_149 ?_
      refine j_goto (pc := 152) F (tgt := 106) dX8_dates_152 rfl ?_
      refine j_sub [1, 2, 0] rfl ?_
      exact ih (up2 σM.1 0 11 z_5, σM.2) y2 (y5 - o_4) hf
set_option maxHeartbeats 4000000 in
set_option maxRecDepth 100000 in
theorem b_X8_dates_62 {l : Launch} {D : va_G} {cy : Nat → ClassId} {g : Gs} {p : Program} {e : Env} {s : State} {m : MethodId} {args : Array Value} {below : List Frame} {meth : Method} {c : Code} {A : Nat → Prop} {aM : Nat → Nat} {N : Nat} {out : (St2 × (Nat → Int64))} (F : Fx p s m args meth c cX8_dates RX8 6 none) (hK : va_K D vwCl (tys cy) s) (hS : St g A s s.heap) (hA : ∀ q, s.heap.size ≤ q → A q) :
    ∀ (n : Nat) (σM : St2 × (Nat → Int64)) (y2 : Int32) (y5 : Int32), f_X8_dates_62 N n σM y2 y5 = some out → J p l e { frames := 2, cells := 0, slots := 0, locals := 44 } s m args below meth c 6 (hW D A s (wM aM cy σM)) 0 0 (MQ below (QW D A none (wM aM cy out)) args s 0 0 A) 62 [(0, .ref (aM 0)), (2, .int y2), (5, .int y5)] [] := by
  intro n
  induction n with
  | zero =>
    intro σM y2 y5 hf
    cases hf
  | succ n ih =>
    intro σM y2 y5 hf
    rw [f_X8_dates_62] at hf
    refine j_iload (pc := 62) F 2 dX8_dates_62 rfl ?_
    refine j_iload_n (pc := 64) F 1 dX8_dates_64 rfl rfl ?_
    refine j_aload_n (pc := 65) F 0 dX8_dates_65 rfl rfl ?_
    refine jw_get (pc := 66) (v := .int (σM.1 0 10)) F hK ix_8 0 rfl rfl 10 (by decide) tm_825 rfl rfl dX8_dates_66 ?_
    refine j_callRS (pc := 69) (st := [.int y5]) (st1 := [.int (f_X8_yearDays y2 (σM.1 0 10)), .int y5]) F hK (hpW hS hp_nil) (c_X8_yearDays (l := l) (D := D) (cy := cy) (g := g) (rfl : f_X8_yearDays y2 (σM.1 0 10) = _)) tm_1049 cf_X8_yearDays (Nat.le_of_ble_eq_true rfl) (Nat.le_of_ble_eq_true rfl) ⟨Nat.zero_le _, Nat.zero_le _⟩ rfl rfl (Nat.le_of_ble_eq_true rfl) rfl dX8_dates_69 ?_
    refine j_icmp_lt (pc := 72) (tgt := 101) F dX8_dates_72 rfl (fun c_2 => ?_) (fun c_2 => ?_)
    · have hf := of_pos c_2 hf
      refine j_aload_n (pc := 101) F 0 dX8_dates_101 rfl rfl ?_
      refine j_iconst (pc := 102) F (v := 1) dX8_dates_102 rfl ?_
      refine jw_put (pc := 103) (w' := wM aM cy (up2 σM.1 0 11 1, σM.2)) F hK ix_8 tyX8 tyX8_ok nmX8 0 rfl rfl 11 (by decide) tm_826 rfl rfl rfl rfl rfl (Nat.le_of_ble_eq_true rfl) (wM_put_11 _ _ _ _) dX8_dates_103 ?_
      exact b_X8_dates_106 F hK hS hA N (up2 σM.1 0 11 1, σM.2) y2 y5 hf
    · have hf := of_neg c_2 hf
      refine j_iload (pc := 75) F 2 dX8_dates_75 rfl ?_
      refine j_iload_n (pc := 77) F 1 dX8_dates_77 rfl rfl ?_
      refine j_aload_n (pc := 78) F 0 dX8_dates_78 rfl rfl ?_
      refine jw_get (pc := 79) (v := .int (σM.1 0 10)) F hK ix_8 0 rfl rfl 10 (by decide) tm_825 rfl rfl dX8_dates_79 ?_
      refine j_callRS (pc := 82) (st := [.int y5]) (st1 := [.int (f_X8_yearDays y2 (σM.1 0 10)), .int y5]) F hK (hpW hS hp_nil) (c_X8_yearDays (l := l) (D := D) (cy := cy) (g := g) (rfl : f_X8_yearDays y2 (σM.1 0 10) = _)) tm_1049 cf_X8_yearDays (Nat.le_of_ble_eq_true rfl) (Nat.le_of_ble_eq_true rfl) ⟨Nat.zero_le _, Nat.zero_le _⟩ rfl rfl (Nat.le_of_ble_eq_true rfl) rfl dX8_dates_82 ?_
      refine j_isub (pc := 85) F dX8_dates_85 ?_
      refine j_istore (pc := 86) (lv' := [(5, .int (y5 - (f_X8_yearDays y2 (σM.1 0 10)))), (0, .ref (aM 0)), (2, .int y2)]) F dX8_dates_86 (by decide) rfl ?_
      refine j_aload_n (pc := 88) F 1 dX8_dates_88 rfl rfl ?_
      refine j_dup (pc := 89) F dX8_dates_89 rfl ?_
      refine jw_get (pc := 90) (v := .int (σM.1 0 10)) F hK ix_8 0 rfl rfl 10 (by decide) tm_825 rfl rfl dX8_dates_90 ?_
      refine j_iconst (pc := 93) F (v := 1) dX8_dates_93 rfl ?_
      refine j_iadd (pc := 94) F dX8_dates_94 ?_
      obtain ⟨z_4, ez_4, hf⟩ := of_lt hf
      refine j_topi ez_4 ?_
      refine jw_put (pc := 95) (w' := wM aM cy (up2 σM.1 0 10 z_4, σM.2)) F hK ix_8 tyX8 tyX8_ok nmX8 0 rfl rfl 10 (by decide) tm_825 rfl rfl rfl rfl rfl (Nat.le_of_ble_eq_true rfl) (wM_put_10 _ _ _ _) dX8_dates_95 ?_
      refine j_goto (pc := 98) F (tgt := 62) dX8_dates_98 rfl ?_
      refine j_sub [1, 2, 0] rfl ?_
      exact ih (up2 σM.1 0 10 z_4, σM.2) y2 (y5 - (f_X8_yearDays y2 (σM.1 0 10))) hf
set_option maxHeartbeats 4000000 in
set_option maxRecDepth 100000 in
theorem b_X8_dates_44 {l : Launch} {D : va_G} {cy : Nat → ClassId} {g : Gs} {p : Program} {e : Env} {s : State} {m : MethodId} {args : Array Value} {below : List Frame} {meth : Method} {c : Code} {A : Nat → Prop} {aM : Nat → Nat} {N : Nat} {out : (St2 × (Nat → Int64))} (F : Fx p s m args meth c cX8_dates RX8 6 none) (hK : va_K D vwCl (tys cy) s) (hS : St g A s s.heap) (hA : ∀ q, s.heap.size ≤ q → A q) :
    ∀ (σM : St2 × (Nat → Int64)) (y1 : Int32) (y2 : Int32) (y3 : Int32) (t0 : Int32), f_X8_dates_44 N σM y1 y2 y3 t0 = some out → J p l e { frames := 2, cells := 0, slots := 0, locals := 44 } s m args below meth c 6 (hW D A s (wM aM cy σM)) 0 0 (MQ below (QW D A none (wM aM cy out)) args s 0 0 A) 44 [(0, .ref (aM 0)), (1, .int y1), (2, .int y2), (3, .int y3)] [.int t0] := by
  intro σM y1 y2 y3 t0 hf
  unfold f_X8_dates_44 at hf
  refine j_istore (pc := 44) (lv' := [(4, .int t0), (0, .ref (aM 0)), (1, .int y1), (2, .int y2), (3, .int y3)]) F dX8_dates_44 (by decide) rfl ?_
  refine j_aload_n (pc := 46) F 1 dX8_dates_46 rfl rfl ?_
  refine j_iload_n (pc := 47) F 2 dX8_dates_47 rfl rfl ?_
  refine j_iload (pc := 48) F 0 dX8_dates_48 rfl ?_
  have c_1 : ¬ t0 = 0 := fun z => by rw [if_pos z] at hf; cases hf
  have hf := of_neg c_1 hf
  refine j_idiv (pc := 50) F dX8_dates_50 c_1 ?_
  refine j_iload_n (pc := 51) F 4 dX8_dates_51 rfl rfl ?_
  refine j_imul (pc := 52) F dX8_dates_52 ?_
  obtain ⟨z_2, ez_2, hf⟩ := of_lt hf
  refine j_topi ez_2 ?_
  refine jw_put (pc := 53) (w' := wM aM cy (up2 σM.1 0 10 z_2, σM.2)) F hK ix_8 tyX8 tyX8_ok nmX8 0 rfl rfl 10 (by decide) tm_825 rfl rfl rfl rfl rfl (Nat.le_of_ble_eq_true rfl) (wM_put_10 _ _ _ _) dX8_dates_53 ?_
  refine j_iload_n (pc := 56) F 2 dX8_dates_56 rfl rfl ?_
  refine j_iload (pc := 57) F 0 dX8_dates_57 rfl ?_
  have c_3 : ¬ t0 = 0 := fun z => by rw [if_pos z] at hf; cases hf
  have hf := of_neg c_3 hf
  refine j_irem (pc := 59) F dX8_dates_59 c_3 ?_
  refine j_istore (pc := 60) (lv' := [(5, .int (y1 - y1 / t0 * t0)), (4, .int t0), (0, .ref (aM 0)), (1, .int y1), (2, .int y2), (3, .int y3)]) F dX8_dates_60 (by decide) rfl ?_
  refine j_sub [2, 4, 0] rfl ?_
  exact b_X8_dates_62 F hK hS hA N (up2 σM.1 0 10 z_2, σM.2) y2 (y1 - y1 / t0 * t0) hf
set_option maxHeartbeats 4000000 in
set_option maxRecDepth 100000 in
theorem b_X8_dates_19 {l : Launch} {D : va_G} {cy : Nat → ClassId} {g : Gs} {p : Program} {e : Env} {s : State} {m : MethodId} {args : Array Value} {below : List Frame} {meth : Method} {c : Code} {A : Nat → Prop} {aM : Nat → Nat} {N : Nat} {out : (St2 × (Nat → Int64))} (F : Fx p s m args meth c cX8_dates RX8 6 none) (hK : va_K D vwCl (tys cy) s) (hS : St g A s s.heap) (hA : ∀ q, s.heap.size ≤ q → A q) :
    ∀ (σM : St2 × (Nat → Int64)) (y1 : Int32) (y2 : Int32) (t0 : Int32), f_X8_dates_19 N σM y1 y2 t0 = some out → J p l e { frames := 2, cells := 0, slots := 0, locals := 44 } s m args below meth c 6 (hW D A s (wM aM cy σM)) 0 0 (MQ below (QW D A none (wM aM cy out)) args s 0 0 A) 19 [(0, .ref (aM 0)), (1, .int y1), (2, .int y2)] [.int t0] := by
  intro σM y1 y2 t0 hf
  unfold f_X8_dates_19 at hf
  refine j_istore_n (pc := 19) (lv' := [(3, .int t0), (0, .ref (aM 0)), (1, .int y1), (2, .int y2)]) F dX8_dates_19 rfl (by decide) rfl ?_
  refine j_iload_n (pc := 20) F 3 dX8_dates_20 rfl rfl ?_
  refine j_if_ne (pc := 21) (tgt := 30) F dX8_dates_21 rfl (fun c_1 => ?_) (fun c_1 => ?_)
  · have hf := of_neg c_1 hf
    refine j_iload_n (pc := 30) F 3 dX8_dates_30 rfl rfl ?_
    refine j_iconst (pc := 31) F (v := 1) dX8_dates_31 rfl ?_
    refine j_icmp_ne (pc := 32) (tgt := 41) F dX8_dates_32 rfl (fun c_2 => ?_) (fun c_2 => ?_)
    · have hf := of_neg c_2 hf
      refine j_sipush (pc := 41) F (v := 6936) dX8_dates_41 rfl ?_
      refine j_sub [1, 2, 3, 0] rfl ?_
      exact b_X8_dates_44 F hK hS hA σM y1 y2 t0 6936 hf
    · have hf := of_pos c_2 hf
      refine j_sipush (pc := 35) F (v := 1461) dX8_dates_35 rfl ?_
      refine j_goto (pc := 38) F (tgt := 44) dX8_dates_38 rfl ?_
      refine j_sub [1, 2, 3, 0] rfl ?_
      exact b_X8_dates_44 F hK hS hA σM y1 y2 t0 1461 hf
  · have hf := of_pos c_1 hf
    refine j_sipush (pc := 24) F (v := 365) dX8_dates_24 rfl ?_
    refine j_goto (pc := 27) F (tgt := 44) dX8_dates_27 rfl ?_
    refine j_sub [1, 2, 3, 0] rfl ?_
    exact b_X8_dates_44 F hK hS hA σM y1 y2 t0 365 hf
set_option maxHeartbeats 4000000 in
set_option maxRecDepth 100000 in
theorem c_X8_dates {l : Launch} {D : va_G} {cy : Nat → ClassId} {g : Gs} {aM : Nat → Nat} {σM : St2 × (Nat → Int64)} {N : Nat} {x1 : Int32} {x2 : Int32} {out : (St2 × (Nat → Int64))} (hf : f_X8_dates N σM x1 x2 = some out) : CW l D cy g yX8_dates cX8_dates 6 none 2 44 (wM aM cy σM) [.ref (aM 0), .int x1, .int x2] none (wM aM cy out) := by
  unfold f_X8_dates at hf
  refine met_W (lv := [(0, .ref (aM 0)), (1, .int x1), (2, .int x2)]) (by decide) (Nat.le_of_ble_eq_true rfl) rfl ?_
  intro p e s m args below meth c A F hK hS hA
  refine j_iload_n (pc := 0) F 2 dX8_dates_0 rfl rfl ?_
  refine j_if_ne (pc := 1) (tgt := 8) F dX8_dates_1 rfl (fun c_1 => ?_) (fun c_1 => ?_)
  · have hf := of_neg c_1 hf
    refine j_iload_n (pc := 8) F 2 dX8_dates_8 rfl rfl ?_
    refine j_iconst (pc := 9) F (v := 1) dX8_dates_9 rfl ?_
    refine j_icmp_ne (pc := 10) (tgt := 17) F dX8_dates_10 rfl (fun c_2 => ?_) (fun c_2 => ?_)
    · have hf := of_neg c_2 hf
      refine j_bipush (pc := 17) F (v := 19) dX8_dates_17 rfl ?_
      exact b_X8_dates_19 F hK hS hA σM x1 x2 19 hf
    · have hf := of_pos c_2 hf
      refine j_iconst (pc := 13) F (v := 4) dX8_dates_13 rfl ?_
      refine j_goto (pc := 14) F (tgt := 19) dX8_dates_14 rfl ?_
      exact b_X8_dates_19 F hK hS hA σM x1 x2 4 hf
  · have hf := of_pos c_1 hf
    refine j_iconst (pc := 4) F (v := 1) dX8_dates_4 rfl ?_
    refine j_goto (pc := 5) F (tgt := 19) dX8_dates_5 rfl ?_
    exact b_X8_dates_19 F hK hS hA σM x1 x2 1 hf
theorem cf_X8_dates : cfV yX8_dates cX8_dates 6 none 2 := ⟨tm_1047, tm_35, tm_60, tm_1048, by decide, by decide, by decide +kernel⟩

def f_X8_date (N : Nat) (σM : St2 × (Nat → Int64)) (x1 : Int32) (x2 : Int32) (x3 : Int32) : Option (Int32 × (St2 × (Nat → Int64))) := if (bI (f_X8_isIn x1 0 400000)) = 0 then some ((-1), σM) else if (bI (f_X8_isIn x2 0 2)) = 0 then some ((-1), σM) else (f_X8_dates N σM x1 x2).bind fun o_5 => if x3 = 0 then some (o_5.1 0 10, o_5) else if x3 = 1 then some (o_5.1 0 11, o_5) else if x3 = 2 then some (o_5.1 0 12, o_5) else some ((-1), o_5)
set_option maxHeartbeats 4000000 in
set_option maxRecDepth 100000 in
theorem c_X8_date {l : Launch} {D : va_G} {cy : Nat → ClassId} {g : Gs} {aM : Nat → Nat} {σM : St2 × (Nat → Int64)} {N : Nat} {x1 : Int32} {x2 : Int32} {x3 : Int32} {out : Int32 × (St2 × (Nat → Int64))} (hf : f_X8_date N σM x1 x2 x3 = some out) : CW l D cy g yX8_date cX8_date 4 (some .int) 3 69 (wM aM cy σM) [.ref (aM 0), .int x1, .int x2, .int x3] (some (.int out.1)) (wM aM cy out.2) := by
  unfold f_X8_date at hf
  refine met_W (lv := [(0, .ref (aM 0)), (1, .int x1), (2, .int x2), (3, .int x3)]) (by decide) (Nat.le_of_ble_eq_true rfl) rfl ?_
  intro p e s m args below meth c A F hK hS hA
  refine j_iload_n (pc := 0) F 1 dX8_date_0 rfl rfl ?_
  refine j_iconst (pc := 1) F (v := 0) dX8_date_1 rfl ?_
  refine j_ldc (pc := 2) F tm_1044 dX8_date_2 ?_
  refine j_callRS (pc := 4) (st := []) (st1 := [.int (bI (f_X8_isIn x1 0 400000))]) F hK (hpW hS hp_nil) (c_X8_isIn (l := l) (D := D) (cy := cy) (g := g) (rfl : f_X8_isIn x1 0 400000 = _)) tm_973 cf_X8_isIn (Nat.le_of_ble_eq_true rfl) (Nat.le_of_ble_eq_true rfl) ⟨Nat.zero_le _, Nat.zero_le _⟩ rfl rfl (Nat.le_of_ble_eq_true rfl) rfl dX8_date_4 ?_
  refine j_if_eq (pc := 7) (tgt := 19) F dX8_date_7 rfl (fun c_2 => ?_) (fun c_2 => ?_)
  · have hf := of_pos c_2 hf
    refine j_iconst (pc := 19) F (v := (-1)) dX8_date_19 rfl ?_
    have hf := (Option.some.inj hf)
    subst hf
    exact j_iretW (pc := 20) F dX8_date_20 rfl rfl
  · have hf := of_neg c_2 hf
    refine j_iload_n (pc := 10) F 2 dX8_date_10 rfl rfl ?_
    refine j_iconst (pc := 11) F (v := 0) dX8_date_11 rfl ?_
    refine j_iconst (pc := 12) F (v := 2) dX8_date_12 rfl ?_
    refine j_callRS (pc := 13) (st := []) (st1 := [.int (bI (f_X8_isIn x2 0 2))]) F hK (hpW hS hp_nil) (c_X8_isIn (l := l) (D := D) (cy := cy) (g := g) (rfl : f_X8_isIn x2 0 2 = _)) tm_973 cf_X8_isIn (Nat.le_of_ble_eq_true rfl) (Nat.le_of_ble_eq_true rfl) ⟨Nat.zero_le _, Nat.zero_le _⟩ rfl rfl (Nat.le_of_ble_eq_true rfl) rfl dX8_date_13 ?_
    refine j_if_ne (pc := 16) (tgt := 21) F dX8_date_16 rfl (fun c_4 => ?_) (fun c_4 => ?_)
    · have hf := of_neg c_4 hf
      refine j_aload_n (pc := 21) F 0 dX8_date_21 rfl rfl ?_
      refine j_iload_n (pc := 22) F 1 dX8_date_22 rfl rfl ?_
      refine j_iload_n (pc := 23) F 2 dX8_date_23 rfl rfl ?_
      obtain ⟨o_5, ho_5, hf⟩ := of_bnd hf
      refine j_callWs (pc := 24) (st := []) (st1 := []) (w' := wM aM cy o_5) F hK hS hA (c_X8_dates (l := l) (D := D) (cy := cy) (g := g) (aM := aM) ho_5) tm_1045 cf_X8_dates (Nat.le_of_ble_eq_true rfl) (Nat.le_of_ble_eq_true rfl) ⟨Nat.zero_le _, Nat.zero_le _⟩ 0 rfl rfl rfl rfl rfl (Nat.le_of_ble_eq_true rfl) rfl dX8_date_24 ?_
      refine j_iload_n (pc := 27) F 3 dX8_date_27 rfl rfl ?_
      refine j_if_ne (pc := 28) (tgt := 38) F dX8_date_28 rfl (fun c_6 => ?_) (fun c_6 => ?_)
      · have hf := of_neg c_6 hf
        refine j_iload_n (pc := 38) F 3 dX8_date_38 rfl rfl ?_
        refine j_iconst (pc := 39) F (v := 1) dX8_date_39 rfl ?_
        refine j_icmp_ne (pc := 40) (tgt := 50) F dX8_date_40 rfl (fun c_7 => ?_) (fun c_7 => ?_)
        · have hf := of_neg c_7 hf
          refine j_iload_n (pc := 50) F 3 dX8_date_50 rfl rfl ?_
          refine j_iconst (pc := 51) F (v := 2) dX8_date_51 rfl ?_
          refine j_icmp_ne (pc := 52) (tgt := 62) F dX8_date_52 rfl (fun c_8 => ?_) (fun c_8 => ?_)
          · have hf := of_neg c_8 hf
            refine j_iconst (pc := 62) F (v := (-1)) dX8_date_62 rfl ?_
            have hf := (Option.some.inj hf)
            subst hf
            exact j_iretW (pc := 63) F dX8_date_63 rfl rfl
          · have hf := of_pos c_8 hf
            refine j_aload_n (pc := 55) F 0 dX8_date_55 rfl rfl ?_
            refine jw_get (pc := 56) (v := .int (o_5.1 0 12)) F hK ix_8 0 rfl rfl 12 (by decide) tm_827 rfl rfl dX8_date_56 ?_
            refine j_goto (pc := 59) F (tgt := 63) dX8_date_59 rfl ?_
            have hf := (Option.some.inj hf)
            subst hf
            exact j_iretW (pc := 63) F dX8_date_63 rfl rfl
        · have hf := of_pos c_7 hf
          refine j_aload_n (pc := 43) F 0 dX8_date_43 rfl rfl ?_
          refine jw_get (pc := 44) (v := .int (o_5.1 0 11)) F hK ix_8 0 rfl rfl 11 (by decide) tm_826 rfl rfl dX8_date_44 ?_
          refine j_goto (pc := 47) F (tgt := 63) dX8_date_47 rfl ?_
          have hf := (Option.some.inj hf)
          subst hf
          exact j_iretW (pc := 63) F dX8_date_63 rfl rfl
      · have hf := of_pos c_6 hf
        refine j_aload_n (pc := 31) F 0 dX8_date_31 rfl rfl ?_
        refine jw_get (pc := 32) (v := .int (o_5.1 0 10)) F hK ix_8 0 rfl rfl 10 (by decide) tm_825 rfl rfl dX8_date_32 ?_
        refine j_goto (pc := 35) F (tgt := 63) dX8_date_35 rfl ?_
        have hf := (Option.some.inj hf)
        subst hf
        exact j_iretW (pc := 63) F dX8_date_63 rfl rfl
    · have hf := of_pos c_4 hf
      refine j_iconst (pc := 19) F (v := (-1)) dX8_date_19 rfl ?_
      have hf := (Option.some.inj hf)
      subst hf
      exact j_iretW (pc := 20) F dX8_date_20 rfl rfl
theorem cf_X8_date : cfV yX8_date cX8_date 4 (some .int) 3 := ⟨tm_1041, tm_1042, tm_60, tm_1043, by decide, by decide, by decide +kernel⟩

def f_X8_day_75 (N : Nat) : Nat → (St2 × (Nat → Int64)) → Int32 → Int32 → Int32 → Int32 → Int32 → Option (Int32)
  | 0, _, _, _, _, _, _ => none
  | n + 1, σM, y1, y2, y3, y5, y6 => if y3 ≤ y6 then some y5 else (f_X8_monthDays σM y1 y2 y6).bind fun o_2 => f_X8_day_75 N n σM y1 y2 y3 (y5 + o_2) (y6 + 1)
def f_X8_day_49 (N : Nat) : Nat → (St2 × (Nat → Int64)) → Int32 → Int32 → Int32 → Int32 → Int32 → Option (Int32)
  | 0, _, _, _, _, _, _ => none
  | n + 1, σM, y1, y2, y3, y5, y6 => if y2 ≤ y6 then f_X8_day_75 N N σM y1 y2 y3 y5 1 else f_X8_day_49 N n σM y1 y2 y3 (y5 + (f_X8_yearDays y1 y6)) (y6 + 1)
def f_X8_day (N : Nat) (σM : St2 × (Nat → Int64)) (x1 : Int32) (x2 : Int32) (x3 : Int32) (x4 : Int32) : Option (Int32) := if (bI (f_X8_isIn x1 0 2)) = 0 then some (-1) else if (bI (f_X8_isIn x2 0 1100)) = 0 then some (-1) else if x4 < 1 then some (-1) else (f_X8_monthDays σM x1 x2 x3).bind fun o_6 => if x4 ≤ o_6 then f_X8_day_49 N N σM x1 x2 x3 (x4 - 1) 0 else some (-1)
set_option maxHeartbeats 4000000 in
set_option maxRecDepth 100000 in
theorem b_X8_day_75 {l : Launch} {D : va_G} {cy : Nat → ClassId} {g : Gs} {p : Program} {e : Env} {s : State} {m : MethodId} {args : Array Value} {below : List Frame} {meth : Method} {c : Code} {aM : Nat → Nat} {σM : St2 × (Nat → Int64)} {N : Nat} {out : Int32} (F : Fx p s m args meth c cX8_day RX8 7 (some .int)) (hP : va_P D vwCl (wM aM cy σM) s.heap) (hK : va_K D vwCl (tys cy) s) (hS : St g nA s s.heap) :
    ∀ (n : Nat) (y1 : Int32) (y2 : Int32) (y3 : Int32) (y5 : Int32) (y6 : Int32), f_X8_day_75 N n σM y1 y2 y3 y5 y6 = some out → J p l e { frames := 2, cells := 0, slots := 0, locals := 44 } s m args below meth c 7 (hR s) 0 0 (MQ below (QR (some (.int out))) args s 0 0 nA) 75 [(0, .ref (aM 0)), (1, .int y1), (2, .int y2), (3, .int y3), (5, .int y5), (6, .int y6)] [] := by
  intro n
  induction n with
  | zero =>
    intro y1 y2 y3 y5 y6 hf
    cases hf
  | succ n ih =>
    intro y1 y2 y3 y5 y6 hf
    rw [f_X8_day_75] at hf
    refine j_iload (pc := 75) F 5 dX8_day_75 rfl ?_
    refine j_iload_n (pc := 77) F 3 dX8_day_77 rfl rfl ?_
    refine j_icmp_ge (pc := 78) (tgt := 100) F dX8_day_78 rfl (fun c_1 => ?_) (fun c_1 => ?_)
    · have hf := of_pos c_1 hf
      refine j_iload (pc := 100) F 4 dX8_day_100 rfl ?_
      exact j_iretR (pc := 102) F dX8_day_102 (Option.some.inj hf)
    · have hf := of_neg c_1 hf
      refine j_iload (pc := 81) F 4 dX8_day_81 rfl ?_
      refine j_aload_n (pc := 83) F 0 dX8_day_83 rfl rfl ?_
      refine j_iload_n (pc := 84) F 1 dX8_day_84 rfl rfl ?_
      refine j_iload_n (pc := 85) F 2 dX8_day_85 rfl rfl ?_
      refine j_iload (pc := 86) F 5 dX8_day_86 rfl ?_
      obtain ⟨o_2, ho_2, hf⟩ := of_bnd hf
      refine j_callRV (pc := 88) (st := [.int y5]) (st1 := [.int o_2, .int y5]) F hK (hpR hP hS hp_id) (c_X8_monthDays (l := l) (D := D) (cy := cy) (g := g) (aM := aM) ho_2) tm_1055 cf_X8_monthDays (Nat.le_of_ble_eq_true rfl) (Nat.le_of_ble_eq_true rfl) ⟨Nat.zero_le _, Nat.zero_le _⟩ 0 rfl rfl rfl rfl rfl (Nat.le_of_ble_eq_true rfl) rfl dX8_day_88 ?_
      refine j_iadd (pc := 91) F dX8_day_91 ?_
      refine j_istore (pc := 92) (lv' := [(5, .int (y5 + o_2)), (0, .ref (aM 0)), (1, .int y1), (2, .int y2), (3, .int y3), (6, .int y6)]) F dX8_day_92 (by decide) rfl ?_
      refine j_iinc (pc := 94) (v := y6 + 1) (lv' := [(6, .int (y6 + 1)), (5, .int (y5 + o_2)), (0, .ref (aM 0)), (1, .int y1), (2, .int y2), (3, .int y3)]) F 5 dX8_day_94 rfl rfl (by decide) rfl ?_
      refine j_goto (pc := 97) F (tgt := 75) dX8_day_97 rfl ?_
      refine j_sub [2, 3, 4, 5, 1, 0] rfl ?_
      exact ih y1 y2 y3 (y5 + o_2) (y6 + 1) hf
set_option maxHeartbeats 4000000 in
set_option maxRecDepth 100000 in
theorem b_X8_day_49 {l : Launch} {D : va_G} {cy : Nat → ClassId} {g : Gs} {p : Program} {e : Env} {s : State} {m : MethodId} {args : Array Value} {below : List Frame} {meth : Method} {c : Code} {aM : Nat → Nat} {σM : St2 × (Nat → Int64)} {N : Nat} {out : Int32} (F : Fx p s m args meth c cX8_day RX8 7 (some .int)) (hP : va_P D vwCl (wM aM cy σM) s.heap) (hK : va_K D vwCl (tys cy) s) (hS : St g nA s s.heap) :
    ∀ (n : Nat) (y1 : Int32) (y2 : Int32) (y3 : Int32) (y5 : Int32) (y6 : Int32), f_X8_day_49 N n σM y1 y2 y3 y5 y6 = some out → J p l e { frames := 2, cells := 0, slots := 0, locals := 44 } s m args below meth c 7 (hR s) 0 0 (MQ below (QR (some (.int out))) args s 0 0 nA) 49 [(0, .ref (aM 0)), (1, .int y1), (2, .int y2), (3, .int y3), (5, .int y5), (6, .int y6)] [] := by
  intro n
  induction n with
  | zero =>
    intro y1 y2 y3 y5 y6 hf
    cases hf
  | succ n ih =>
    intro y1 y2 y3 y5 y6 hf
    rw [f_X8_day_49] at hf
    refine j_iload (pc := 49) F 5 dX8_day_49 rfl ?_
    refine j_iload_n (pc := 51) F 2 dX8_day_51 rfl rfl ?_
    refine j_icmp_ge (pc := 52) (tgt := 72) F dX8_day_52 rfl (fun c_1 => ?_) (fun c_1 => ?_)
    · have hf := of_pos c_1 hf
      refine j_iconst (pc := 72) F (v := 1) dX8_day_72 rfl ?_
      refine j_istore (pc := 73) (lv' := [(6, .int 1), (0, .ref (aM 0)), (1, .int y1), (2, .int y2), (3, .int y3), (5, .int y5)]) F dX8_day_73 (by decide) rfl ?_
      refine j_sub [1, 2, 3, 4, 5, 0] rfl ?_
      exact b_X8_day_75 F hP hK hS N y1 y2 y3 y5 1 hf
    · have hf := of_neg c_1 hf
      refine j_iload (pc := 55) F 4 dX8_day_55 rfl ?_
      refine j_iload_n (pc := 57) F 1 dX8_day_57 rfl rfl ?_
      refine j_iload (pc := 58) F 5 dX8_day_58 rfl ?_
      refine j_callRS (pc := 60) (st := [.int y5]) (st1 := [.int (f_X8_yearDays y1 y6), .int y5]) F hK (hpR hP hS hp_nil) (c_X8_yearDays (l := l) (D := D) (cy := cy) (g := g) (rfl : f_X8_yearDays y1 y6 = _)) tm_1049 cf_X8_yearDays (Nat.le_of_ble_eq_true rfl) (Nat.le_of_ble_eq_true rfl) ⟨Nat.zero_le _, Nat.zero_le _⟩ rfl rfl (Nat.le_of_ble_eq_true rfl) rfl dX8_day_60 ?_
      refine j_iadd (pc := 63) F dX8_day_63 ?_
      refine j_istore (pc := 64) (lv' := [(5, .int (y5 + (f_X8_yearDays y1 y6))), (0, .ref (aM 0)), (1, .int y1), (2, .int y2), (3, .int y3), (6, .int y6)]) F dX8_day_64 (by decide) rfl ?_
      refine j_iinc (pc := 66) (v := y6 + 1) (lv' := [(6, .int (y6 + 1)), (5, .int (y5 + (f_X8_yearDays y1 y6))), (0, .ref (aM 0)), (1, .int y1), (2, .int y2), (3, .int y3)]) F 5 dX8_day_66 rfl rfl (by decide) rfl ?_
      refine j_goto (pc := 69) F (tgt := 49) dX8_day_69 rfl ?_
      refine j_sub [2, 3, 4, 5, 1, 0] rfl ?_
      exact ih y1 y2 y3 (y5 + (f_X8_yearDays y1 y6)) (y6 + 1) hf
set_option maxHeartbeats 4000000 in
set_option maxRecDepth 100000 in
theorem c_X8_day {l : Launch} {D : va_G} {cy : Nat → ClassId} {g : Gs} {aM : Nat → Nat} {σM : St2 × (Nat → Int64)} {N : Nat} {x1 : Int32} {x2 : Int32} {x3 : Int32} {x4 : Int32} {out : Int32} (hf : f_X8_day N σM x1 x2 x3 x4 = some out) : CR l D cy g yX8_day cX8_day 7 (some .int) 2 44 (wM aM cy σM) [.ref (aM 0), .int x1, .int x2, .int x3, .int x4] (some (.int out)) := by
  unfold f_X8_day at hf
  refine met_R (lv := [(0, .ref (aM 0)), (1, .int x1), (2, .int x2), (3, .int x3), (4, .int x4)]) (by decide) (Nat.le_of_ble_eq_true rfl) rfl ?_
  intro p e s m args below meth c F hP hK hS
  refine j_iload_n (pc := 0) F 1 dX8_day_0 rfl rfl ?_
  refine j_iconst (pc := 1) F (v := 0) dX8_day_1 rfl ?_
  refine j_iconst (pc := 2) F (v := 2) dX8_day_2 rfl ?_
  refine j_callRS (pc := 3) (st := []) (st1 := [.int (bI (f_X8_isIn x1 0 2))]) F hK (hpR hP hS hp_nil) (c_X8_isIn (l := l) (D := D) (cy := cy) (g := g) (rfl : f_X8_isIn x1 0 2 = _)) tm_973 cf_X8_isIn (Nat.le_of_ble_eq_true rfl) (Nat.le_of_ble_eq_true rfl) ⟨Nat.zero_le _, Nat.zero_le _⟩ rfl rfl (Nat.le_of_ble_eq_true rfl) rfl dX8_day_3 ?_
  refine j_if_eq (pc := 6) (tgt := 38) F dX8_day_6 rfl (fun c_2 => ?_) (fun c_2 => ?_)
  · have hf := of_pos c_2 hf
    refine j_iconst (pc := 38) F (v := (-1)) dX8_day_38 rfl ?_
    exact j_iretR (pc := 39) F dX8_day_39 (Option.some.inj hf)
  · have hf := of_neg c_2 hf
    refine j_iload_n (pc := 9) F 2 dX8_day_9 rfl rfl ?_
    refine j_iconst (pc := 10) F (v := 0) dX8_day_10 rfl ?_
    refine j_sipush (pc := 11) F (v := 1100) dX8_day_11 rfl ?_
    refine j_callRS (pc := 14) (st := []) (st1 := [.int (bI (f_X8_isIn x2 0 1100))]) F hK (hpR hP hS hp_nil) (c_X8_isIn (l := l) (D := D) (cy := cy) (g := g) (rfl : f_X8_isIn x2 0 1100 = _)) tm_973 cf_X8_isIn (Nat.le_of_ble_eq_true rfl) (Nat.le_of_ble_eq_true rfl) ⟨Nat.zero_le _, Nat.zero_le _⟩ rfl rfl (Nat.le_of_ble_eq_true rfl) rfl dX8_day_14 ?_
    refine j_if_eq (pc := 17) (tgt := 38) F dX8_day_17 rfl (fun c_4 => ?_) (fun c_4 => ?_)
    · have hf := of_pos c_4 hf
      refine j_iconst (pc := 38) F (v := (-1)) dX8_day_38 rfl ?_
      exact j_iretR (pc := 39) F dX8_day_39 (Option.some.inj hf)
    · have hf := of_neg c_4 hf
      refine j_iload (pc := 20) F 4 dX8_day_20 rfl ?_
      refine j_iconst (pc := 22) F (v := 1) dX8_day_22 rfl ?_
      refine j_icmp_lt (pc := 23) (tgt := 38) F dX8_day_23 rfl (fun c_5 => ?_) (fun c_5 => ?_)
      · have hf := of_pos c_5 hf
        refine j_iconst (pc := 38) F (v := (-1)) dX8_day_38 rfl ?_
        exact j_iretR (pc := 39) F dX8_day_39 (Option.some.inj hf)
      · have hf := of_neg c_5 hf
        refine j_iload (pc := 26) F 4 dX8_day_26 rfl ?_
        refine j_aload_n (pc := 28) F 0 dX8_day_28 rfl rfl ?_
        refine j_iload_n (pc := 29) F 1 dX8_day_29 rfl rfl ?_
        refine j_iload_n (pc := 30) F 2 dX8_day_30 rfl rfl ?_
        refine j_iload_n (pc := 31) F 3 dX8_day_31 rfl rfl ?_
        obtain ⟨o_6, ho_6, hf⟩ := of_bnd hf
        refine j_callRV (pc := 32) (st := [.int x4]) (st1 := [.int o_6, .int x4]) F hK (hpR hP hS hp_id) (c_X8_monthDays (l := l) (D := D) (cy := cy) (g := g) (aM := aM) ho_6) tm_1055 cf_X8_monthDays (Nat.le_of_ble_eq_true rfl) (Nat.le_of_ble_eq_true rfl) ⟨Nat.zero_le _, Nat.zero_le _⟩ 0 rfl rfl rfl rfl rfl (Nat.le_of_ble_eq_true rfl) rfl dX8_day_32 ?_
        refine j_icmp_le (pc := 35) (tgt := 40) F dX8_day_35 rfl (fun c_7 => ?_) (fun c_7 => ?_)
        · have hf := of_pos c_7 hf
          refine j_iload (pc := 40) F 4 dX8_day_40 rfl ?_
          refine j_iconst (pc := 42) F (v := 1) dX8_day_42 rfl ?_
          refine j_isub (pc := 43) F dX8_day_43 ?_
          refine j_istore (pc := 44) (lv' := [(5, .int (x4 - 1)), (0, .ref (aM 0)), (1, .int x1), (2, .int x2), (3, .int x3), (4, .int x4)]) F dX8_day_44 (by decide) rfl ?_
          refine j_iconst (pc := 46) F (v := 0) dX8_day_46 rfl ?_
          refine j_istore (pc := 47) (lv' := [(6, .int 0), (5, .int (x4 - 1)), (0, .ref (aM 0)), (1, .int x1), (2, .int x2), (3, .int x3), (4, .int x4)]) F dX8_day_47 (by decide) rfl ?_
          refine j_sub [2, 3, 4, 5, 1, 0] rfl ?_
          exact b_X8_day_49 F hP hK hS N x1 x2 x3 (x4 - 1) 0 hf
        · have hf := of_neg c_7 hf
          refine j_iconst (pc := 38) F (v := (-1)) dX8_day_38 rfl ?_
          exact j_iretR (pc := 39) F dX8_day_39 (Option.some.inj hf)
theorem cf_X8_day : cfV yX8_day cX8_day 7 (some .int) 4 := ⟨tm_1060, tm_1061, tm_60, tm_1062, by decide, by decide, by decide +kernel⟩

def f_X8_seen (σM : St2 × (Nat → Int64)) (x1 : Int32) (x2 : Int32) (x3 : Int32) : Option (Int32) := if (bI (f_X8_isMoon x1)) = 0 then some (-1000000) else if (bI (f_X8_isIn x2 (-720) 720)) = 0 then some (-1000000) else if (bI (f_X8_isIn x3 0 60)) = 0 then some (-1000000) else (f_X8_timeOf σM x1).bind fun o_7 => some (f_X8_seenAt o_7 x2 x3)
set_option maxHeartbeats 4000000 in
set_option maxRecDepth 100000 in
theorem c_X8_seen {l : Launch} {D : va_G} {cy : Nat → ClassId} {g : Gs} {aM : Nat → Nat} {σM : St2 × (Nat → Int64)} {x1 : Int32} {x2 : Int32} {x3 : Int32} {out : Int32} (hf : f_X8_seen σM x1 x2 x3 = some out) : CR l D cy g yX8_seen cX8_seen 4 (some .int) 3 66 (wM aM cy σM) [.ref (aM 0), .int x1, .int x2, .int x3] (some (.int out)) := by
  unfold f_X8_seen at hf
  refine met_R (lv := [(0, .ref (aM 0)), (1, .int x1), (2, .int x2), (3, .int x3)]) (by decide) (Nat.le_of_ble_eq_true rfl) rfl ?_
  intro p e s m args below meth c F hP hK hS
  refine j_iload_n (pc := 0) F 1 dX8_seen_0 rfl rfl ?_
  refine j_callRS (pc := 1) (st := []) (st1 := [.int (bI (f_X8_isMoon x1))]) F hK (hpR hP hS hp_nil) (c_X8_isMoon (l := l) (D := D) (cy := cy) (g := g) (rfl : f_X8_isMoon x1 = _)) tm_980 cf_X8_isMoon (Nat.le_of_ble_eq_true rfl) (Nat.le_of_ble_eq_true rfl) ⟨Nat.zero_le _, Nat.zero_le _⟩ rfl rfl (Nat.le_of_ble_eq_true rfl) rfl dX8_seen_1 ?_
  refine j_if_eq (pc := 4) (tgt := 43) F dX8_seen_4 rfl (fun c_2 => ?_) (fun c_2 => ?_)
  · have hf := of_pos c_2 hf
    refine j_ldc (pc := 43) F tm_1071 dX8_seen_43 ?_
    exact j_iretR (pc := 45) F dX8_seen_45 (Option.some.inj hf)
  · have hf := of_neg c_2 hf
    refine j_iload_n (pc := 7) F 2 dX8_seen_7 rfl rfl ?_
    refine j_sipush (pc := 8) F (v := (-720)) dX8_seen_8 rfl ?_
    refine j_sipush (pc := 11) F (v := 720) dX8_seen_11 rfl ?_
    refine j_callRS (pc := 14) (st := []) (st1 := [.int (bI (f_X8_isIn x2 (-720) 720))]) F hK (hpR hP hS hp_nil) (c_X8_isIn (l := l) (D := D) (cy := cy) (g := g) (rfl : f_X8_isIn x2 (-720) 720 = _)) tm_973 cf_X8_isIn (Nat.le_of_ble_eq_true rfl) (Nat.le_of_ble_eq_true rfl) ⟨Nat.zero_le _, Nat.zero_le _⟩ rfl rfl (Nat.le_of_ble_eq_true rfl) rfl dX8_seen_14 ?_
    refine j_if_eq (pc := 17) (tgt := 43) F dX8_seen_17 rfl (fun c_4 => ?_) (fun c_4 => ?_)
    · have hf := of_pos c_4 hf
      refine j_ldc (pc := 43) F tm_1071 dX8_seen_43 ?_
      exact j_iretR (pc := 45) F dX8_seen_45 (Option.some.inj hf)
    · have hf := of_neg c_4 hf
      refine j_iload_n (pc := 20) F 3 dX8_seen_20 rfl rfl ?_
      refine j_iconst (pc := 21) F (v := 0) dX8_seen_21 rfl ?_
      refine j_bipush (pc := 22) F (v := 60) dX8_seen_22 rfl ?_
      refine j_callRS (pc := 24) (st := []) (st1 := [.int (bI (f_X8_isIn x3 0 60))]) F hK (hpR hP hS hp_nil) (c_X8_isIn (l := l) (D := D) (cy := cy) (g := g) (rfl : f_X8_isIn x3 0 60 = _)) tm_973 cf_X8_isIn (Nat.le_of_ble_eq_true rfl) (Nat.le_of_ble_eq_true rfl) ⟨Nat.zero_le _, Nat.zero_le _⟩ rfl rfl (Nat.le_of_ble_eq_true rfl) rfl dX8_seen_24 ?_
      refine j_if_eq (pc := 27) (tgt := 43) F dX8_seen_27 rfl (fun c_6 => ?_) (fun c_6 => ?_)
      · have hf := of_pos c_6 hf
        refine j_ldc (pc := 43) F tm_1071 dX8_seen_43 ?_
        exact j_iretR (pc := 45) F dX8_seen_45 (Option.some.inj hf)
      · have hf := of_neg c_6 hf
        refine j_aload_n (pc := 30) F 0 dX8_seen_30 rfl rfl ?_
        refine j_iload_n (pc := 31) F 1 dX8_seen_31 rfl rfl ?_
        obtain ⟨o_7, ho_7, hf⟩ := of_bnd hf
        refine j_callRV (pc := 32) (st := []) (st1 := [.int o_7]) F hK (hpR hP hS hp_id) (c_X8_timeOf (l := l) (D := D) (cy := cy) (g := g) (aM := aM) ho_7) tm_1000 cf_X8_timeOf (Nat.le_of_ble_eq_true rfl) (Nat.le_of_ble_eq_true rfl) ⟨Nat.zero_le _, Nat.zero_le _⟩ 0 rfl rfl rfl rfl rfl (Nat.le_of_ble_eq_true rfl) rfl dX8_seen_32 ?_
        refine j_iload_n (pc := 35) F 2 dX8_seen_35 rfl rfl ?_
        refine j_iload_n (pc := 36) F 3 dX8_seen_36 rfl rfl ?_
        refine j_callRS (pc := 37) (st := []) (st1 := [.int (f_X8_seenAt o_7 x2 x3)]) F hK (hpR hP hS hp_nil) (c_X8_seenAt (l := l) (D := D) (cy := cy) (g := g) (rfl : f_X8_seenAt o_7 x2 x3 = _)) tm_1067 cf_X8_seenAt (Nat.le_of_ble_eq_true rfl) (Nat.le_of_ble_eq_true rfl) ⟨Nat.zero_le _, Nat.zero_le _⟩ rfl rfl (Nat.le_of_ble_eq_true rfl) rfl dX8_seen_37 ?_
        refine j_goto (pc := 40) F (tgt := 45) dX8_seen_40 rfl ?_
        exact j_iretR (pc := 45) F dX8_seen_45 (Option.some.inj hf)
theorem cf_X8_seen : cfV yX8_seen cX8_seen 4 (some .int) 3 := ⟨tm_1064, tm_1065, tm_60, tm_1066, by decide, by decide, by decide +kernel⟩

def f_X8_feed_71 (N : Nat) (K18 : (St2 × (Nat → Int64)) → Int32 → Int32 → Int32 → Int32 → Int32 → Int32 → Option (Int32 × (St2 × (Nat → Int64)))) (σM : St2 × (Nat → Int64)) (y1 : Int32) (y2 : Int32) (y3 : Int32) (y4 : Int32) (y5 : Int32) (y6 : Int32) (t0 : Int32) : Option (Int32 × (St2 × (Nat → Int64))) := lt ((t0 >>> ((8 * (3 - (y6 - y6 / 4 * 4))) &&& 31)) &&& 255 : Int32) fun z_1 => if (σM.1 0 14) < 0 ∨ 200 ≤ Int32.toNatClampNeg (σM.1 0 14) then none else lt ((σM.1 0 14) + 1 : Int32) fun z_3 => K18 (up2 (up2 σM.1 14 (Int32.toNatClampNeg (σM.1 0 14)) z_1) 0 14 z_3, σM.2) y1 y2 y3 y4 y5 (y6 + 1)
def f_X8_feed_18 (N : Nat) : Nat → (St2 × (Nat → Int64)) → Int32 → Int32 → Int32 → Int32 → Int32 → Int32 → Option (Int32 × (St2 × (Nat → Int64)))
  | 0, _, _, _, _, _, _, _ => none
  | n + 1, σM, y1, y2, y3, y4, y5, y6 => if 20 ≤ y6 then some (σM.1 0 14, σM) else if 4 ≤ y6 then if 8 ≤ y6 then if 12 ≤ y6 then if 16 ≤ y6 then f_X8_feed_71 N (f_X8_feed_18 N n) σM y1 y2 y3 y4 y5 y6 y5 else f_X8_feed_71 N (f_X8_feed_18 N n) σM y1 y2 y3 y4 y5 y6 y4 else f_X8_feed_71 N (f_X8_feed_18 N n) σM y1 y2 y3 y4 y5 y6 y3 else f_X8_feed_71 N (f_X8_feed_18 N n) σM y1 y2 y3 y4 y5 y6 y2 else f_X8_feed_71 N (f_X8_feed_18 N n) σM y1 y2 y3 y4 y5 y6 y1
def f_X8_feed (N : Nat) (σM : St2 × (Nat → Int64)) (x1 : Int32) (x2 : Int32) (x3 : Int32) (x4 : Int32) (x5 : Int32) : Option (Int32 × (St2 × (Nat → Int64))) := if ((σM.1 0 14) + 20) ≤ 200 then f_X8_feed_18 N N σM x1 x2 x3 x4 x5 0 else some ((-1), σM)
set_option maxHeartbeats 4000000 in
set_option maxRecDepth 100000 in
theorem b_X8_feed_71 {l : Launch} {D : va_G} {cy : Nat → ClassId} {g : Gs} {p : Program} {e : Env} {s : State} {m : MethodId} {args : Array Value} {below : List Frame} {meth : Method} {c : Code} {A : Nat → Prop} {aM : Nat → Nat} {N : Nat} {out : Int32 × (St2 × (Nat → Int64))} {K18 : (St2 × (Nat → Int64)) → Int32 → Int32 → Int32 → Int32 → Int32 → Int32 → Option (Int32 × (St2 × (Nat → Int64)))} (F : Fx p s m args meth c cX8_feed RX8 8 (some .int)) (hK : va_K D vwCl (tys cy) s) (hS : St g A s s.heap) (hA : ∀ q, s.heap.size ≤ q → A q) (hK18 : ∀ (σM : St2 × (Nat → Int64)) (y1 : Int32) (y2 : Int32) (y3 : Int32) (y4 : Int32) (y5 : Int32) (y6 : Int32), K18 σM y1 y2 y3 y4 y5 y6 = some out → J p l e { frames := 0, cells := 0, slots := 0, locals := 0 } s m args below meth c 8 (hW D A s (wM aM cy σM)) 0 0 (MQ below (QW D A (some (.int out.1)) (wM aM cy out.2)) args s 0 0 A) 18 [(0, .ref (aM 0)), (1, .int y1), (2, .int y2), (3, .int y3), (4, .int y4), (5, .int y5), (6, .int y6)] []) :
    ∀ (σM : St2 × (Nat → Int64)) (y1 : Int32) (y2 : Int32) (y3 : Int32) (y4 : Int32) (y5 : Int32) (y6 : Int32) (t0 : Int32), f_X8_feed_71 N K18 σM y1 y2 y3 y4 y5 y6 t0 = some out → J p l e { frames := 0, cells := 0, slots := 0, locals := 0 } s m args below meth c 8 (hW D A s (wM aM cy σM)) 0 0 (MQ below (QW D A (some (.int out.1)) (wM aM cy out.2)) args s 0 0 A) 71 [(0, .ref (aM 0)), (1, .int y1), (2, .int y2), (3, .int y3), (4, .int y4), (5, .int y5), (6, .int y6)] [.int t0] := by
  intro σM y1 y2 y3 y4 y5 y6 t0 hf
  unfold f_X8_feed_71 at hf
  refine j_istore (pc := 71) (lv' := [(7, .int t0), (0, .ref (aM 0)), (1, .int y1), (2, .int y2), (3, .int y3), (4, .int y4), (5, .int y5), (6, .int y6)]) F dX8_feed_71 (by decide) rfl ?_
  refine j_aload_n (pc := 73) F 1 dX8_feed_73 rfl rfl ?_
  refine jw_get (pc := 74) (v := .ref (aM 14)) F hK ix_8 0 rfl rfl 13 (by decide) tm_828 rfl rfl dX8_feed_74 ?_
  refine j_aload_n (pc := 77) F 1 dX8_feed_77 rfl rfl ?_
  refine jw_get (pc := 78) (v := .int (σM.1 0 14)) F hK ix_8 0 rfl rfl 14 (by decide) tm_829 rfl rfl dX8_feed_78 ?_
  refine j_iload (pc := 81) F 0 dX8_feed_81 rfl ?_
  refine j_bipush (pc := 83) F (v := 8) dX8_feed_83 rfl ?_
  refine j_iconst (pc := 85) F (v := 3) dX8_feed_85 rfl ?_
  refine j_iload (pc := 86) F 7 dX8_feed_86 rfl ?_
  refine j_iconst (pc := 88) F (v := 4) dX8_feed_88 rfl ?_
  refine j_irem (pc := 89) F dX8_feed_89 (by decide) ?_
  refine j_isub (pc := 90) F dX8_feed_90 ?_
  refine j_imul (pc := 91) F dX8_feed_91 ?_
  refine j_ishr (pc := 92) F dX8_feed_92 ?_
  refine j_sipush (pc := 93) F (v := 255) dX8_feed_93 rfl ?_
  refine j_iand (pc := 96) F dX8_feed_96 ?_
  obtain ⟨z_1, ez_1, hf⟩ := of_lt hf
  refine j_topi ez_1 ?_
  have c_2 : ¬ ((σM.1 0 14) < 0 ∨ 200 ≤ Int32.toNatClampNeg (σM.1 0 14)) := fun z => by rw [if_pos z] at hf; cases hf
  have hf := of_neg c_2 hf
  refine jw_iast (pc := 97) (w' := wM aM cy (up2 σM.1 14 (Int32.toNatClampNeg (σM.1 0 14)) z_1, σM.2)) F hK 6 rfl c_2 (wM_row_14 _ _ _ _ _) dX8_feed_97 ?_
  refine j_aload_n (pc := 98) F 1 dX8_feed_98 rfl rfl ?_
  refine j_dup (pc := 99) F dX8_feed_99 rfl ?_
  refine jw_get (pc := 100) (v := .int (σM.1 0 14)) F hK ix_8 0 rfl rfl 14 (by decide) tm_829 rfl rfl dX8_feed_100 ?_
  refine j_iconst (pc := 103) F (v := 1) dX8_feed_103 rfl ?_
  refine j_iadd (pc := 104) F dX8_feed_104 ?_
  obtain ⟨z_3, ez_3, hf⟩ := of_lt hf
  refine j_topi ez_3 ?_
  refine jw_put (pc := 105) (w' := wM aM cy (up2 (up2 σM.1 14 (Int32.toNatClampNeg (σM.1 0 14)) z_1) 0 14 z_3, σM.2)) F hK ix_8 tyX8 tyX8_ok nmX8 0 rfl rfl 14 (by decide) tm_829 rfl rfl rfl rfl rfl (Nat.le_of_ble_eq_true rfl) (wM_put_14 _ _ _ _) dX8_feed_105 ?_
  refine j_iinc (pc := 108) (v := y6 + 1) (lv' := [(6, .int (y6 + 1)), (7, .int t0), (0, .ref (aM 0)), (1, .int y1), (2, .int y2), (3, .int y3), (4, .int y4), (5, .int y5)]) F 7 dX8_feed_108 rfl rfl (by decide) rfl ?_
  refine j_goto (pc := 111) F (tgt := 18) dX8_feed_111 rfl ?_
  refine j_sub [2, 3, 4, 5, 6, 7, 0] rfl ?_
  exact hK18 (up2 (up2 σM.1 14 (Int32.toNatClampNeg (σM.1 0 14)) z_1) 0 14 z_3, σM.2) y1 y2 y3 y4 y5 (y6 + 1) hf
set_option maxHeartbeats 4000000 in
set_option maxRecDepth 100000 in
theorem b_X8_feed_18 {l : Launch} {D : va_G} {cy : Nat → ClassId} {g : Gs} {p : Program} {e : Env} {s : State} {m : MethodId} {args : Array Value} {below : List Frame} {meth : Method} {c : Code} {A : Nat → Prop} {aM : Nat → Nat} {N : Nat} {out : Int32 × (St2 × (Nat → Int64))} (F : Fx p s m args meth c cX8_feed RX8 8 (some .int)) (hK : va_K D vwCl (tys cy) s) (hS : St g A s s.heap) (hA : ∀ q, s.heap.size ≤ q → A q) :
    ∀ (n : Nat) (σM : St2 × (Nat → Int64)) (y1 : Int32) (y2 : Int32) (y3 : Int32) (y4 : Int32) (y5 : Int32) (y6 : Int32), f_X8_feed_18 N n σM y1 y2 y3 y4 y5 y6 = some out → J p l e { frames := 0, cells := 0, slots := 0, locals := 0 } s m args below meth c 8 (hW D A s (wM aM cy σM)) 0 0 (MQ below (QW D A (some (.int out.1)) (wM aM cy out.2)) args s 0 0 A) 18 [(0, .ref (aM 0)), (1, .int y1), (2, .int y2), (3, .int y3), (4, .int y4), (5, .int y5), (6, .int y6)] [] := by
  intro n
  induction n with
  | zero =>
    intro σM y1 y2 y3 y4 y5 y6 hf
    cases hf
  | succ n ih =>
    intro σM y1 y2 y3 y4 y5 y6 hf
    rw [f_X8_feed_18] at hf
    refine j_iload (pc := 18) F 6 dX8_feed_18 rfl ?_
    refine j_bipush (pc := 20) F (v := 20) dX8_feed_20 rfl ?_
    refine j_icmp_ge (pc := 22) (tgt := 114) F dX8_feed_22 rfl (fun c_1 => ?_) (fun c_1 => ?_)
    · have hf := of_pos c_1 hf
      refine j_aload_n (pc := 114) F 0 dX8_feed_114 rfl rfl ?_
      refine jw_get (pc := 115) (v := .int (σM.1 0 14)) F hK ix_8 0 rfl rfl 14 (by decide) tm_829 rfl rfl dX8_feed_115 ?_
      have hf := (Option.some.inj hf)
      subst hf
      exact j_iretW (pc := 118) F dX8_feed_118 rfl rfl
    · have hf := of_neg c_1 hf
      refine j_iload (pc := 25) F 6 dX8_feed_25 rfl ?_
      refine j_iconst (pc := 27) F (v := 4) dX8_feed_27 rfl ?_
      refine j_icmp_ge (pc := 28) (tgt := 35) F dX8_feed_28 rfl (fun c_2 => ?_) (fun c_2 => ?_)
      · have hf := of_pos c_2 hf
        refine j_iload (pc := 35) F 6 dX8_feed_35 rfl ?_
        refine j_bipush (pc := 37) F (v := 8) dX8_feed_37 rfl ?_
        refine j_icmp_ge (pc := 39) (tgt := 46) F dX8_feed_39 rfl (fun c_3 => ?_) (fun c_3 => ?_)
        · have hf := of_pos c_3 hf
          refine j_iload (pc := 46) F 6 dX8_feed_46 rfl ?_
          refine j_bipush (pc := 48) F (v := 12) dX8_feed_48 rfl ?_
          refine j_icmp_ge (pc := 50) (tgt := 57) F dX8_feed_50 rfl (fun c_4 => ?_) (fun c_4 => ?_)
          · have hf := of_pos c_4 hf
            refine j_iload (pc := 57) F 6 dX8_feed_57 rfl ?_
            refine j_bipush (pc := 59) F (v := 16) dX8_feed_59 rfl ?_
            refine j_icmp_ge (pc := 61) (tgt := 69) F dX8_feed_61 rfl (fun c_5 => ?_) (fun c_5 => ?_)
            · have hf := of_pos c_5 hf
              refine j_iload (pc := 69) F 5 dX8_feed_69 rfl ?_
              exact b_X8_feed_71 F hK hS hA ih σM y1 y2 y3 y4 y5 y6 y5 hf
            · have hf := of_neg c_5 hf
              refine j_iload (pc := 64) F 4 dX8_feed_64 rfl ?_
              refine j_goto (pc := 66) F (tgt := 71) dX8_feed_66 rfl ?_
              exact b_X8_feed_71 F hK hS hA ih σM y1 y2 y3 y4 y5 y6 y4 hf
          · have hf := of_neg c_4 hf
            refine j_iload_n (pc := 53) F 3 dX8_feed_53 rfl rfl ?_
            refine j_goto (pc := 54) F (tgt := 71) dX8_feed_54 rfl ?_
            exact b_X8_feed_71 F hK hS hA ih σM y1 y2 y3 y4 y5 y6 y3 hf
        · have hf := of_neg c_3 hf
          refine j_iload_n (pc := 42) F 2 dX8_feed_42 rfl rfl ?_
          refine j_goto (pc := 43) F (tgt := 71) dX8_feed_43 rfl ?_
          exact b_X8_feed_71 F hK hS hA ih σM y1 y2 y3 y4 y5 y6 y2 hf
      · have hf := of_neg c_2 hf
        refine j_iload_n (pc := 31) F 1 dX8_feed_31 rfl rfl ?_
        refine j_goto (pc := 32) F (tgt := 71) dX8_feed_32 rfl ?_
        exact b_X8_feed_71 F hK hS hA ih σM y1 y2 y3 y4 y5 y6 y1 hf
set_option maxHeartbeats 4000000 in
set_option maxRecDepth 100000 in
theorem c_X8_feed {l : Launch} {D : va_G} {cy : Nat → ClassId} {g : Gs} {aM : Nat → Nat} {σM : St2 × (Nat → Int64)} {N : Nat} {x1 : Int32} {x2 : Int32} {x3 : Int32} {x4 : Int32} {x5 : Int32} {out : Int32 × (St2 × (Nat → Int64))} (hf : f_X8_feed N σM x1 x2 x3 x4 x5 = some out) : CW l D cy g yX8_feed cX8_feed 8 (some .int) 0 0 (wM aM cy σM) [.ref (aM 0), .int x1, .int x2, .int x3, .int x4, .int x5] (some (.int out.1)) (wM aM cy out.2) := by
  unfold f_X8_feed at hf
  refine met_W (lv := [(0, .ref (aM 0)), (1, .int x1), (2, .int x2), (3, .int x3), (4, .int x4), (5, .int x5)]) (by decide) (Nat.le_of_ble_eq_true rfl) rfl ?_
  intro p e s m args below meth c A F hK hS hA
  refine j_aload_n (pc := 0) F 0 dX8_feed_0 rfl rfl ?_
  refine jw_get (pc := 1) (v := .int (σM.1 0 14)) F hK ix_8 0 rfl rfl 14 (by decide) tm_829 rfl rfl dX8_feed_1 ?_
  refine j_bipush (pc := 4) F (v := 20) dX8_feed_4 rfl ?_
  refine j_iadd (pc := 6) F dX8_feed_6 ?_
  refine j_sipush (pc := 7) F (v := 200) dX8_feed_7 rfl ?_
  refine j_icmp_le (pc := 10) (tgt := 15) F dX8_feed_10 rfl (fun c_1 => ?_) (fun c_1 => ?_)
  · have hf := of_pos c_1 hf
    refine j_iconst (pc := 15) F (v := 0) dX8_feed_15 rfl ?_
    refine j_istore (pc := 16) (lv' := [(6, .int 0), (0, .ref (aM 0)), (1, .int x1), (2, .int x2), (3, .int x3), (4, .int x4), (5, .int x5)]) F dX8_feed_16 (by decide) rfl ?_
    refine j_sub [1, 2, 3, 4, 5, 6, 0] rfl ?_
    exact b_X8_feed_18 F hK hS hA N σM x1 x2 x3 x4 x5 0 hf
  · have hf := of_neg c_1 hf
    refine j_iconst (pc := 13) F (v := (-1)) dX8_feed_13 rfl ?_
    have hf := (Option.some.inj hf)
    subst hf
    exact j_iretW (pc := 14) F dX8_feed_14 rfl rfl
theorem cf_X8_feed : cfV yX8_feed cX8_feed 8 (some .int) 5 := ⟨tm_1073, tm_1074, tm_60, tm_1075, by decide, by decide, by decide +kernel⟩

def f_X8_end (σM : St2 × (Nat → Int64)) (x1 : Int32) : Bool × (St2 × (Nat → Int64)) := if x1 < 0 then (false, σM) else if x1 ≤ (σM.1 0 14) then (true, (up2 σM.1 0 14 x1, σM.2)) else (false, σM)
set_option maxHeartbeats 4000000 in
set_option maxRecDepth 100000 in
theorem c_X8_end {l : Launch} {D : va_G} {cy : Nat → ClassId} {g : Gs} {aM : Nat → Nat} {σM : St2 × (Nat → Int64)} {x1 : Int32} {out : Bool × (St2 × (Nat → Int64))} (hf : f_X8_end σM x1 = out) : CW l D cy g yX8_end cX8_end 2 (some .boolean) 0 0 (wM aM cy σM) [.ref (aM 0), .int x1] (some (.int (bI out.1))) (wM aM cy out.2) := by
  unfold f_X8_end at hf
  refine met_W (lv := [(0, .ref (aM 0)), (1, .int x1)]) (by decide) (Nat.le_of_ble_eq_true rfl) rfl ?_
  intro p e s m args below meth c A F hK hS hA
  refine j_iload_n (pc := 0) F 1 dX8_end_0 rfl rfl ?_
  refine j_if_lt (pc := 1) (tgt := 12) F dX8_end_1 rfl (fun c_1 => ?_) (fun c_1 => ?_)
  · have hf := of_pos c_1 hf
    refine j_iconst (pc := 12) F (v := 0) dX8_end_12 rfl ?_
    have hf := hf
    subst hf
    exact j_zretW (pc := 13) F dX8_end_13 rfl rfl
  · have hf := of_neg c_1 hf
    refine j_iload_n (pc := 4) F 1 dX8_end_4 rfl rfl ?_
    refine j_aload_n (pc := 5) F 0 dX8_end_5 rfl rfl ?_
    refine jw_get (pc := 6) (v := .int (σM.1 0 14)) F hK ix_8 0 rfl rfl 14 (by decide) tm_829 rfl rfl dX8_end_6 ?_
    refine j_icmp_le (pc := 9) (tgt := 14) F dX8_end_9 rfl (fun c_2 => ?_) (fun c_2 => ?_)
    · have hf := of_pos c_2 hf
      refine j_aload_n (pc := 14) F 0 dX8_end_14 rfl rfl ?_
      refine j_iload_n (pc := 15) F 1 dX8_end_15 rfl rfl ?_
      refine jw_put (pc := 16) (w' := wM aM cy (up2 σM.1 0 14 x1, σM.2)) F hK ix_8 tyX8 tyX8_ok nmX8 0 rfl rfl 14 (by decide) tm_829 rfl rfl rfl rfl rfl (Nat.le_of_ble_eq_true rfl) (wM_put_14 _ _ _ _) dX8_end_16 ?_
      refine j_iconst (pc := 19) F (v := 1) dX8_end_19 rfl ?_
      have hf := hf
      subst hf
      exact j_zretW (pc := 20) F dX8_end_20 rfl rfl
    · have hf := of_neg c_2 hf
      refine j_iconst (pc := 12) F (v := 0) dX8_end_12 rfl ?_
      have hf := hf
      subst hf
      exact j_zretW (pc := 13) F dX8_end_13 rfl rfl
theorem cf_X8_end : cfV yX8_end cX8_end 2 (some .boolean) 1 := ⟨tm_1077, tm_1078, tm_60, tm_1079, by decide, by decide, by decide +kernel⟩

def f_X8_fail (σM : St2 × (Nat → Int64)) (x1 : Int32) (x2 : Int32) : (St2 × (Nat → Int64)) := if (σM.1 0 18) = 0 then (up2 (up2 σM.1 0 18 x1) 0 19 x2, σM.2) else σM
set_option maxHeartbeats 4000000 in
set_option maxRecDepth 100000 in
theorem c_X8_fail {l : Launch} {D : va_G} {cy : Nat → ClassId} {g : Gs} {aM : Nat → Nat} {σM : St2 × (Nat → Int64)} {x1 : Int32} {x2 : Int32} {out : (St2 × (Nat → Int64))} (hf : f_X8_fail σM x1 x2 = out) : CW l D cy g yX8_fail cX8_fail 3 none 0 0 (wM aM cy σM) [.ref (aM 0), .int x1, .int x2] none (wM aM cy out) := by
  unfold f_X8_fail at hf
  refine met_W (lv := [(0, .ref (aM 0)), (1, .int x1), (2, .int x2)]) (by decide) (Nat.le_of_ble_eq_true rfl) rfl ?_
  intro p e s m args below meth c A F hK hS hA
  refine j_aload_n (pc := 0) F 0 dX8_fail_0 rfl rfl ?_
  refine jw_get (pc := 1) (v := .int (σM.1 0 18)) F hK ix_8 0 rfl rfl 18 (by decide) tm_833 rfl rfl dX8_fail_1 ?_
  refine j_if_eq (pc := 4) (tgt := 8) F dX8_fail_4 rfl (fun c_1 => ?_) (fun c_1 => ?_)
  · have hf := of_pos c_1 hf
    refine j_aload_n (pc := 8) F 0 dX8_fail_8 rfl rfl ?_
    refine j_iload_n (pc := 9) F 1 dX8_fail_9 rfl rfl ?_
    refine jw_put (pc := 10) (w' := wM aM cy (up2 σM.1 0 18 x1, σM.2)) F hK ix_8 tyX8 tyX8_ok nmX8 0 rfl rfl 18 (by decide) tm_833 rfl rfl rfl rfl rfl (Nat.le_of_ble_eq_true rfl) (wM_put_18 _ _ _ _) dX8_fail_10 ?_
    refine j_aload_n (pc := 13) F 0 dX8_fail_13 rfl rfl ?_
    refine j_iload_n (pc := 14) F 2 dX8_fail_14 rfl rfl ?_
    refine jw_put (pc := 15) (w' := wM aM cy (up2 (up2 σM.1 0 18 x1) 0 19 x2, σM.2)) F hK ix_8 tyX8 tyX8_ok nmX8 0 rfl rfl 19 (by decide) tm_834 rfl rfl rfl rfl rfl (Nat.le_of_ble_eq_true rfl) (wM_put_19 _ _ _ _) dX8_fail_15 ?_
    have hf := hf
    subst hf
    exact j_vretW (pc := 18) F dX8_fail_18 rfl
  · have hf := of_neg c_1 hf
    have hf := hf
    subst hf
    exact j_vretW (pc := 7) F dX8_fail_7 rfl
theorem cf_X8_fail : cfV yX8_fail cX8_fail 3 none 2 := ⟨tm_1123, tm_44, tm_60, tm_1124, by decide, by decide, by decide +kernel⟩
