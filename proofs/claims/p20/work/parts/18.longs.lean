def f_J6_numberOfLeadingZeros_0f7a4_61 (y0 : Int32) (y1 : Int32) : Int32 := if y0 < 4 then y1 - ((y0.toUInt32 >>> ((1 : Int32).toUInt32 &&& Int32.toUInt32 31)).toInt32) else lt ((y0.toUInt32 >>> ((2 : Int32).toUInt32 &&& Int32.toUInt32 31)).toInt32 : Int32) fun z_2 => (y1 + (-2)) - ((z_2.toUInt32 >>> ((1 : Int32).toUInt32 &&& Int32.toUInt32 31)).toInt32)
def f_J6_numberOfLeadingZeros_0f7a4_48 (y0 : Int32) (y1 : Int32) : Int32 := if y0 < 16 then f_J6_numberOfLeadingZeros_0f7a4_61 y0 y1 else lt ((y0.toUInt32 >>> ((4 : Int32).toUInt32 &&& Int32.toUInt32 31)).toInt32 : Int32) fun z_2 => f_J6_numberOfLeadingZeros_0f7a4_61 z_2 (y1 + (-4))
def f_J6_numberOfLeadingZeros_0f7a4_33 (y0 : Int32) (y1 : Int32) : Int32 := if y0 < 256 then f_J6_numberOfLeadingZeros_0f7a4_48 y0 y1 else lt ((y0.toUInt32 >>> ((8 : Int32).toUInt32 &&& Int32.toUInt32 31)).toInt32 : Int32) fun z_2 => f_J6_numberOfLeadingZeros_0f7a4_48 z_2 (y1 + (-8))
def f_J6_numberOfLeadingZeros_0f7a4 (x0 : Int32) : Int32 := if 0 < x0 then if x0 < 65536 then f_J6_numberOfLeadingZeros_0f7a4_33 x0 31 else lt ((x0.toUInt32 >>> ((16 : Int32).toUInt32 &&& Int32.toUInt32 31)).toInt32 : Int32) fun z_3 => f_J6_numberOfLeadingZeros_0f7a4_33 z_3 (31 + (-16)) else if x0 = 0 then 32 else 0
set_option maxHeartbeats 4000000 in
set_option maxRecDepth 100000 in
theorem b_J6_numberOfLeadingZeros_0f7a4_61 {l : Launch} {D : va_G} {cy : Nat → ClassId} {g : Gs} {p : Program} {e : Env} {s : State} {m : MethodId} {args : Array Value} {below : List Frame} {meth : Method} {c : Code} {out : Int32} (F : Fx p s m args meth c cJ6_numberOfLeadingZeros_0f7a4 RJ6 2 (some .int)) (hP : va_P D vwCl ([]) s.heap) (hK : va_K D vwCl (tys cy) s) (hS : St g nA s s.heap) :
    ∀ (y0 : Int32) (y1 : Int32), f_J6_numberOfLeadingZeros_0f7a4_61 y0 y1 = out → J p l e { frames := 0, cells := 0, slots := 0, locals := 0 } s m args below meth c 2 (hR s) 0 0 (MQ below (QR (some (.int out))) args s 0 0 nA) 61 [(0, .int y0), (1, .int y1)] [] := by
  intro y0 y1 hf
  unfold f_J6_numberOfLeadingZeros_0f7a4_61 at hf
  refine j_iload_n (pc := 61) F 0 dJ6_numberOfLeadingZeros_0f7a4_61 rfl rfl ?_
  refine j_iconst (pc := 62) F (v := 4) dJ6_numberOfLeadingZeros_0f7a4_62 rfl ?_
  refine j_icmp_lt (pc := 63) (tgt := 73) F dJ6_numberOfLeadingZeros_0f7a4_63 rfl (fun c_1 => ?_) (fun c_1 => ?_)
  · have hf := of_pos c_1 hf
    refine j_iload_n (pc := 73) F 1 dJ6_numberOfLeadingZeros_0f7a4_73 rfl rfl ?_
    refine j_iload_n (pc := 74) F 0 dJ6_numberOfLeadingZeros_0f7a4_74 rfl rfl ?_
    refine j_iconst (pc := 75) F (v := 1) dJ6_numberOfLeadingZeros_0f7a4_75 rfl ?_
    refine j_iushr (pc := 76) F dJ6_numberOfLeadingZeros_0f7a4_76 ?_
    refine j_isub (pc := 77) F dJ6_numberOfLeadingZeros_0f7a4_77 ?_
    exact j_iretR (pc := 78) F dJ6_numberOfLeadingZeros_0f7a4_78 hf
  · have hf := of_neg c_1 hf
    refine j_iinc (pc := 66) (v := y1 + (-2)) (lv' := [(1, .int (y1 + (-2))), (0, .int y0)]) F 1 dJ6_numberOfLeadingZeros_0f7a4_66 rfl rfl (by decide) rfl ?_
    refine j_iload_n (pc := 69) F 1 dJ6_numberOfLeadingZeros_0f7a4_69 rfl rfl ?_
    refine j_iconst (pc := 70) F (v := 2) dJ6_numberOfLeadingZeros_0f7a4_70 rfl ?_
    refine j_iushr (pc := 71) F dJ6_numberOfLeadingZeros_0f7a4_71 ?_
    obtain ⟨z_2, ez_2, hf⟩ := of_lt hf
    refine j_topi ez_2 ?_
    refine j_istore_n (pc := 72) (lv' := [(0, .int z_2), (1, .int (y1 + (-2)))]) F dJ6_numberOfLeadingZeros_0f7a4_72 rfl (by decide) rfl ?_
    refine j_iload_n (pc := 73) F 1 dJ6_numberOfLeadingZeros_0f7a4_73 rfl rfl ?_
    refine j_iload_n (pc := 74) F 0 dJ6_numberOfLeadingZeros_0f7a4_74 rfl rfl ?_
    refine j_iconst (pc := 75) F (v := 1) dJ6_numberOfLeadingZeros_0f7a4_75 rfl ?_
    refine j_iushr (pc := 76) F dJ6_numberOfLeadingZeros_0f7a4_76 ?_
    refine j_isub (pc := 77) F dJ6_numberOfLeadingZeros_0f7a4_77 ?_
    exact j_iretR (pc := 78) F dJ6_numberOfLeadingZeros_0f7a4_78 hf
set_option maxHeartbeats 4000000 in
set_option maxRecDepth 100000 in
theorem b_J6_numberOfLeadingZeros_0f7a4_48 {l : Launch} {D : va_G} {cy : Nat → ClassId} {g : Gs} {p : Program} {e : Env} {s : State} {m : MethodId} {args : Array Value} {below : List Frame} {meth : Method} {c : Code} {out : Int32} (F : Fx p s m args meth c cJ6_numberOfLeadingZeros_0f7a4 RJ6 2 (some .int)) (hP : va_P D vwCl ([]) s.heap) (hK : va_K D vwCl (tys cy) s) (hS : St g nA s s.heap) :
    ∀ (y0 : Int32) (y1 : Int32), f_J6_numberOfLeadingZeros_0f7a4_48 y0 y1 = out → J p l e { frames := 0, cells := 0, slots := 0, locals := 0 } s m args below meth c 2 (hR s) 0 0 (MQ below (QR (some (.int out))) args s 0 0 nA) 48 [(0, .int y0), (1, .int y1)] [] := by
  intro y0 y1 hf
  unfold f_J6_numberOfLeadingZeros_0f7a4_48 at hf
  refine j_iload_n (pc := 48) F 0 dJ6_numberOfLeadingZeros_0f7a4_48 rfl rfl ?_
  refine j_bipush (pc := 49) F (v := 16) dJ6_numberOfLeadingZeros_0f7a4_49 rfl ?_
  refine j_icmp_lt (pc := 51) (tgt := 61) F dJ6_numberOfLeadingZeros_0f7a4_51 rfl (fun c_1 => ?_) (fun c_1 => ?_)
  · have hf := of_pos c_1 hf
    exact b_J6_numberOfLeadingZeros_0f7a4_61 F hP hK hS y0 y1 hf
  · have hf := of_neg c_1 hf
    refine j_iinc (pc := 54) (v := y1 + (-4)) (lv' := [(1, .int (y1 + (-4))), (0, .int y0)]) F 1 dJ6_numberOfLeadingZeros_0f7a4_54 rfl rfl (by decide) rfl ?_
    refine j_iload_n (pc := 57) F 1 dJ6_numberOfLeadingZeros_0f7a4_57 rfl rfl ?_
    refine j_iconst (pc := 58) F (v := 4) dJ6_numberOfLeadingZeros_0f7a4_58 rfl ?_
    refine j_iushr (pc := 59) F dJ6_numberOfLeadingZeros_0f7a4_59 ?_
    obtain ⟨z_2, ez_2, hf⟩ := of_lt hf
    refine j_topi ez_2 ?_
    refine j_istore_n (pc := 60) (lv' := [(0, .int z_2), (1, .int (y1 + (-4)))]) F dJ6_numberOfLeadingZeros_0f7a4_60 rfl (by decide) rfl ?_
    exact b_J6_numberOfLeadingZeros_0f7a4_61 F hP hK hS z_2 (y1 + (-4)) hf
set_option maxHeartbeats 4000000 in
set_option maxRecDepth 100000 in
theorem b_J6_numberOfLeadingZeros_0f7a4_33 {l : Launch} {D : va_G} {cy : Nat → ClassId} {g : Gs} {p : Program} {e : Env} {s : State} {m : MethodId} {args : Array Value} {below : List Frame} {meth : Method} {c : Code} {out : Int32} (F : Fx p s m args meth c cJ6_numberOfLeadingZeros_0f7a4 RJ6 2 (some .int)) (hP : va_P D vwCl ([]) s.heap) (hK : va_K D vwCl (tys cy) s) (hS : St g nA s s.heap) :
    ∀ (y0 : Int32) (y1 : Int32), f_J6_numberOfLeadingZeros_0f7a4_33 y0 y1 = out → J p l e { frames := 0, cells := 0, slots := 0, locals := 0 } s m args below meth c 2 (hR s) 0 0 (MQ below (QR (some (.int out))) args s 0 0 nA) 33 [(0, .int y0), (1, .int y1)] [] := by
  intro y0 y1 hf
  unfold f_J6_numberOfLeadingZeros_0f7a4_33 at hf
  refine j_iload_n (pc := 33) F 0 dJ6_numberOfLeadingZeros_0f7a4_33 rfl rfl ?_
  refine j_sipush (pc := 34) F (v := 256) dJ6_numberOfLeadingZeros_0f7a4_34 rfl ?_
  refine j_icmp_lt (pc := 37) (tgt := 48) F dJ6_numberOfLeadingZeros_0f7a4_37 rfl (fun c_1 => ?_) (fun c_1 => ?_)
  · have hf := of_pos c_1 hf
    exact b_J6_numberOfLeadingZeros_0f7a4_48 F hP hK hS y0 y1 hf
  · have hf := of_neg c_1 hf
    refine j_iinc (pc := 40) (v := y1 + (-8)) (lv' := [(1, .int (y1 + (-8))), (0, .int y0)]) F 1 dJ6_numberOfLeadingZeros_0f7a4_40 rfl rfl (by decide) rfl ?_
    refine j_iload_n (pc := 43) F 1 dJ6_numberOfLeadingZeros_0f7a4_43 rfl rfl ?_
    refine j_bipush (pc := 44) F (v := 8) dJ6_numberOfLeadingZeros_0f7a4_44 rfl ?_
    refine j_iushr (pc := 46) F dJ6_numberOfLeadingZeros_0f7a4_46 ?_
    obtain ⟨z_2, ez_2, hf⟩ := of_lt hf
    refine j_topi ez_2 ?_
    refine j_istore_n (pc := 47) (lv' := [(0, .int z_2), (1, .int (y1 + (-8)))]) F dJ6_numberOfLeadingZeros_0f7a4_47 rfl (by decide) rfl ?_
    exact b_J6_numberOfLeadingZeros_0f7a4_48 F hP hK hS z_2 (y1 + (-8)) hf
set_option maxHeartbeats 4000000 in
set_option maxRecDepth 100000 in
theorem c_J6_numberOfLeadingZeros_0f7a4 {l : Launch} {D : va_G} {cy : Nat → ClassId} {g : Gs} {x0 : Int32} {out : Int32} (hf : f_J6_numberOfLeadingZeros_0f7a4 x0 = out) : CR l D cy g yJ6_numberOfLeadingZeros_0f7a4 cJ6_numberOfLeadingZeros_0f7a4 2 (some .int) 0 0 ([]) [.int x0] (some (.int out)) := by
  unfold f_J6_numberOfLeadingZeros_0f7a4 at hf
  refine met_R (lv := [(0, .int x0)]) (by decide) (Nat.le_of_ble_eq_true rfl) rfl ?_
  intro p e s m args below meth c F hP hK hS
  refine j_iload_n (pc := 0) F 0 dJ6_numberOfLeadingZeros_0f7a4_0 rfl rfl ?_
  refine j_if_gt (pc := 1) (tgt := 15) F dJ6_numberOfLeadingZeros_0f7a4_1 rfl (fun c_1 => ?_) (fun c_1 => ?_)
  · have hf := of_pos c_1 hf
    refine j_bipush (pc := 15) F (v := 31) dJ6_numberOfLeadingZeros_0f7a4_15 rfl ?_
    refine j_istore_n (pc := 17) (lv' := [(1, .int 31), (0, .int x0)]) F dJ6_numberOfLeadingZeros_0f7a4_17 rfl (by decide) rfl ?_
    refine j_iload_n (pc := 18) F 1 dJ6_numberOfLeadingZeros_0f7a4_18 rfl rfl ?_
    refine j_ldcw (pc := 19) F tm_794 dJ6_numberOfLeadingZeros_0f7a4_19 ?_
    refine j_icmp_lt (pc := 22) (tgt := 33) F dJ6_numberOfLeadingZeros_0f7a4_22 rfl (fun c_2 => ?_) (fun c_2 => ?_)
    · have hf := of_pos c_2 hf
      refine j_sub [1, 0] rfl ?_
      exact b_J6_numberOfLeadingZeros_0f7a4_33 F hP hK hS x0 31 hf
    · have hf := of_neg c_2 hf
      refine j_iinc (pc := 25) (v := 31 + (-16)) (lv' := [(1, .int (31 + (-16))), (0, .int x0)]) F 0 dJ6_numberOfLeadingZeros_0f7a4_25 rfl rfl (by decide) rfl ?_
      refine j_iload_n (pc := 28) F 1 dJ6_numberOfLeadingZeros_0f7a4_28 rfl rfl ?_
      refine j_bipush (pc := 29) F (v := 16) dJ6_numberOfLeadingZeros_0f7a4_29 rfl ?_
      refine j_iushr (pc := 31) F dJ6_numberOfLeadingZeros_0f7a4_31 ?_
      obtain ⟨z_3, ez_3, hf⟩ := of_lt hf
      refine j_topi ez_3 ?_
      refine j_istore_n (pc := 32) (lv' := [(0, .int z_3), (1, .int (31 + (-16)))]) F dJ6_numberOfLeadingZeros_0f7a4_32 rfl (by decide) rfl ?_
      exact b_J6_numberOfLeadingZeros_0f7a4_33 F hP hK hS z_3 (31 + (-16)) hf
  · have hf := of_neg c_1 hf
    refine j_iload_n (pc := 4) F 0 dJ6_numberOfLeadingZeros_0f7a4_4 rfl rfl ?_
    refine j_if_ne (pc := 5) (tgt := 13) F dJ6_numberOfLeadingZeros_0f7a4_5 rfl (fun c_4 => ?_) (fun c_4 => ?_)
    · have hf := of_neg c_4 hf
      refine j_iconst (pc := 13) F (v := 0) dJ6_numberOfLeadingZeros_0f7a4_13 rfl ?_
      exact j_iretR (pc := 14) F dJ6_numberOfLeadingZeros_0f7a4_14 hf
    · have hf := of_pos c_4 hf
      refine j_bipush (pc := 8) F (v := 32) dJ6_numberOfLeadingZeros_0f7a4_8 rfl ?_
      refine j_goto (pc := 10) F (tgt := 14) dJ6_numberOfLeadingZeros_0f7a4_10 rfl ?_
      exact j_iretR (pc := 14) F dJ6_numberOfLeadingZeros_0f7a4_14 hf
theorem cf_J6_numberOfLeadingZeros_0f7a4 : cfS yJ6_numberOfLeadingZeros_0f7a4 cJ6_numberOfLeadingZeros_0f7a4 2 (some .int) 1 := ⟨tm_799, tm_68, tm_800, by decide, by decide, by decide +kernel⟩

def f_J6_numberOfTrailingZeros_0f7a4_62 (y0 : Int32) (y1 : Int32) : Int32 := if y0 ≤ 4 then y1 + ((y0.toUInt32 >>> ((1 : Int32).toUInt32 &&& Int32.toUInt32 31)).toInt32) else lt ((y0.toUInt32 >>> ((2 : Int32).toUInt32 &&& Int32.toUInt32 31)).toInt32 : Int32) fun z_2 => (y1 + 2) + ((z_2.toUInt32 >>> ((1 : Int32).toUInt32 &&& Int32.toUInt32 31)).toInt32)
def f_J6_numberOfTrailingZeros_0f7a4_49 (y0 : Int32) (y1 : Int32) : Int32 := if y0 ≤ 16 then f_J6_numberOfTrailingZeros_0f7a4_62 y0 y1 else lt ((y0.toUInt32 >>> ((4 : Int32).toUInt32 &&& Int32.toUInt32 31)).toInt32 : Int32) fun z_2 => f_J6_numberOfTrailingZeros_0f7a4_62 z_2 (y1 + 4)
def f_J6_numberOfTrailingZeros_0f7a4_34 (y0 : Int32) (y1 : Int32) : Int32 := if y0 ≤ 256 then f_J6_numberOfTrailingZeros_0f7a4_49 y0 y1 else lt ((y0.toUInt32 >>> ((8 : Int32).toUInt32 &&& Int32.toUInt32 31)).toInt32 : Int32) fun z_2 => f_J6_numberOfTrailingZeros_0f7a4_49 z_2 (y1 + 8)
def f_J6_numberOfTrailingZeros_0f7a4 (x0 : Int32) : Int32 := if 0 < ((x0 ^^^ (-1)) &&& (x0 - 1)) then if ((x0 ^^^ (-1)) &&& (x0 - 1)) ≤ 65536 then f_J6_numberOfTrailingZeros_0f7a4_34 ((x0 ^^^ (-1)) &&& (x0 - 1)) 1 else lt ((((x0 ^^^ (-1)) &&& (x0 - 1)).toUInt32 >>> ((16 : Int32).toUInt32 &&& Int32.toUInt32 31)).toInt32 : Int32) fun z_3 => f_J6_numberOfTrailingZeros_0f7a4_34 z_3 (1 + 16) else ((x0 ^^^ (-1)) &&& (x0 - 1)) &&& 32
set_option maxHeartbeats 4000000 in
set_option maxRecDepth 100000 in
theorem b_J6_numberOfTrailingZeros_0f7a4_62 {l : Launch} {D : va_G} {cy : Nat → ClassId} {g : Gs} {p : Program} {e : Env} {s : State} {m : MethodId} {args : Array Value} {below : List Frame} {meth : Method} {c : Code} {out : Int32} (F : Fx p s m args meth c cJ6_numberOfTrailingZeros_0f7a4 RJ6 2 (some .int)) (hP : va_P D vwCl ([]) s.heap) (hK : va_K D vwCl (tys cy) s) (hS : St g nA s s.heap) :
    ∀ (y0 : Int32) (y1 : Int32), f_J6_numberOfTrailingZeros_0f7a4_62 y0 y1 = out → J p l e { frames := 0, cells := 0, slots := 0, locals := 0 } s m args below meth c 2 (hR s) 0 0 (MQ below (QR (some (.int out))) args s 0 0 nA) 62 [(0, .int y0), (1, .int y1)] [] := by
  intro y0 y1 hf
  unfold f_J6_numberOfTrailingZeros_0f7a4_62 at hf
  refine j_iload_n (pc := 62) F 0 dJ6_numberOfTrailingZeros_0f7a4_62 rfl rfl ?_
  refine j_iconst (pc := 63) F (v := 4) dJ6_numberOfTrailingZeros_0f7a4_63 rfl ?_
  refine j_icmp_le (pc := 64) (tgt := 74) F dJ6_numberOfTrailingZeros_0f7a4_64 rfl (fun c_1 => ?_) (fun c_1 => ?_)
  · have hf := of_pos c_1 hf
    refine j_iload_n (pc := 74) F 1 dJ6_numberOfTrailingZeros_0f7a4_74 rfl rfl ?_
    refine j_iload_n (pc := 75) F 0 dJ6_numberOfTrailingZeros_0f7a4_75 rfl rfl ?_
    refine j_iconst (pc := 76) F (v := 1) dJ6_numberOfTrailingZeros_0f7a4_76 rfl ?_
    refine j_iushr (pc := 77) F dJ6_numberOfTrailingZeros_0f7a4_77 ?_
    refine j_iadd (pc := 78) F dJ6_numberOfTrailingZeros_0f7a4_78 ?_
    exact j_iretR (pc := 79) F dJ6_numberOfTrailingZeros_0f7a4_79 hf
  · have hf := of_neg c_1 hf
    refine j_iinc (pc := 67) (v := y1 + 2) (lv' := [(1, .int (y1 + 2)), (0, .int y0)]) F 1 dJ6_numberOfTrailingZeros_0f7a4_67 rfl rfl (by decide) rfl ?_
    refine j_iload_n (pc := 70) F 1 dJ6_numberOfTrailingZeros_0f7a4_70 rfl rfl ?_
    refine j_iconst (pc := 71) F (v := 2) dJ6_numberOfTrailingZeros_0f7a4_71 rfl ?_
    refine j_iushr (pc := 72) F dJ6_numberOfTrailingZeros_0f7a4_72 ?_
    obtain ⟨z_2, ez_2, hf⟩ := of_lt hf
    refine j_topi ez_2 ?_
    refine j_istore_n (pc := 73) (lv' := [(0, .int z_2), (1, .int (y1 + 2))]) F dJ6_numberOfTrailingZeros_0f7a4_73 rfl (by decide) rfl ?_
    refine j_iload_n (pc := 74) F 1 dJ6_numberOfTrailingZeros_0f7a4_74 rfl rfl ?_
    refine j_iload_n (pc := 75) F 0 dJ6_numberOfTrailingZeros_0f7a4_75 rfl rfl ?_
    refine j_iconst (pc := 76) F (v := 1) dJ6_numberOfTrailingZeros_0f7a4_76 rfl ?_
    refine j_iushr (pc := 77) F dJ6_numberOfTrailingZeros_0f7a4_77 ?_
    refine j_iadd (pc := 78) F dJ6_numberOfTrailingZeros_0f7a4_78 ?_
    exact j_iretR (pc := 79) F dJ6_numberOfTrailingZeros_0f7a4_79 hf
set_option maxHeartbeats 4000000 in
set_option maxRecDepth 100000 in
theorem b_J6_numberOfTrailingZeros_0f7a4_49 {l : Launch} {D : va_G} {cy : Nat → ClassId} {g : Gs} {p : Program} {e : Env} {s : State} {m : MethodId} {args : Array Value} {below : List Frame} {meth : Method} {c : Code} {out : Int32} (F : Fx p s m args meth c cJ6_numberOfTrailingZeros_0f7a4 RJ6 2 (some .int)) (hP : va_P D vwCl ([]) s.heap) (hK : va_K D vwCl (tys cy) s) (hS : St g nA s s.heap) :
    ∀ (y0 : Int32) (y1 : Int32), f_J6_numberOfTrailingZeros_0f7a4_49 y0 y1 = out → J p l e { frames := 0, cells := 0, slots := 0, locals := 0 } s m args below meth c 2 (hR s) 0 0 (MQ below (QR (some (.int out))) args s 0 0 nA) 49 [(0, .int y0), (1, .int y1)] [] := by
  intro y0 y1 hf
  unfold f_J6_numberOfTrailingZeros_0f7a4_49 at hf
  refine j_iload_n (pc := 49) F 0 dJ6_numberOfTrailingZeros_0f7a4_49 rfl rfl ?_
  refine j_bipush (pc := 50) F (v := 16) dJ6_numberOfTrailingZeros_0f7a4_50 rfl ?_
  refine j_icmp_le (pc := 52) (tgt := 62) F dJ6_numberOfTrailingZeros_0f7a4_52 rfl (fun c_1 => ?_) (fun c_1 => ?_)
  · have hf := of_pos c_1 hf
    exact b_J6_numberOfTrailingZeros_0f7a4_62 F hP hK hS y0 y1 hf
  · have hf := of_neg c_1 hf
    refine j_iinc (pc := 55) (v := y1 + 4) (lv' := [(1, .int (y1 + 4)), (0, .int y0)]) F 1 dJ6_numberOfTrailingZeros_0f7a4_55 rfl rfl (by decide) rfl ?_
    refine j_iload_n (pc := 58) F 1 dJ6_numberOfTrailingZeros_0f7a4_58 rfl rfl ?_
    refine j_iconst (pc := 59) F (v := 4) dJ6_numberOfTrailingZeros_0f7a4_59 rfl ?_
    refine j_iushr (pc := 60) F dJ6_numberOfTrailingZeros_0f7a4_60 ?_
    obtain ⟨z_2, ez_2, hf⟩ := of_lt hf
    refine j_topi ez_2 ?_
    refine j_istore_n (pc := 61) (lv' := [(0, .int z_2), (1, .int (y1 + 4))]) F dJ6_numberOfTrailingZeros_0f7a4_61 rfl (by decide) rfl ?_
    exact b_J6_numberOfTrailingZeros_0f7a4_62 F hP hK hS z_2 (y1 + 4) hf
set_option maxHeartbeats 4000000 in
set_option maxRecDepth 100000 in
theorem b_J6_numberOfTrailingZeros_0f7a4_34 {l : Launch} {D : va_G} {cy : Nat → ClassId} {g : Gs} {p : Program} {e : Env} {s : State} {m : MethodId} {args : Array Value} {below : List Frame} {meth : Method} {c : Code} {out : Int32} (F : Fx p s m args meth c cJ6_numberOfTrailingZeros_0f7a4 RJ6 2 (some .int)) (hP : va_P D vwCl ([]) s.heap) (hK : va_K D vwCl (tys cy) s) (hS : St g nA s s.heap) :
    ∀ (y0 : Int32) (y1 : Int32), f_J6_numberOfTrailingZeros_0f7a4_34 y0 y1 = out → J p l e { frames := 0, cells := 0, slots := 0, locals := 0 } s m args below meth c 2 (hR s) 0 0 (MQ below (QR (some (.int out))) args s 0 0 nA) 34 [(0, .int y0), (1, .int y1)] [] := by
  intro y0 y1 hf
  unfold f_J6_numberOfTrailingZeros_0f7a4_34 at hf
  refine j_iload_n (pc := 34) F 0 dJ6_numberOfTrailingZeros_0f7a4_34 rfl rfl ?_
  refine j_sipush (pc := 35) F (v := 256) dJ6_numberOfTrailingZeros_0f7a4_35 rfl ?_
  refine j_icmp_le (pc := 38) (tgt := 49) F dJ6_numberOfTrailingZeros_0f7a4_38 rfl (fun c_1 => ?_) (fun c_1 => ?_)
  · have hf := of_pos c_1 hf
    exact b_J6_numberOfTrailingZeros_0f7a4_49 F hP hK hS y0 y1 hf
  · have hf := of_neg c_1 hf
    refine j_iinc (pc := 41) (v := y1 + 8) (lv' := [(1, .int (y1 + 8)), (0, .int y0)]) F 1 dJ6_numberOfTrailingZeros_0f7a4_41 rfl rfl (by decide) rfl ?_
    refine j_iload_n (pc := 44) F 1 dJ6_numberOfTrailingZeros_0f7a4_44 rfl rfl ?_
    refine j_bipush (pc := 45) F (v := 8) dJ6_numberOfTrailingZeros_0f7a4_45 rfl ?_
    refine j_iushr (pc := 47) F dJ6_numberOfTrailingZeros_0f7a4_47 ?_
    obtain ⟨z_2, ez_2, hf⟩ := of_lt hf
    refine j_topi ez_2 ?_
    refine j_istore_n (pc := 48) (lv' := [(0, .int z_2), (1, .int (y1 + 8))]) F dJ6_numberOfTrailingZeros_0f7a4_48 rfl (by decide) rfl ?_
    exact b_J6_numberOfTrailingZeros_0f7a4_49 F hP hK hS z_2 (y1 + 8) hf
set_option maxHeartbeats 4000000 in
set_option maxRecDepth 100000 in
theorem c_J6_numberOfTrailingZeros_0f7a4 {l : Launch} {D : va_G} {cy : Nat → ClassId} {g : Gs} {x0 : Int32} {out : Int32} (hf : f_J6_numberOfTrailingZeros_0f7a4 x0 = out) : CR l D cy g yJ6_numberOfTrailingZeros_0f7a4 cJ6_numberOfTrailingZeros_0f7a4 2 (some .int) 0 0 ([]) [.int x0] (some (.int out)) := by
  unfold f_J6_numberOfTrailingZeros_0f7a4 at hf
  refine met_R (lv := [(0, .int x0)]) (by decide) (Nat.le_of_ble_eq_true rfl) rfl ?_
  intro p e s m args below meth c F hP hK hS
  refine j_iload_n (pc := 0) F 0 dJ6_numberOfTrailingZeros_0f7a4_0 rfl rfl ?_
  refine j_iconst (pc := 1) F (v := (-1)) dJ6_numberOfTrailingZeros_0f7a4_1 rfl ?_
  refine j_ixor (pc := 2) F dJ6_numberOfTrailingZeros_0f7a4_2 ?_
  refine j_iload_n (pc := 3) F 0 dJ6_numberOfTrailingZeros_0f7a4_3 rfl rfl ?_
  refine j_iconst (pc := 4) F (v := 1) dJ6_numberOfTrailingZeros_0f7a4_4 rfl ?_
  refine j_isub (pc := 5) F dJ6_numberOfTrailingZeros_0f7a4_5 ?_
  refine j_iand (pc := 6) F dJ6_numberOfTrailingZeros_0f7a4_6 ?_
  refine j_istore_n (pc := 7) (lv' := [(0, .int ((x0 ^^^ (-1)) &&& (x0 - 1)))]) F dJ6_numberOfTrailingZeros_0f7a4_7 rfl (by decide) rfl ?_
  refine j_iload_n (pc := 8) F 0 dJ6_numberOfTrailingZeros_0f7a4_8 rfl rfl ?_
  refine j_if_gt (pc := 9) (tgt := 17) F dJ6_numberOfTrailingZeros_0f7a4_9 rfl (fun c_1 => ?_) (fun c_1 => ?_)
  · have hf := of_pos c_1 hf
    refine j_iconst (pc := 17) F (v := 1) dJ6_numberOfTrailingZeros_0f7a4_17 rfl ?_
    refine j_istore_n (pc := 18) (lv' := [(1, .int 1), (0, .int ((x0 ^^^ (-1)) &&& (x0 - 1)))]) F dJ6_numberOfTrailingZeros_0f7a4_18 rfl (by decide) rfl ?_
    refine j_iload_n (pc := 19) F 1 dJ6_numberOfTrailingZeros_0f7a4_19 rfl rfl ?_
    refine j_ldcw (pc := 20) F tm_794 dJ6_numberOfTrailingZeros_0f7a4_20 ?_
    refine j_icmp_le (pc := 23) (tgt := 34) F dJ6_numberOfTrailingZeros_0f7a4_23 rfl (fun c_2 => ?_) (fun c_2 => ?_)
    · have hf := of_pos c_2 hf
      refine j_sub [1, 0] rfl ?_
      exact b_J6_numberOfTrailingZeros_0f7a4_34 F hP hK hS ((x0 ^^^ (-1)) &&& (x0 - 1)) 1 hf
    · have hf := of_neg c_2 hf
      refine j_iinc (pc := 26) (v := 1 + 16) (lv' := [(1, .int (1 + 16)), (0, .int ((x0 ^^^ (-1)) &&& (x0 - 1)))]) F 0 dJ6_numberOfTrailingZeros_0f7a4_26 rfl rfl (by decide) rfl ?_
      refine j_iload_n (pc := 29) F 1 dJ6_numberOfTrailingZeros_0f7a4_29 rfl rfl ?_
      refine j_bipush (pc := 30) F (v := 16) dJ6_numberOfTrailingZeros_0f7a4_30 rfl ?_
      refine j_iushr (pc := 32) F dJ6_numberOfTrailingZeros_0f7a4_32 ?_
      obtain ⟨z_3, ez_3, hf⟩ := of_lt hf
      refine j_topi ez_3 ?_
      refine j_istore_n (pc := 33) (lv' := [(0, .int z_3), (1, .int (1 + 16))]) F dJ6_numberOfTrailingZeros_0f7a4_33 rfl (by decide) rfl ?_
      exact b_J6_numberOfTrailingZeros_0f7a4_34 F hP hK hS z_3 (1 + 16) hf
  · have hf := of_neg c_1 hf
    refine j_iload_n (pc := 12) F 0 dJ6_numberOfTrailingZeros_0f7a4_12 rfl rfl ?_
    refine j_bipush (pc := 13) F (v := 32) dJ6_numberOfTrailingZeros_0f7a4_13 rfl ?_
    refine j_iand (pc := 15) F dJ6_numberOfTrailingZeros_0f7a4_15 ?_
    exact j_iretR (pc := 16) F dJ6_numberOfTrailingZeros_0f7a4_16 hf
theorem cf_J6_numberOfTrailingZeros_0f7a4 : cfS yJ6_numberOfTrailingZeros_0f7a4 cJ6_numberOfTrailingZeros_0f7a4 2 (some .int) 1 := ⟨tm_792, tm_68, tm_793, by decide, by decide, by decide +kernel⟩

def f_J13_numberOfLeadingZeros_95d88 (x0 : Int64) : Int32 := lt (((x0.toUInt64 >>> ((32 : Int32).toInt64.toUInt64 &&& Int64.toUInt64 63)).toInt64).toInt32 : Int32) fun z_1 => if z_1 = 0 then 32 + (f_J6_numberOfLeadingZeros_0f7a4 x0.toInt32) else f_J6_numberOfLeadingZeros_0f7a4 z_1
set_option maxHeartbeats 4000000 in
set_option maxRecDepth 100000 in
theorem c_J13_numberOfLeadingZeros_95d88 {l : Launch} {D : va_G} {cy : Nat → ClassId} {g : Gs} {x0 : Int64} {out : Int32} (hf : f_J13_numberOfLeadingZeros_95d88 x0 = out) : CR l D cy g yJ13_numberOfLeadingZeros_95d88 cJ13_numberOfLeadingZeros_95d88 3 (some .int) 1 21 ([]) [.long x0] (some (.int out)) := by
  unfold f_J13_numberOfLeadingZeros_95d88 at hf
  refine met_R (lv := [(0, .long x0)]) (by decide) (Nat.le_of_ble_eq_true rfl) rfl ?_
  intro p e s m args below meth c F hP hK hS
  refine j_lload_n (pc := 0) F 0 dJ13_numberOfLeadingZeros_95d88_0 rfl rfl ?_
  refine j_bipush (pc := 1) F (v := 32) dJ13_numberOfLeadingZeros_95d88_1 rfl ?_
  refine j_lushr (pc := 3) F dJ13_numberOfLeadingZeros_95d88_3 ?_
  refine j_l2i (pc := 4) F dJ13_numberOfLeadingZeros_95d88_4 ?_
  obtain ⟨z_1, ez_1, hf⟩ := of_lt hf
  refine j_topi ez_1 ?_
  refine j_istore_n (pc := 5) (lv' := [(2, .int z_1), (0, .long x0)]) F dJ13_numberOfLeadingZeros_95d88_5 rfl (by decide) rfl ?_
  refine j_iload_n (pc := 6) F 0 dJ13_numberOfLeadingZeros_95d88_6 rfl rfl ?_
  refine j_if_ne (pc := 7) (tgt := 21) F dJ13_numberOfLeadingZeros_95d88_7 rfl (fun c_2 => ?_) (fun c_2 => ?_)
  · have hf := of_neg c_2 hf
    refine j_iload_n (pc := 21) F 0 dJ13_numberOfLeadingZeros_95d88_21 rfl rfl ?_
    refine j_callRS (pc := 22) (st := []) (st1 := [.int (f_J6_numberOfLeadingZeros_0f7a4 z_1)]) F hK (hpR hP hS hp_nil) (c_J6_numberOfLeadingZeros_0f7a4 (l := l) (D := D) (cy := cy) (g := g) (rfl : f_J6_numberOfLeadingZeros_0f7a4 z_1 = _)) tm_798 cf_J6_numberOfLeadingZeros_0f7a4 (Nat.le_of_ble_eq_true rfl) (Nat.le_of_ble_eq_true rfl) ⟨Nat.zero_le _, Nat.zero_le _⟩ rfl rfl (Nat.le_of_ble_eq_true rfl) rfl dJ13_numberOfLeadingZeros_95d88_22 ?_
    exact j_iretR (pc := 25) F dJ13_numberOfLeadingZeros_95d88_25 hf
  · have hf := of_pos c_2 hf
    refine j_bipush (pc := 10) F (v := 32) dJ13_numberOfLeadingZeros_95d88_10 rfl ?_
    refine j_lload_n (pc := 12) F 1 dJ13_numberOfLeadingZeros_95d88_12 rfl rfl ?_
    refine j_l2i (pc := 13) F dJ13_numberOfLeadingZeros_95d88_13 ?_
    refine j_callRS (pc := 14) (st := [.int 32]) (st1 := [.int (f_J6_numberOfLeadingZeros_0f7a4 x0.toInt32), .int 32]) F hK (hpR hP hS hp_nil) (c_J6_numberOfLeadingZeros_0f7a4 (l := l) (D := D) (cy := cy) (g := g) (rfl : f_J6_numberOfLeadingZeros_0f7a4 x0.toInt32 = _)) tm_798 cf_J6_numberOfLeadingZeros_0f7a4 (Nat.le_of_ble_eq_true rfl) (Nat.le_of_ble_eq_true rfl) ⟨Nat.zero_le _, Nat.zero_le _⟩ rfl rfl (Nat.le_of_ble_eq_true rfl) rfl dJ13_numberOfLeadingZeros_95d88_14 ?_
    refine j_iadd (pc := 17) F dJ13_numberOfLeadingZeros_95d88_17 ?_
    refine j_goto (pc := 18) F (tgt := 25) dJ13_numberOfLeadingZeros_95d88_18 rfl ?_
    exact j_iretR (pc := 25) F dJ13_numberOfLeadingZeros_95d88_25 hf
theorem cf_J13_numberOfLeadingZeros_95d88 : cfS yJ13_numberOfLeadingZeros_95d88 cJ13_numberOfLeadingZeros_95d88 3 (some .int) 1 := ⟨tm_796, tm_67, tm_797, by decide, by decide, by decide +kernel⟩

def f_J13_numberOfTrailingZeros_95d88 (x0 : Int64) : Int32 := if x0.toInt32 = 0 then 32 + (f_J6_numberOfTrailingZeros_0f7a4 (((x0.toUInt64 >>> ((32 : Int32).toInt64.toUInt64 &&& Int64.toUInt64 63)).toInt64).toInt32)) else f_J6_numberOfTrailingZeros_0f7a4 x0.toInt32
set_option maxHeartbeats 4000000 in
set_option maxRecDepth 100000 in
theorem c_J13_numberOfTrailingZeros_95d88 {l : Launch} {D : va_G} {cy : Nat → ClassId} {g : Gs} {x0 : Int64} {out : Int32} (hf : f_J13_numberOfTrailingZeros_95d88 x0 = out) : CR l D cy g yJ13_numberOfTrailingZeros_95d88 cJ13_numberOfTrailingZeros_95d88 3 (some .int) 1 21 ([]) [.long x0] (some (.int out)) := by
  unfold f_J13_numberOfTrailingZeros_95d88 at hf
  refine met_R (lv := [(0, .long x0)]) (by decide) (Nat.le_of_ble_eq_true rfl) rfl ?_
  intro p e s m args below meth c F hP hK hS
  refine j_lload_n (pc := 0) F 0 dJ13_numberOfTrailingZeros_95d88_0 rfl rfl ?_
  refine j_l2i (pc := 1) F dJ13_numberOfTrailingZeros_95d88_1 ?_
  refine j_istore_n (pc := 2) (lv' := [(2, .int x0.toInt32), (0, .long x0)]) F dJ13_numberOfTrailingZeros_95d88_2 rfl (by decide) rfl ?_
  refine j_iload_n (pc := 3) F 0 dJ13_numberOfTrailingZeros_95d88_3 rfl rfl ?_
  refine j_if_ne (pc := 4) (tgt := 21) F dJ13_numberOfTrailingZeros_95d88_4 rfl (fun c_1 => ?_) (fun c_1 => ?_)
  · have hf := of_neg c_1 hf
    refine j_iload_n (pc := 21) F 0 dJ13_numberOfTrailingZeros_95d88_21 rfl rfl ?_
    refine j_callRS (pc := 22) (st := []) (st1 := [.int (f_J6_numberOfTrailingZeros_0f7a4 x0.toInt32)]) F hK (hpR hP hS hp_nil) (c_J6_numberOfTrailingZeros_0f7a4 (l := l) (D := D) (cy := cy) (g := g) (rfl : f_J6_numberOfTrailingZeros_0f7a4 x0.toInt32 = _)) tm_791 cf_J6_numberOfTrailingZeros_0f7a4 (Nat.le_of_ble_eq_true rfl) (Nat.le_of_ble_eq_true rfl) ⟨Nat.zero_le _, Nat.zero_le _⟩ rfl rfl (Nat.le_of_ble_eq_true rfl) rfl dJ13_numberOfTrailingZeros_95d88_22 ?_
    exact j_iretR (pc := 25) F dJ13_numberOfTrailingZeros_95d88_25 hf
  · have hf := of_pos c_1 hf
    refine j_bipush (pc := 7) F (v := 32) dJ13_numberOfTrailingZeros_95d88_7 rfl ?_
    refine j_lload_n (pc := 9) F 1 dJ13_numberOfTrailingZeros_95d88_9 rfl rfl ?_
    refine j_bipush (pc := 10) F (v := 32) dJ13_numberOfTrailingZeros_95d88_10 rfl ?_
    refine j_lushr (pc := 12) F dJ13_numberOfTrailingZeros_95d88_12 ?_
    refine j_l2i (pc := 13) F dJ13_numberOfTrailingZeros_95d88_13 ?_
    refine j_callRS (pc := 14) (st := [.int 32]) (st1 := [.int (f_J6_numberOfTrailingZeros_0f7a4 (((x0.toUInt64 >>> ((32 : Int32).toInt64.toUInt64 &&& Int64.toUInt64 63)).toInt64).toInt32)), .int 32]) F hK (hpR hP hS hp_nil) (c_J6_numberOfTrailingZeros_0f7a4 (l := l) (D := D) (cy := cy) (g := g) (rfl : f_J6_numberOfTrailingZeros_0f7a4 (((x0.toUInt64 >>> ((32 : Int32).toInt64.toUInt64 &&& Int64.toUInt64 63)).toInt64).toInt32) = _)) tm_791 cf_J6_numberOfTrailingZeros_0f7a4 (Nat.le_of_ble_eq_true rfl) (Nat.le_of_ble_eq_true rfl) ⟨Nat.zero_le _, Nat.zero_le _⟩ rfl rfl (Nat.le_of_ble_eq_true rfl) rfl dJ13_numberOfTrailingZeros_95d88_14 ?_
    refine j_iadd (pc := 17) F dJ13_numberOfTrailingZeros_95d88_17 ?_
    refine j_goto (pc := 18) F (tgt := 25) dJ13_numberOfTrailingZeros_95d88_18 rfl ?_
    exact j_iretR (pc := 25) F dJ13_numberOfTrailingZeros_95d88_25 hf
theorem cf_J13_numberOfTrailingZeros_95d88 : cfS yJ13_numberOfTrailingZeros_95d88 cJ13_numberOfTrailingZeros_95d88 3 (some .int) 1 := ⟨tm_789, tm_67, tm_790, by decide, by decide, by decide +kernel⟩

def f_J13_bitCount_95d88 (x0 : Int64) : Int32 := lt (x0 - (((x0.toUInt64 >>> ((1 : Int32).toInt64.toUInt64 &&& Int64.toUInt64 63)).toInt64) &&& 6148914691236517205) : Int64) fun z_1 => lt ((z_1 &&& 3689348814741910323) + (((z_1.toUInt64 >>> ((2 : Int32).toInt64.toUInt64 &&& Int64.toUInt64 63)).toInt64) &&& 3689348814741910323) : Int64) fun z_2 => lt ((z_2 + ((z_2.toUInt64 >>> ((4 : Int32).toInt64.toUInt64 &&& Int64.toUInt64 63)).toInt64)) &&& 1085102592571150095 : Int64) fun z_3 => lt (z_3 + ((z_3.toUInt64 >>> ((8 : Int32).toInt64.toUInt64 &&& Int64.toUInt64 63)).toInt64) : Int64) fun z_4 => lt (z_4 + ((z_4.toUInt64 >>> ((16 : Int32).toInt64.toUInt64 &&& Int64.toUInt64 63)).toInt64) : Int64) fun z_5 => lt (z_5 + ((z_5.toUInt64 >>> ((32 : Int32).toInt64.toUInt64 &&& Int64.toUInt64 63)).toInt64) : Int64) fun z_6 => z_6.toInt32 &&& 127
set_option maxHeartbeats 4000000 in
set_option maxRecDepth 100000 in
theorem c_J13_bitCount_95d88 {l : Launch} {D : va_G} {cy : Nat → ClassId} {g : Gs} {x0 : Int64} {out : Int32} (hf : f_J13_bitCount_95d88 x0 = out) : CR l D cy g yJ13_bitCount_95d88 cJ13_bitCount_95d88 2 (some .int) 0 0 ([]) [.long x0] (some (.int out)) := by
  unfold f_J13_bitCount_95d88 at hf
  refine met_R (lv := [(0, .long x0)]) (by decide) (Nat.le_of_ble_eq_true rfl) rfl ?_
  intro p e s m args below meth c F hP hK hS
  refine j_lload_n (pc := 0) F 0 dJ13_bitCount_95d88_0 rfl rfl ?_
  refine j_lload_n (pc := 1) F 0 dJ13_bitCount_95d88_1 rfl rfl ?_
  refine j_iconst (pc := 2) F (v := 1) dJ13_bitCount_95d88_2 rfl ?_
  refine j_lushr (pc := 3) F dJ13_bitCount_95d88_3 ?_
  refine j_ldc2 (pc := 4) F tm_774 dJ13_bitCount_95d88_4 ?_
  refine j_land (pc := 7) F dJ13_bitCount_95d88_7 ?_
  refine j_lsub (pc := 8) F dJ13_bitCount_95d88_8 ?_
  obtain ⟨z_1, ez_1, hf⟩ := of_lt hf
  refine j_topl ez_1 ?_
  refine j_lstore_n (pc := 9) (lv' := [(0, .long z_1)]) F dJ13_bitCount_95d88_9 rfl (by decide) rfl ?_
  refine j_lload_n (pc := 10) F 0 dJ13_bitCount_95d88_10 rfl rfl ?_
  refine j_ldc2 (pc := 11) F tm_775 dJ13_bitCount_95d88_11 ?_
  refine j_land (pc := 14) F dJ13_bitCount_95d88_14 ?_
  refine j_lload_n (pc := 15) F 0 dJ13_bitCount_95d88_15 rfl rfl ?_
  refine j_iconst (pc := 16) F (v := 2) dJ13_bitCount_95d88_16 rfl ?_
  refine j_lushr (pc := 17) F dJ13_bitCount_95d88_17 ?_
  refine j_ldc2 (pc := 18) F tm_775 dJ13_bitCount_95d88_18 ?_
  refine j_land (pc := 21) F dJ13_bitCount_95d88_21 ?_
  refine j_ladd (pc := 22) F dJ13_bitCount_95d88_22 ?_
  obtain ⟨z_2, ez_2, hf⟩ := of_lt hf
  refine j_topl ez_2 ?_
  refine j_lstore_n (pc := 23) (lv' := [(0, .long z_2)]) F dJ13_bitCount_95d88_23 rfl (by decide) rfl ?_
  refine j_lload_n (pc := 24) F 0 dJ13_bitCount_95d88_24 rfl rfl ?_
  refine j_lload_n (pc := 25) F 0 dJ13_bitCount_95d88_25 rfl rfl ?_
  refine j_iconst (pc := 26) F (v := 4) dJ13_bitCount_95d88_26 rfl ?_
  refine j_lushr (pc := 27) F dJ13_bitCount_95d88_27 ?_
  refine j_ladd (pc := 28) F dJ13_bitCount_95d88_28 ?_
  refine j_ldc2 (pc := 29) F tm_776 dJ13_bitCount_95d88_29 ?_
  refine j_land (pc := 32) F dJ13_bitCount_95d88_32 ?_
  obtain ⟨z_3, ez_3, hf⟩ := of_lt hf
  refine j_topl ez_3 ?_
  refine j_lstore_n (pc := 33) (lv' := [(0, .long z_3)]) F dJ13_bitCount_95d88_33 rfl (by decide) rfl ?_
  refine j_lload_n (pc := 34) F 0 dJ13_bitCount_95d88_34 rfl rfl ?_
  refine j_lload_n (pc := 35) F 0 dJ13_bitCount_95d88_35 rfl rfl ?_
  refine j_bipush (pc := 36) F (v := 8) dJ13_bitCount_95d88_36 rfl ?_
  refine j_lushr (pc := 38) F dJ13_bitCount_95d88_38 ?_
  refine j_ladd (pc := 39) F dJ13_bitCount_95d88_39 ?_
  obtain ⟨z_4, ez_4, hf⟩ := of_lt hf
  refine j_topl ez_4 ?_
  refine j_lstore_n (pc := 40) (lv' := [(0, .long z_4)]) F dJ13_bitCount_95d88_40 rfl (by decide) rfl ?_
  refine j_lload_n (pc := 41) F 0 dJ13_bitCount_95d88_41 rfl rfl ?_
  refine j_lload_n (pc := 42) F 0 dJ13_bitCount_95d88_42 rfl rfl ?_
  refine j_bipush (pc := 43) F (v := 16) dJ13_bitCount_95d88_43 rfl ?_
  refine j_lushr (pc := 45) F dJ13_bitCount_95d88_45 ?_
  refine j_ladd (pc := 46) F dJ13_bitCount_95d88_46 ?_
  obtain ⟨z_5, ez_5, hf⟩ := of_lt hf
  refine j_topl ez_5 ?_
  refine j_lstore_n (pc := 47) (lv' := [(0, .long z_5)]) F dJ13_bitCount_95d88_47 rfl (by decide) rfl ?_
  refine j_lload_n (pc := 48) F 0 dJ13_bitCount_95d88_48 rfl rfl ?_
  refine j_lload_n (pc := 49) F 0 dJ13_bitCount_95d88_49 rfl rfl ?_
  refine j_bipush (pc := 50) F (v := 32) dJ13_bitCount_95d88_50 rfl ?_
  refine j_lushr (pc := 52) F dJ13_bitCount_95d88_52 ?_
  refine j_ladd (pc := 53) F dJ13_bitCount_95d88_53 ?_
  obtain ⟨z_6, ez_6, hf⟩ := of_lt hf
  refine j_topl ez_6 ?_
  refine j_lstore_n (pc := 54) (lv' := [(0, .long z_6)]) F dJ13_bitCount_95d88_54 rfl (by decide) rfl ?_
  refine j_lload_n (pc := 55) F 0 dJ13_bitCount_95d88_55 rfl rfl ?_
  refine j_l2i (pc := 56) F dJ13_bitCount_95d88_56 ?_
  refine j_bipush (pc := 57) F (v := 127) dJ13_bitCount_95d88_57 rfl ?_
  refine j_iand (pc := 59) F dJ13_bitCount_95d88_59 ?_
  exact j_iretR (pc := 60) F dJ13_bitCount_95d88_60 hf
theorem cf_J13_bitCount_95d88 : cfS yJ13_bitCount_95d88 cJ13_bitCount_95d88 2 (some .int) 1 := ⟨tm_772, tm_67, tm_773, by decide, by decide, by decide +kernel⟩
