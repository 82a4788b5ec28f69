def f_X5_isMoon (x0 : Int32) : Bool := if x0 < 0 then false else if 12000 < x0 then false else true
set_option maxHeartbeats 4000000 in
set_option maxRecDepth 100000 in
theorem c_X5_isMoon {l : Launch} {D : va_G} {cy : Nat → ClassId} {g : Gs} {x0 : Int32} {out : Bool} (hf : f_X5_isMoon x0 = out) : CR l D cy g yX5_isMoon cX5_isMoon 1 (some .boolean) 0 0 ([]) [.int x0] (some (.int (bI out))) := by
  unfold f_X5_isMoon at hf
  refine met_R (lv := [(0, .int x0)]) (by decide) (Nat.le_of_ble_eq_true rfl) rfl ?_
  intro p e s m args below meth c F hP hK hS
  refine j_iload_n (pc := 0) F 0 dX5_isMoon_0 rfl rfl ?_
  refine j_if_lt (pc := 1) (tgt := 15) F dX5_isMoon_1 rfl (fun c_1 => ?_) (fun c_1 => ?_)
  · have hf := of_pos c_1 hf
    refine j_iconst (pc := 15) F (v := 0) dX5_isMoon_15 rfl ?_
    exact j_zretR (pc := 16) F dX5_isMoon_16 (congrArg bI hf)
  · have hf := of_neg c_1 hf
    refine j_iload_n (pc := 4) F 0 dX5_isMoon_4 rfl rfl ?_
    refine j_sipush (pc := 5) F (v := 12000) dX5_isMoon_5 rfl ?_
    refine j_icmp_gt (pc := 8) (tgt := 15) F dX5_isMoon_8 rfl (fun c_2 => ?_) (fun c_2 => ?_)
    · have hf := of_pos c_2 hf
      refine j_iconst (pc := 15) F (v := 0) dX5_isMoon_15 rfl ?_
      exact j_zretR (pc := 16) F dX5_isMoon_16 (congrArg bI hf)
    · have hf := of_neg c_2 hf
      refine j_iconst (pc := 11) F (v := 1) dX5_isMoon_11 rfl ?_
      refine j_goto (pc := 12) F (tgt := 16) dX5_isMoon_12 rfl ?_
      exact j_zretR (pc := 16) F dX5_isMoon_16 (congrArg bI hf)
theorem cf_X5_isMoon : cfS yX5_isMoon cX5_isMoon 1 (some .boolean) 1 := ⟨tm_259, tm_54, tm_260, by decide, by decide, by decide +kernel⟩

def f_X5_isPlace (x0 : Int32) : Bool := if x0 < 0 then false else if 36000 ≤ x0 then false else true
set_option maxHeartbeats 4000000 in
set_option maxRecDepth 100000 in
theorem c_X5_isPlace {l : Launch} {D : va_G} {cy : Nat → ClassId} {g : Gs} {x0 : Int32} {out : Bool} (hf : f_X5_isPlace x0 = out) : CR l D cy g yX5_isPlace cX5_isPlace 1 (some .boolean) 0 0 ([]) [.int x0] (some (.int (bI out))) := by
  unfold f_X5_isPlace at hf
  refine met_R (lv := [(0, .int x0)]) (by decide) (Nat.le_of_ble_eq_true rfl) rfl ?_
  intro p e s m args below meth c F hP hK hS
  refine j_iload_n (pc := 0) F 0 dX5_isPlace_0 rfl rfl ?_
  refine j_if_lt (pc := 1) (tgt := 14) F dX5_isPlace_1 rfl (fun c_1 => ?_) (fun c_1 => ?_)
  · have hf := of_pos c_1 hf
    refine j_iconst (pc := 14) F (v := 0) dX5_isPlace_14 rfl ?_
    exact j_zretR (pc := 15) F dX5_isPlace_15 (congrArg bI hf)
  · have hf := of_neg c_1 hf
    refine j_iload_n (pc := 4) F 0 dX5_isPlace_4 rfl rfl ?_
    refine j_ldc (pc := 5) F tm_253 dX5_isPlace_5 ?_
    refine j_icmp_ge (pc := 7) (tgt := 14) F dX5_isPlace_7 rfl (fun c_2 => ?_) (fun c_2 => ?_)
    · have hf := of_pos c_2 hf
      refine j_iconst (pc := 14) F (v := 0) dX5_isPlace_14 rfl ?_
      exact j_zretR (pc := 15) F dX5_isPlace_15 (congrArg bI hf)
    · have hf := of_neg c_2 hf
      refine j_iconst (pc := 10) F (v := 1) dX5_isPlace_10 rfl ?_
      refine j_goto (pc := 11) F (tgt := 15) dX5_isPlace_11 rfl ?_
      exact j_zretR (pc := 15) F dX5_isPlace_15 (congrArg bI hf)
theorem cf_X5_isPlace : cfS yX5_isPlace cX5_isPlace 1 (some .boolean) 1 := ⟨tm_251, tm_54, tm_252, by decide, by decide, by decide +kernel⟩

def f_X5_halfWave_16 (t0 : Int32) : Option (Int32) := if (t0 / 1000) < 0 then if (10 - 1 : Int32) < 0 ∨ 10 ≤ Int32.toNatClampNeg (10 - 1 : Int32) then none else some (sF 0 (Int32.toNatClampNeg (10 - 1))) else if (t0 / 1000) < (10 - 1) then if (t0 / 1000) < 0 ∨ 10 ≤ Int32.toNatClampNeg (t0 / 1000) then none else if ((t0 / 1000) + 1) < 0 ∨ 10 ≤ Int32.toNatClampNeg ((t0 / 1000) + 1) then none else if (t0 / 1000) < 0 ∨ 10 ≤ Int32.toNatClampNeg (t0 / 1000) then none else some ((sF 0 (Int32.toNatClampNeg (t0 / 1000))) + ((((sF 0 (Int32.toNatClampNeg ((t0 / 1000) + 1))) - (sF 0 (Int32.toNatClampNeg (t0 / 1000)))) * (t0 - t0 / 1000 * 1000)) / 1000)) else if (10 - 1 : Int32) < 0 ∨ 10 ≤ Int32.toNatClampNeg (10 - 1 : Int32) then none else some (sF 0 (Int32.toNatClampNeg (10 - 1)))
def f_X5_halfWave (x0 : Int32) : Option (Int32) := if x0 ≤ 9000 then f_X5_halfWave_16 x0 else f_X5_halfWave_16 (18000 - x0)
set_option maxHeartbeats 4000000 in
set_option maxRecDepth 100000 in
theorem b_X5_halfWave_16 {l : Launch} {D : va_G} {cy : Nat → ClassId} {g : Gs} {p : Program} {e : Env} {s : State} {m : MethodId} {args : Array Value} {below : List Frame} {meth : Method} {c : Code} {out : Int32} (F : Fx p s m args meth c cX5_halfWave RX5 3 (some .int)) (hP : va_P D vwCl ([]) s.heap) (hK : va_K D vwCl (tys cy) s) (hS : St g nA s s.heap) :
    ∀ (t0 : Int32), f_X5_halfWave_16 t0 = some out → J p l e { frames := 0, cells := 0, slots := 0, locals := 0 } s m args below meth c 3 (hR s) 0 0 (MQ below (QR (some (.int out))) args s 0 0 nA) 16 [] [.int t0] := by
  intro t0 hf
  unfold f_X5_halfWave_16 at hf
  refine j_istore_n (pc := 16) (lv' := [(1, .int t0)]) F dX5_halfWave_16 rfl (by decide) rfl ?_
  refine j_iload_n (pc := 17) F 0 dX5_halfWave_17 rfl rfl ?_
  refine j_sipush (pc := 18) F (v := 1000) dX5_halfWave_18 rfl ?_
  refine j_idiv (pc := 21) F dX5_halfWave_21 (by decide) ?_
  refine j_istore_n (pc := 22) (lv' := [(2, .int (t0 / 1000)), (1, .int t0)]) F dX5_halfWave_22 rfl (by decide) rfl ?_
  refine j_iload_n (pc := 23) F 0 dX5_halfWave_23 rfl rfl ?_
  refine j_if_lt (pc := 24) (tgt := 37) F dX5_halfWave_24 rfl (fun c_1 => ?_) (fun c_1 => ?_)
  · have hf := of_pos c_1 hf
    refine jr_gets (pc := 37) F hS 0 (by decide) tm_289 dX5_halfWave_37 ?_
    refine jr_gets (pc := 40) F hS 0 (by decide) tm_289 dX5_halfWave_40 ?_
    refine jr_slen (pc := 43) (v := 10) F hS 0 (by decide) rfl dX5_halfWave_43 ?_
    refine j_iconst (pc := 44) F (v := 1) dX5_halfWave_44 rfl ?_
    refine j_isub (pc := 45) F dX5_halfWave_45 ?_
    have c_2 : ¬ ((10 - 1 : Int32) < 0 ∨ 10 ≤ Int32.toNatClampNeg (10 - 1 : Int32)) := fun z => by rw [if_pos z] at hf; cases hf
    have hf := of_neg c_2 hf
    refine jr_sald (pc := 46) F hS 0 (by decide) c_2 dX5_halfWave_46 ?_
    exact j_iretR (pc := 47) F dX5_halfWave_47 (Option.some.inj hf)
  · have hf := of_neg c_1 hf
    refine j_iload_n (pc := 27) F 0 dX5_halfWave_27 rfl rfl ?_
    refine jr_gets (pc := 28) F hS 0 (by decide) tm_289 dX5_halfWave_28 ?_
    refine jr_slen (pc := 31) (v := 10) F hS 0 (by decide) rfl dX5_halfWave_31 ?_
    refine j_iconst (pc := 32) F (v := 1) dX5_halfWave_32 rfl ?_
    refine j_isub (pc := 33) F dX5_halfWave_33 ?_
    refine j_icmp_lt (pc := 34) (tgt := 48) F dX5_halfWave_34 rfl (fun c_3 => ?_) (fun c_3 => ?_)
    · have hf := of_pos c_3 hf
      refine jr_gets (pc := 48) F hS 0 (by decide) tm_289 dX5_halfWave_48 ?_
      refine j_iload_n (pc := 51) F 0 dX5_halfWave_51 rfl rfl ?_
      have c_4 : ¬ ((t0 / 1000) < 0 ∨ 10 ≤ Int32.toNatClampNeg (t0 / 1000)) := fun z => by rw [if_pos z] at hf; cases hf
      have hf := of_neg c_4 hf
      refine jr_sald (pc := 52) F hS 0 (by decide) c_4 dX5_halfWave_52 ?_
      refine jr_gets (pc := 53) F hS 0 (by decide) tm_289 dX5_halfWave_53 ?_
      refine j_iload_n (pc := 56) F 0 dX5_halfWave_56 rfl rfl ?_
      refine j_iconst (pc := 57) F (v := 1) dX5_halfWave_57 rfl ?_
      refine j_iadd (pc := 58) F dX5_halfWave_58 ?_
      have c_5 : ¬ (((t0 / 1000) + 1) < 0 ∨ 10 ≤ Int32.toNatClampNeg ((t0 / 1000) + 1)) := fun z => by rw [if_pos z] at hf; cases hf
      have hf := of_neg c_5 hf
      refine jr_sald (pc := 59) F hS 0 (by decide) c_5 dX5_halfWave_59 ?_
      refine jr_gets (pc := 60) F hS 0 (by decide) tm_289 dX5_halfWave_60 ?_
      refine j_iload_n (pc := 63) F 0 dX5_halfWave_63 rfl rfl ?_
      have c_6 : ¬ ((t0 / 1000) < 0 ∨ 10 ≤ Int32.toNatClampNeg (t0 / 1000)) := fun z => by rw [if_pos z] at hf; cases hf
      have hf := of_neg c_6 hf
      refine jr_sald (pc := 64) F hS 0 (by decide) c_6 dX5_halfWave_64 ?_
      refine j_isub (pc := 65) F dX5_halfWave_65 ?_
      refine j_iload_n (pc := 66) F 1 dX5_halfWave_66 rfl rfl ?_
      refine j_sipush (pc := 67) F (v := 1000) dX5_halfWave_67 rfl ?_
      refine j_irem (pc := 70) F dX5_halfWave_70 (by decide) ?_
      refine j_imul (pc := 71) F dX5_halfWave_71 ?_
      refine j_sipush (pc := 72) F (v := 1000) dX5_halfWave_72 rfl ?_
      refine j_idiv (pc := 75) F dX5_halfWave_75 (by decide) ?_
      refine j_iadd (pc := 76) F dX5_halfWave_76 ?_
      exact j_iretR (pc := 77) F dX5_halfWave_77 (Option.some.inj hf)
    · have hf := of_neg c_3 hf
      refine jr_gets (pc := 37) F hS 0 (by decide) tm_289 dX5_halfWave_37 ?_
      refine jr_gets (pc := 40) F hS 0 (by decide) tm_289 dX5_halfWave_40 ?_
      refine jr_slen (pc := 43) (v := 10) F hS 0 (by decide) rfl dX5_halfWave_43 ?_
      refine j_iconst (pc := 44) F (v := 1) dX5_halfWave_44 rfl ?_
      refine j_isub (pc := 45) F dX5_halfWave_45 ?_
      have c_7 : ¬ ((10 - 1 : Int32) < 0 ∨ 10 ≤ Int32.toNatClampNeg (10 - 1 : Int32)) := fun z => by rw [if_pos z] at hf; cases hf
      have hf := of_neg c_7 hf
      refine jr_sald (pc := 46) F hS 0 (by decide) c_7 dX5_halfWave_46 ?_
      exact j_iretR (pc := 47) F dX5_halfWave_47 (Option.some.inj hf)
set_option maxHeartbeats 4000000 in
set_option maxRecDepth 100000 in
theorem c_X5_halfWave {l : Launch} {D : va_G} {cy : Nat → ClassId} {g : Gs} {x0 : Int32} {out : Int32} (hf : f_X5_halfWave x0 = some out) : CR l D cy g yX5_halfWave cX5_halfWave 3 (some .int) 0 0 ([]) [.int x0] (some (.int out)) := by
  unfold f_X5_halfWave at hf
  refine met_R (lv := [(0, .int x0)]) (by decide) (Nat.le_of_ble_eq_true rfl) rfl ?_
  intro p e s m args below meth c F hP hK hS
  refine j_iload_n (pc := 0) F 0 dX5_halfWave_0 rfl rfl ?_
  refine j_sipush (pc := 1) F (v := 9000) dX5_halfWave_1 rfl ?_
  refine j_icmp_le (pc := 4) (tgt := 15) F dX5_halfWave_4 rfl (fun c_1 => ?_) (fun c_1 => ?_)
  · have hf := of_pos c_1 hf
    refine j_iload_n (pc := 15) F 0 dX5_halfWave_15 rfl rfl ?_
    refine j_sub [] rfl ?_
    exact b_X5_halfWave_16 F hP hK hS x0 hf
  · have hf := of_neg c_1 hf
    refine j_sipush (pc := 7) F (v := 18000) dX5_halfWave_7 rfl ?_
    refine j_iload_n (pc := 10) F 0 dX5_halfWave_10 rfl rfl ?_
    refine j_isub (pc := 11) F dX5_halfWave_11 ?_
    refine j_goto (pc := 12) F (tgt := 16) dX5_halfWave_12 rfl ?_
    refine j_sub [] rfl ?_
    exact b_X5_halfWave_16 F hP hK hS (18000 - x0) hf
theorem cf_X5_halfWave : cfS yX5_halfWave cX5_halfWave 3 (some .int) 1 := ⟨tm_287, tm_54, tm_288, by decide, by decide, by decide +kernel⟩

def f_X5_waveOf (x0 : Int32) : Option (Int32) := if x0 ≤ 18000 then (f_X5_halfWave x0).bind fun o_2 => some o_2 else (f_X5_halfWave (x0 - 18000)).bind fun o_3 => some (-o_3)
set_option maxHeartbeats 4000000 in
set_option maxRecDepth 100000 in
theorem c_X5_waveOf {l : Launch} {D : va_G} {cy : Nat → ClassId} {g : Gs} {x0 : Int32} {out : Int32} (hf : f_X5_waveOf x0 = some out) : CR l D cy g yX5_waveOf cX5_waveOf 1 (some .int) 1 22 ([]) [.int x0] (some (.int out)) := by
  unfold f_X5_waveOf at hf
  refine met_R (lv := [(0, .int x0)]) (by decide) (Nat.le_of_ble_eq_true rfl) rfl ?_
  intro p e s m args below meth c F hP hK hS
  refine j_iload_n (pc := 0) F 0 dX5_waveOf_0 rfl rfl ?_
  refine j_sipush (pc := 1) F (v := 18000) dX5_waveOf_1 rfl ?_
  refine j_icmp_le (pc := 4) (tgt := 19) F dX5_waveOf_4 rfl (fun c_1 => ?_) (fun c_1 => ?_)
  · have hf := of_pos c_1 hf
    refine j_iload_n (pc := 19) F 0 dX5_waveOf_19 rfl rfl ?_
    obtain ⟨o_2, ho_2, hf⟩ := of_bnd hf
    refine j_callRS (pc := 20) (st := []) (st1 := [.int o_2]) F hK (hpR hP hS hp_nil) (c_X5_halfWave (l := l) (D := D) (cy := cy) (g := g) ho_2) tm_286 cf_X5_halfWave (Nat.le_of_ble_eq_true rfl) (Nat.le_of_ble_eq_true rfl) ⟨Nat.zero_le _, Nat.zero_le _⟩ rfl rfl (Nat.le_of_ble_eq_true rfl) rfl dX5_waveOf_20 ?_
    exact j_iretR (pc := 23) F dX5_waveOf_23 (Option.some.inj hf)
  · have hf := of_neg c_1 hf
    refine j_iload_n (pc := 7) F 0 dX5_waveOf_7 rfl rfl ?_
    refine j_sipush (pc := 8) F (v := 18000) dX5_waveOf_8 rfl ?_
    refine j_isub (pc := 11) F dX5_waveOf_11 ?_
    obtain ⟨o_3, ho_3, hf⟩ := of_bnd hf
    refine j_callRS (pc := 12) (st := []) (st1 := [.int o_3]) F hK (hpR hP hS hp_nil) (c_X5_halfWave (l := l) (D := D) (cy := cy) (g := g) ho_3) tm_286 cf_X5_halfWave (Nat.le_of_ble_eq_true rfl) (Nat.le_of_ble_eq_true rfl) ⟨Nat.zero_le _, Nat.zero_le _⟩ rfl rfl (Nat.le_of_ble_eq_true rfl) rfl dX5_waveOf_12 ?_
    refine j_ineg (pc := 15) F dX5_waveOf_15 ?_
    refine j_goto (pc := 16) F (tgt := 23) dX5_waveOf_16 rfl ?_
    exact j_iretR (pc := 23) F dX5_waveOf_23 (Option.some.inj hf)
theorem cf_X5_waveOf : cfS yX5_waveOf cX5_waveOf 1 (some .int) 1 := ⟨tm_284, tm_54, tm_285, by decide, by decide, by decide +kernel⟩

def f_X5_moonKind (x0 : Int32) : Int32 := if 480 < x0 then if 1080 < x0 then 0 else 5 else 4
set_option maxHeartbeats 4000000 in
set_option maxRecDepth 100000 in
theorem c_X5_moonKind {l : Launch} {D : va_G} {cy : Nat → ClassId} {g : Gs} {x0 : Int32} {out : Int32} (hf : f_X5_moonKind x0 = out) : CR l D cy g yX5_moonKind cX5_moonKind 1 (some .int) 0 0 ([]) [.int x0] (some (.int out)) := by
  unfold f_X5_moonKind at hf
  refine met_R (lv := [(0, .int x0)]) (by decide) (Nat.le_of_ble_eq_true rfl) rfl ?_
  intro p e s m args below meth c F hP hK hS
  refine j_iload_n (pc := 0) F 0 dX5_moonKind_0 rfl rfl ?_
  refine j_sipush (pc := 1) F (v := 480) dX5_moonKind_1 rfl ?_
  refine j_icmp_gt (pc := 4) (tgt := 9) F dX5_moonKind_4 rfl (fun c_1 => ?_) (fun c_1 => ?_)
  · have hf := of_pos c_1 hf
    refine j_iload_n (pc := 9) F 0 dX5_moonKind_9 rfl rfl ?_
    refine j_sipush (pc := 10) F (v := 1080) dX5_moonKind_10 rfl ?_
    refine j_icmp_gt (pc := 13) (tgt := 20) F dX5_moonKind_13 rfl (fun c_2 => ?_) (fun c_2 => ?_)
    · have hf := of_pos c_2 hf
      refine j_iconst (pc := 20) F (v := 0) dX5_moonKind_20 rfl ?_
      exact j_iretR (pc := 21) F dX5_moonKind_21 hf
    · have hf := of_neg c_2 hf
      refine j_iconst (pc := 16) F (v := 5) dX5_moonKind_16 rfl ?_
      refine j_goto (pc := 17) F (tgt := 21) dX5_moonKind_17 rfl ?_
      exact j_iretR (pc := 21) F dX5_moonKind_21 hf
  · have hf := of_neg c_1 hf
    refine j_iconst (pc := 7) F (v := 4) dX5_moonKind_7 rfl ?_
    exact j_iretR (pc := 8) F dX5_moonKind_8 hf
theorem cf_X5_moonKind : cfS yX5_moonKind cX5_moonKind 1 (some .int) 1 := ⟨tm_308, tm_54, tm_309, by decide, by decide, by decide +kernel⟩

def f_X5_minuteSeen (x0 : Int32) (x1 : Int32) (x2 : Int32) : Int32 := (x0 + x1) + (((x2 * (x0 / 525600)) * (x0 / 525600)) / 10000)
set_option maxHeartbeats 4000000 in
set_option maxRecDepth 100000 in
theorem c_X5_minuteSeen {l : Launch} {D : va_G} {cy : Nat → ClassId} {g : Gs} {x0 : Int32} {x1 : Int32} {x2 : Int32} {out : Int32} (hf : f_X5_minuteSeen x0 x1 x2 = out) : CR l D cy g yX5_minuteSeen cX5_minuteSeen 4 (some .int) 0 0 ([]) [.int x0, .int x1, .int x2] (some (.int out)) := by
  unfold f_X5_minuteSeen at hf
  refine met_R (lv := [(0, .int x0), (1, .int x1), (2, .int x2)]) (by decide) (Nat.le_of_ble_eq_true rfl) rfl ?_
  intro p e s m args below meth c F hP hK hS
  refine j_iload_n (pc := 0) F 0 dX5_minuteSeen_0 rfl rfl ?_
  refine j_ldc (pc := 1) F tm_400 dX5_minuteSeen_1 ?_
  refine j_idiv (pc := 3) F dX5_minuteSeen_3 (by decide) ?_
  refine j_istore_n (pc := 4) (lv' := [(3, .int (x0 / 525600)), (0, .int x0), (1, .int x1), (2, .int x2)]) F dX5_minuteSeen_4 rfl (by decide) rfl ?_
  refine j_iload_n (pc := 5) F 1 dX5_minuteSeen_5 rfl rfl ?_
  refine j_iload_n (pc := 6) F 2 dX5_minuteSeen_6 rfl rfl ?_
  refine j_iadd (pc := 7) F dX5_minuteSeen_7 ?_
  refine j_iload_n (pc := 8) F 3 dX5_minuteSeen_8 rfl rfl ?_
  refine j_iload_n (pc := 9) F 0 dX5_minuteSeen_9 rfl rfl ?_
  refine j_imul (pc := 10) F dX5_minuteSeen_10 ?_
  refine j_iload_n (pc := 11) F 0 dX5_minuteSeen_11 rfl rfl ?_
  refine j_imul (pc := 12) F dX5_minuteSeen_12 ?_
  refine j_sipush (pc := 13) F (v := 10000) dX5_minuteSeen_13 rfl ?_
  refine j_idiv (pc := 16) F dX5_minuteSeen_16 (by decide) ?_
  refine j_iadd (pc := 17) F dX5_minuteSeen_17 ?_
  exact j_iretR (pc := 18) F dX5_minuteSeen_18 hf
theorem cf_X5_minuteSeen : cfS yX5_minuteSeen cX5_minuteSeen 4 (some .int) 3 := ⟨tm_398, tm_54, tm_399, by decide, by decide, by decide +kernel⟩

def f_X5_setTables (σS : St2) (x1 : Int32) (x2 : Int32) (x3 : Int32) : Bool × St2 := if (bI (f_X5_isPlace x1)) = 0 then (false, σS) else if (bI (f_X5_isPlace x2)) = 0 then (false, σS) else if (bI (f_X5_isPlace x3)) = 0 then (false, σS) else lt ((σS 0 3) + 1 : Int32) fun z_7 => (true, up2 (up2 (up2 (up2 (up2 σS 0 0 x1) 0 1 x2) 0 2 x3) 0 4 0) 0 3 z_7)
set_option maxHeartbeats 4000000 in
set_option maxRecDepth 100000 in
theorem c_X5_setTables {l : Launch} {D : va_G} {cy : Nat → ClassId} {g : Gs} {aS : Nat → Nat} {σS : St2} {x1 : Int32} {x2 : Int32} {x3 : Int32} {out : Bool × St2} (hf : f_X5_setTables σS x1 x2 x3 = out) : CW l D cy g yX5_setTables cX5_setTables 4 (some .boolean) 1 20 (wS aS cy σS) [.ref (aS 0), .int x1, .int x2, .int x3] (some (.int (bI out.1))) (wS aS cy out.2) := by
  unfold f_X5_setTables at hf
  refine met_W (lv := [(0, .ref (aS 0)), (1, .int x1), (2, .int x2), (3, .int x3)]) (by decide) (Nat.le_of_ble_eq_true rfl) rfl ?_
  intro p e s m args below meth c A F hK hS hA
  refine j_iload_n (pc := 0) F 1 dX5_setTables_0 rfl rfl ?_
  refine j_callRS (pc := 1) (st := []) (st1 := [.int (bI (f_X5_isPlace x1))]) F hK (hpW hS hp_nil) (c_X5_isPlace (l := l) (D := D) (cy := cy) (g := g) (rfl : f_X5_isPlace x1 = _)) tm_250 cf_X5_isPlace (Nat.le_of_ble_eq_true rfl) (Nat.le_of_ble_eq_true rfl) ⟨Nat.zero_le _, Nat.zero_le _⟩ rfl rfl (Nat.le_of_ble_eq_true rfl) rfl dX5_setTables_1 ?_
  refine j_if_eq (pc := 4) (tgt := 21) F dX5_setTables_4 rfl (fun c_2 => ?_) (fun c_2 => ?_)
  · have hf := of_pos c_2 hf
    refine j_iconst (pc := 21) F (v := 0) dX5_setTables_21 rfl ?_
    have hf := hf
    subst hf
    exact j_zretW (pc := 22) F dX5_setTables_22 rfl rfl
  · have hf := of_neg c_2 hf
    refine j_iload_n (pc := 7) F 2 dX5_setTables_7 rfl rfl ?_
    refine j_callRS (pc := 8) (st := []) (st1 := [.int (bI (f_X5_isPlace x2))]) F hK (hpW hS hp_nil) (c_X5_isPlace (l := l) (D := D) (cy := cy) (g := g) (rfl : f_X5_isPlace x2 = _)) tm_250 cf_X5_isPlace (Nat.le_of_ble_eq_true rfl) (Nat.le_of_ble_eq_true rfl) ⟨Nat.zero_le _, Nat.zero_le _⟩ rfl rfl (Nat.le_of_ble_eq_true rfl) rfl dX5_setTables_8 ?_
    refine j_if_eq (pc := 11) (tgt := 21) F dX5_setTables_11 rfl (fun c_4 => ?_) (fun c_4 => ?_)
    · have hf := of_pos c_4 hf
      refine j_iconst (pc := 21) F (v := 0) dX5_setTables_21 rfl ?_
      have hf := hf
      subst hf
      exact j_zretW (pc := 22) F dX5_setTables_22 rfl rfl
    · have hf := of_neg c_4 hf
      refine j_iload_n (pc := 14) F 3 dX5_setTables_14 rfl rfl ?_
      refine j_callRS (pc := 15) (st := []) (st1 := [.int (bI (f_X5_isPlace x3))]) F hK (hpW hS hp_nil) (c_X5_isPlace (l := l) (D := D) (cy := cy) (g := g) (rfl : f_X5_isPlace x3 = _)) tm_250 cf_X5_isPlace (Nat.le_of_ble_eq_true rfl) (Nat.le_of_ble_eq_true rfl) ⟨Nat.zero_le _, Nat.zero_le _⟩ rfl rfl (Nat.le_of_ble_eq_true rfl) rfl dX5_setTables_15 ?_
      refine j_if_ne (pc := 18) (tgt := 23) F dX5_setTables_18 rfl (fun c_6 => ?_) (fun c_6 => ?_)
      · have hf := of_neg c_6 hf
        refine j_aload_n (pc := 23) F 0 dX5_setTables_23 rfl rfl ?_
        refine j_iload_n (pc := 24) F 1 dX5_setTables_24 rfl rfl ?_
        refine jw_put (pc := 25) (w' := wS aS cy (up2 σS 0 0 x1)) F hK ix_5 tyX5 tyX5_ok nmX5 0 rfl rfl 0 (by decide) tm_83 rfl rfl rfl rfl rfl (Nat.le_of_ble_eq_true rfl) (wS_put_0 _ _ _ _) dX5_setTables_25 ?_
        refine j_aload_n (pc := 28) F 0 dX5_setTables_28 rfl rfl ?_
        refine j_iload_n (pc := 29) F 2 dX5_setTables_29 rfl rfl ?_
        refine jw_put (pc := 30) (w' := wS aS cy (up2 (up2 σS 0 0 x1) 0 1 x2)) F hK ix_5 tyX5 tyX5_ok nmX5 0 rfl rfl 1 (by decide) tm_84 rfl rfl rfl rfl rfl (Nat.le_of_ble_eq_true rfl) (wS_put_1 _ _ _ _) dX5_setTables_30 ?_
        refine j_aload_n (pc := 33) F 0 dX5_setTables_33 rfl rfl ?_
        refine j_iload_n (pc := 34) F 3 dX5_setTables_34 rfl rfl ?_
        refine jw_put (pc := 35) (w' := wS aS cy (up2 (up2 (up2 σS 0 0 x1) 0 1 x2) 0 2 x3)) F hK ix_5 tyX5 tyX5_ok nmX5 0 rfl rfl 2 (by decide) tm_85 rfl rfl rfl rfl rfl (Nat.le_of_ble_eq_true rfl) (wS_put_2 _ _ _ _) dX5_setTables_35 ?_
        refine j_aload_n (pc := 38) F 0 dX5_setTables_38 rfl rfl ?_
        refine j_iconst (pc := 39) F (v := 0) dX5_setTables_39 rfl ?_
        refine jw_put (pc := 40) (w' := wS aS cy (up2 (up2 (up2 (up2 σS 0 0 x1) 0 1 x2) 0 2 x3) 0 4 0)) F hK ix_5 tyX5 tyX5_ok nmX5 0 rfl rfl 4 (by decide) tm_87 rfl rfl rfl rfl rfl (Nat.le_of_ble_eq_true rfl) (wS_put_4 _ _ _ _) dX5_setTables_40 ?_
        refine j_aload_n (pc := 43) F 0 dX5_setTables_43 rfl rfl ?_
        refine j_dup (pc := 44) F dX5_setTables_44 rfl ?_
        refine jw_get (pc := 45) (v := .int (σS 0 3)) F hK ix_5 0 rfl rfl 3 (by decide) tm_86 rfl rfl dX5_setTables_45 ?_
        refine j_iconst (pc := 48) F (v := 1) dX5_setTables_48 rfl ?_
        refine j_iadd (pc := 49) F dX5_setTables_49 ?_
        obtain ⟨z_7, ez_7, hf⟩ := of_lt hf
        refine j_topi ez_7 ?_
        refine jw_put (pc := 50) (w' := wS aS cy (up2 (up2 (up2 (up2 (up2 σS 0 0 x1) 0 1 x2) 0 2 x3) 0 4 0) 0 3 z_7)) F hK ix_5 tyX5 tyX5_ok nmX5 0 rfl rfl 3 (by decide) tm_86 rfl rfl rfl rfl rfl (Nat.le_of_ble_eq_true rfl) (wS_put_3 _ _ _ _) dX5_setTables_50 ?_
        refine j_iconst (pc := 53) F (v := 1) dX5_setTables_53 rfl ?_
        have hf := hf
        subst hf
        exact j_zretW (pc := 54) F dX5_setTables_54 rfl rfl
      · have hf := of_pos c_6 hf
        refine j_iconst (pc := 21) F (v := 0) dX5_setTables_21 rfl ?_
        have hf := hf
        subst hf
        exact j_zretW (pc := 22) F dX5_setTables_22 rfl rfl
theorem cf_X5_setTables : cfV yX5_setTables cX5_setTables 4 (some .boolean) 3 := ⟨tm_247, tm_248, tm_54, tm_249, by decide, by decide, by decide +kernel⟩

def f_X5_tablesVersion (σS : St2) : Int32 := σS 0 3
set_option maxHeartbeats 4000000 in
set_option maxRecDepth 100000 in
theorem c_X5_tablesVersion {l : Launch} {D : va_G} {cy : Nat → ClassId} {g : Gs} {aS : Nat → Nat} {σS : St2} {out : Int32} (hf : f_X5_tablesVersion σS = out) : CR l D cy g yX5_tablesVersion cX5_tablesVersion 1 (some .int) 0 0 (wS aS cy σS) [.ref (aS 0)] (some (.int out)) := by
  unfold f_X5_tablesVersion at hf
  refine met_R (lv := [(0, .ref (aS 0))]) (by decide) (Nat.le_of_ble_eq_true rfl) rfl ?_
  intro p e s m args below meth c F hP hK hS
  refine j_aload_n (pc := 0) F 0 dX5_tablesVersion_0 rfl rfl ?_
  refine jr_get (pc := 1) (v := .int (σS 0 3)) F hK hP ix_5 0 rfl rfl 3 (by decide) tm_86 rfl rfl dX5_tablesVersion_1 ?_
  exact j_iretR (pc := 4) F dX5_tablesVersion_4 hf
theorem cf_X5_tablesVersion : cfV yX5_tablesVersion cX5_tablesVersion 1 (some .int) 0 := ⟨tm_759, tm_760, tm_54, tm_761, by decide, by decide, by decide +kernel⟩

def f_X5_moonPlace (σS : St2) (x1 : Int32) : Int32 := ((19291 * x1) + (σS 0 0)) - ((19291 * x1) + (σS 0 0)) / 36000 * 36000
set_option maxHeartbeats 4000000 in
set_option maxRecDepth 100000 in
theorem c_X5_moonPlace {l : Launch} {D : va_G} {cy : Nat → ClassId} {g : Gs} {aS : Nat → Nat} {σS : St2} {x1 : Int32} {out : Int32} (hf : f_X5_moonPlace σS x1 = out) : CR l D cy g yX5_moonPlace cX5_moonPlace 2 (some .int) 0 0 (wS aS cy σS) [.ref (aS 0), .int x1] (some (.int out)) := by
  unfold f_X5_moonPlace at hf
  refine met_R (lv := [(0, .ref (aS 0)), (1, .int x1)]) (by decide) (Nat.le_of_ble_eq_true rfl) rfl ?_
  intro p e s m args below meth c F hP hK hS
  refine j_sipush (pc := 0) F (v := 19291) dX5_moonPlace_0 rfl ?_
  refine j_iload_n (pc := 3) F 1 dX5_moonPlace_3 rfl rfl ?_
  refine j_imul (pc := 4) F dX5_moonPlace_4 ?_
  refine j_aload_n (pc := 5) F 0 dX5_moonPlace_5 rfl rfl ?_
  refine jr_get (pc := 6) (v := .int (σS 0 0)) F hK hP ix_5 0 rfl rfl 0 (by decide) tm_83 rfl rfl dX5_moonPlace_6 ?_
  refine j_iadd (pc := 9) F dX5_moonPlace_9 ?_
  refine j_ldc (pc := 10) F tm_253 dX5_moonPlace_10 ?_
  refine j_irem (pc := 12) F dX5_moonPlace_12 (by decide) ?_
  exact j_iretR (pc := 13) F dX5_moonPlace_13 hf
theorem cf_X5_moonPlace : cfV yX5_moonPlace cX5_moonPlace 2 (some .int) 1 := ⟨tm_262, tm_263, tm_54, tm_264, by decide, by decide, by decide +kernel⟩

def f_X5_sunPlace (σS : St2) (x1 : Int32) : Int32 := ((1455 * x1) + (σS 0 1)) - ((1455 * x1) + (σS 0 1)) / 36000 * 36000
set_option maxHeartbeats 4000000 in
set_option maxRecDepth 100000 in
theorem c_X5_sunPlace {l : Launch} {D : va_G} {cy : Nat → ClassId} {g : Gs} {aS : Nat → Nat} {σS : St2} {x1 : Int32} {out : Int32} (hf : f_X5_sunPlace σS x1 = out) : CR l D cy g yX5_sunPlace cX5_sunPlace 2 (some .int) 0 0 (wS aS cy σS) [.ref (aS 0), .int x1] (some (.int out)) := by
  unfold f_X5_sunPlace at hf
  refine met_R (lv := [(0, .ref (aS 0)), (1, .int x1)]) (by decide) (Nat.le_of_ble_eq_true rfl) rfl ?_
  intro p e s m args below meth c F hP hK hS
  refine j_sipush (pc := 0) F (v := 1455) dX5_sunPlace_0 rfl ?_
  refine j_iload_n (pc := 3) F 1 dX5_sunPlace_3 rfl rfl ?_
  refine j_imul (pc := 4) F dX5_sunPlace_4 ?_
  refine j_aload_n (pc := 5) F 0 dX5_sunPlace_5 rfl rfl ?_
  refine jr_get (pc := 6) (v := .int (σS 0 1)) F hK hP ix_5 0 rfl rfl 1 (by decide) tm_84 rfl rfl dX5_sunPlace_6 ?_
  refine j_iadd (pc := 9) F dX5_sunPlace_9 ?_
  refine j_ldc (pc := 10) F tm_253 dX5_sunPlace_10 ?_
  refine j_irem (pc := 12) F dX5_sunPlace_12 (by decide) ?_
  exact j_iretR (pc := 13) F dX5_sunPlace_13 hf
theorem cf_X5_sunPlace : cfV yX5_sunPlace cX5_sunPlace 2 (some .int) 1 := ⟨tm_266, tm_267, tm_54, tm_268, by decide, by decide, by decide +kernel⟩

def f_X5_nodePlace (σS : St2) (x1 : Int32) : Int32 := ((((1953353 * x1.toInt64) / 100) + ((σS 0 2).toInt64)) - (((1953353 * x1.toInt64) / 100) + ((σS 0 2).toInt64)) / 36000 * 36000).toInt32
set_option maxHeartbeats 4000000 in
set_option maxRecDepth 100000 in
theorem c_X5_nodePlace {l : Launch} {D : va_G} {cy : Nat → ClassId} {g : Gs} {aS : Nat → Nat} {σS : St2} {x1 : Int32} {out : Int32} (hf : f_X5_nodePlace σS x1 = out) : CR l D cy g yX5_nodePlace cX5_nodePlace 2 (some .int) 0 0 (wS aS cy σS) [.ref (aS 0), .int x1] (some (.int out)) := by
  unfold f_X5_nodePlace at hf
  refine met_R (lv := [(0, .ref (aS 0)), (1, .int x1)]) (by decide) (Nat.le_of_ble_eq_true rfl) rfl ?_
  intro p e s m args below meth c F hP hK hS
  refine j_ldc2 (pc := 0) F tm_273 dX5_nodePlace_0 ?_
  refine j_iload_n (pc := 3) F 1 dX5_nodePlace_3 rfl rfl ?_
  refine j_i2l (pc := 4) F dX5_nodePlace_4 ?_
  refine j_lmul (pc := 5) F dX5_nodePlace_5 ?_
  refine j_ldc2 (pc := 6) F tm_274 dX5_nodePlace_6 ?_
  refine j_ldiv (pc := 9) F dX5_nodePlace_9 (by decide) ?_
  refine j_aload_n (pc := 10) F 0 dX5_nodePlace_10 rfl rfl ?_
  refine jr_get (pc := 11) (v := .int (σS 0 2)) F hK hP ix_5 0 rfl rfl 2 (by decide) tm_85 rfl rfl dX5_nodePlace_11 ?_
  refine j_i2l (pc := 14) F dX5_nodePlace_14 ?_
  refine j_ladd (pc := 15) F dX5_nodePlace_15 ?_
  refine j_ldc2 (pc := 16) F tm_275 dX5_nodePlace_16 ?_
  refine j_lrem (pc := 19) F dX5_nodePlace_19 (by decide) ?_
  refine j_l2i (pc := 20) F dX5_nodePlace_20 ?_
  exact j_iretR (pc := 21) F dX5_nodePlace_21 hf
theorem cf_X5_nodePlace : cfV yX5_nodePlace cX5_nodePlace 2 (some .int) 1 := ⟨tm_270, tm_271, tm_54, tm_272, by decide, by decide, by decide +kernel⟩

def f_X5_timeOf (σS : St2) (x1 : Int32) : Option (Int32) := (f_X5_waveOf (f_X5_moonPlace σS x1)).bind fun o_2 => (f_J9_floorDiv_7cf53 (586 * o_2) 1000).bind fun o_3 => (f_X5_waveOf (f_X5_sunPlace σS x1)).bind fun o_5 => (f_J9_floorDiv_7cf53 (248 * o_5) 1000).bind fun o_6 => some ((((((212620236 * x1.toInt64) / 10000).toInt32) - o_3) + o_6) + 1000)
set_option maxHeartbeats 4000000 in
set_option maxRecDepth 100000 in
theorem c_X5_timeOf {l : Launch} {D : va_G} {cy : Nat → ClassId} {g : Gs} {aS : Nat → Nat} {σS : St2} {x1 : Int32} {out : Int32} (hf : f_X5_timeOf σS x1 = some out) : CR l D cy g yX5_timeOf cX5_timeOf 5 (some .int) 2 42 (wS aS cy σS) [.ref (aS 0), .int x1] (some (.int out)) := by
  unfold f_X5_timeOf at hf
  refine met_R (lv := [(0, .ref (aS 0)), (1, .int x1)]) (by decide) (Nat.le_of_ble_eq_true rfl) rfl ?_
  intro p e s m args below meth c F hP hK hS
  refine j_ldc2 (pc := 0) F tm_280 dX5_timeOf_0 ?_
  refine j_iload_n (pc := 3) F 1 dX5_timeOf_3 rfl rfl ?_
  refine j_i2l (pc := 4) F dX5_timeOf_4 ?_
  refine j_lmul (pc := 5) F dX5_timeOf_5 ?_
  refine j_ldc2 (pc := 6) F tm_281 dX5_timeOf_6 ?_
  refine j_ldiv (pc := 9) F dX5_timeOf_9 (by decide) ?_
  refine j_l2i (pc := 10) F dX5_timeOf_10 ?_
  refine j_istore_n (pc := 11) (lv' := [(2, .int (((212620236 * x1.toInt64) / 10000).toInt32)), (0, .ref (aS 0)), (1, .int x1)]) F dX5_timeOf_11 rfl (by decide) rfl ?_
  refine j_sipush (pc := 12) F (v := 586) dX5_timeOf_12 rfl ?_
  refine j_aload_n (pc := 15) F 1 dX5_timeOf_15 rfl rfl ?_
  refine j_iload_n (pc := 16) F 2 dX5_timeOf_16 rfl rfl ?_
  refine j_callRV (pc := 17) (st := [.int 586]) (st1 := [.int (f_X5_moonPlace σS x1), .int 586]) F hK (hpR hP hS hp_id) (c_X5_moonPlace (l := l) (D := D) (cy := cy) (g := g) (aS := aS) (rfl : f_X5_moonPlace σS x1 = _)) tm_282 cf_X5_moonPlace (Nat.le_of_ble_eq_true rfl) (Nat.le_of_ble_eq_true rfl) ⟨Nat.zero_le _, Nat.zero_le _⟩ 0 rfl rfl rfl rfl rfl (Nat.le_of_ble_eq_true rfl) rfl dX5_timeOf_17 ?_
  obtain ⟨o_2, ho_2, hf⟩ := of_bnd hf
  refine j_callRS (pc := 20) (st := [.int 586]) (st1 := [.int o_2, .int 586]) F hK (hpR hP hS hp_nil) (c_X5_waveOf (l := l) (D := D) (cy := cy) (g := g) ho_2) tm_283 cf_X5_waveOf (Nat.le_of_ble_eq_true rfl) (Nat.le_of_ble_eq_true rfl) ⟨Nat.zero_le _, Nat.zero_le _⟩ rfl rfl (Nat.le_of_ble_eq_true rfl) rfl dX5_timeOf_20 ?_
  refine j_imul (pc := 23) F dX5_timeOf_23 ?_
  refine j_sipush (pc := 24) F (v := 1000) dX5_timeOf_24 rfl ?_
  obtain ⟨o_3, ho_3, hf⟩ := of_bnd hf
  refine j_callRS (pc := 27) (st := []) (st1 := [.int o_3]) F hK (hpR hP hS hp_nil) (c_J9_floorDiv_7cf53 (l := l) (D := D) (cy := cy) (g := g) ho_3) tm_291 cf_J9_floorDiv_7cf53 (Nat.le_of_ble_eq_true rfl) (Nat.le_of_ble_eq_true rfl) ⟨Nat.zero_le _, Nat.zero_le _⟩ rfl rfl (Nat.le_of_ble_eq_true rfl) rfl dX5_timeOf_27 ?_
  refine j_istore_n (pc := 30) (lv' := [(3, .int o_3), (2, .int (((212620236 * x1.toInt64) / 10000).toInt32)), (0, .ref (aS 0)), (1, .int x1)]) F dX5_timeOf_30 rfl (by decide) rfl ?_
  refine j_sipush (pc := 31) F (v := 248) dX5_timeOf_31 rfl ?_
  refine j_aload_n (pc := 34) F 2 dX5_timeOf_34 rfl rfl ?_
  refine j_iload_n (pc := 35) F 3 dX5_timeOf_35 rfl rfl ?_
  refine j_callRV (pc := 36) (st := [.int 248]) (st1 := [.int (f_X5_sunPlace σS x1), .int 248]) F hK (hpR hP hS hp_id) (c_X5_sunPlace (l := l) (D := D) (cy := cy) (g := g) (aS := aS) (rfl : f_X5_sunPlace σS x1 = _)) tm_294 cf_X5_sunPlace (Nat.le_of_ble_eq_true rfl) (Nat.le_of_ble_eq_true rfl) ⟨Nat.zero_le _, Nat.zero_le _⟩ 0 rfl rfl rfl rfl rfl (Nat.le_of_ble_eq_true rfl) rfl dX5_timeOf_36 ?_
  obtain ⟨o_5, ho_5, hf⟩ := of_bnd hf
  refine j_callRS (pc := 39) (st := [.int 248]) (st1 := [.int o_5, .int 248]) F hK (hpR hP hS hp_nil) (c_X5_waveOf (l := l) (D := D) (cy := cy) (g := g) ho_5) tm_283 cf_X5_waveOf (Nat.le_of_ble_eq_true rfl) (Nat.le_of_ble_eq_true rfl) ⟨Nat.zero_le _, Nat.zero_le _⟩ rfl rfl (Nat.le_of_ble_eq_true rfl) rfl dX5_timeOf_39 ?_
  refine j_imul (pc := 42) F dX5_timeOf_42 ?_
  refine j_sipush (pc := 43) F (v := 1000) dX5_timeOf_43 rfl ?_
  obtain ⟨o_6, ho_6, hf⟩ := of_bnd hf
  refine j_callRS (pc := 46) (st := []) (st1 := [.int o_6]) F hK (hpR hP hS hp_nil) (c_J9_floorDiv_7cf53 (l := l) (D := D) (cy := cy) (g := g) ho_6) tm_291 cf_J9_floorDiv_7cf53 (Nat.le_of_ble_eq_true rfl) (Nat.le_of_ble_eq_true rfl) ⟨Nat.zero_le _, Nat.zero_le _⟩ rfl rfl (Nat.le_of_ble_eq_true rfl) rfl dX5_timeOf_46 ?_
  refine j_istore (pc := 49) (lv' := [(4, .int o_6), (3, .int o_3), (2, .int (((212620236 * x1.toInt64) / 10000).toInt32)), (0, .ref (aS 0)), (1, .int x1)]) F dX5_timeOf_49 (by decide) rfl ?_
  refine j_iload_n (pc := 51) F 2 dX5_timeOf_51 rfl rfl ?_
  refine j_iload_n (pc := 52) F 1 dX5_timeOf_52 rfl rfl ?_
  refine j_isub (pc := 53) F dX5_timeOf_53 ?_
  refine j_iload (pc := 54) F 0 dX5_timeOf_54 rfl ?_
  refine j_iadd (pc := 56) F dX5_timeOf_56 ?_
  refine j_sipush (pc := 57) F (v := 1000) dX5_timeOf_57 rfl ?_
  refine j_iadd (pc := 60) F dX5_timeOf_60 ?_
  exact j_iretR (pc := 61) F dX5_timeOf_61 (Option.some.inj hf)
theorem cf_X5_timeOf : cfV yX5_timeOf cX5_timeOf 5 (some .int) 1 := ⟨tm_277, tm_278, tm_54, tm_279, by decide, by decide, by decide +kernel⟩

def f_X5_sunKind (σS : St2) (x1 : Int32) (x2 : Int32) : Int32 := if x1 ≤ 1000 then if (f_X5_moonPlace σS x2) < 9000 then 1 else if (f_X5_moonPlace σS x2) < 27000 then 2 else 1 else if 1550 < x1 then 0 else 3
set_option maxHeartbeats 4000000 in
set_option maxRecDepth 100000 in
theorem c_X5_sunKind {l : Launch} {D : va_G} {cy : Nat → ClassId} {g : Gs} {aS : Nat → Nat} {σS : St2} {x1 : Int32} {x2 : Int32} {out : Int32} (hf : f_X5_sunKind σS x1 x2 = out) : CR l D cy g yX5_sunKind cX5_sunKind 4 (some .int) 1 21 (wS aS cy σS) [.ref (aS 0), .int x1, .int x2] (some (.int out)) := by
  unfold f_X5_sunKind at hf
  refine met_R (lv := [(0, .ref (aS 0)), (1, .int x1), (2, .int x2)]) (by decide) (Nat.le_of_ble_eq_true rfl) rfl ?_
  intro p e s m args below meth c F hP hK hS
  refine j_iload_n (pc := 0) F 1 dX5_sunKind_0 rfl rfl ?_
  refine j_sipush (pc := 1) F (v := 1000) dX5_sunKind_1 rfl ?_
  refine j_icmp_le (pc := 4) (tgt := 20) F dX5_sunKind_4 rfl (fun c_1 => ?_) (fun c_1 => ?_)
  · have hf := of_pos c_1 hf
    refine j_aload_n (pc := 20) F 0 dX5_sunKind_20 rfl rfl ?_
    refine j_iload_n (pc := 21) F 2 dX5_sunKind_21 rfl rfl ?_
    refine j_callRV (pc := 22) (st := []) (st1 := [.int (f_X5_moonPlace σS x2)]) F hK (hpR hP hS hp_id) (c_X5_moonPlace (l := l) (D := D) (cy := cy) (g := g) (aS := aS) (rfl : f_X5_moonPlace σS x2 = _)) tm_282 cf_X5_moonPlace (Nat.le_of_ble_eq_true rfl) (Nat.le_of_ble_eq_true rfl) ⟨Nat.zero_le _, Nat.zero_le _⟩ 0 rfl rfl rfl rfl rfl (Nat.le_of_ble_eq_true rfl) rfl dX5_sunKind_22 ?_
    refine j_istore_n (pc := 25) (lv' := [(3, .int (f_X5_moonPlace σS x2)), (0, .ref (aS 0)), (1, .int x1), (2, .int x2)]) F dX5_sunKind_25 rfl (by decide) rfl ?_
    refine j_iload_n (pc := 26) F 0 dX5_sunKind_26 rfl rfl ?_
    refine j_sipush (pc := 27) F (v := 9000) dX5_sunKind_27 rfl ?_
    refine j_icmp_lt (pc := 30) (tgt := 40) F dX5_sunKind_30 rfl (fun c_3 => ?_) (fun c_3 => ?_)
    · have hf := of_pos c_3 hf
      refine j_iconst (pc := 40) F (v := 1) dX5_sunKind_40 rfl ?_
      refine j_goto (pc := 41) F (tgt := 45) dX5_sunKind_41 rfl ?_
      exact j_iretR (pc := 45) F dX5_sunKind_45 hf
    · have hf := of_neg c_3 hf
      refine j_iload_n (pc := 33) F 0 dX5_sunKind_33 rfl rfl ?_
      refine j_sipush (pc := 34) F (v := 27000) dX5_sunKind_34 rfl ?_
      refine j_icmp_lt (pc := 37) (tgt := 44) F dX5_sunKind_37 rfl (fun c_4 => ?_) (fun c_4 => ?_)
      · have hf := of_pos c_4 hf
        refine j_iconst (pc := 44) F (v := 2) dX5_sunKind_44 rfl ?_
        exact j_iretR (pc := 45) F dX5_sunKind_45 hf
      · have hf := of_neg c_4 hf
        refine j_iconst (pc := 40) F (v := 1) dX5_sunKind_40 rfl ?_
        refine j_goto (pc := 41) F (tgt := 45) dX5_sunKind_41 rfl ?_
        exact j_iretR (pc := 45) F dX5_sunKind_45 hf
  · have hf := of_neg c_1 hf
    refine j_iload_n (pc := 7) F 1 dX5_sunKind_7 rfl rfl ?_
    refine j_sipush (pc := 8) F (v := 1550) dX5_sunKind_8 rfl ?_
    refine j_icmp_gt (pc := 11) (tgt := 18) F dX5_sunKind_11 rfl (fun c_5 => ?_) (fun c_5 => ?_)
    · have hf := of_pos c_5 hf
      refine j_iconst (pc := 18) F (v := 0) dX5_sunKind_18 rfl ?_
      exact j_iretR (pc := 19) F dX5_sunKind_19 hf
    · have hf := of_neg c_5 hf
      refine j_iconst (pc := 14) F (v := 3) dX5_sunKind_14 rfl ?_
      refine j_goto (pc := 15) F (tgt := 19) dX5_sunKind_15 rfl ?_
      exact j_iretR (pc := 19) F dX5_sunKind_19 hf
theorem cf_X5_sunKind : cfV yX5_sunKind cX5_sunKind 4 (some .int) 2 := ⟨tm_305, tm_0, tm_54, tm_306, by decide, by decide, by decide +kernel⟩

def f_X5_kindOf (σS : St2) (x1 : Int32) : Int32 := lt ((f_X5_nodePlace σS x1) - (f_X5_nodePlace σS x1) / 18000 * 18000 : Int32) fun z_2 => if (x1 - x1 / 2 * 2) = 0 then f_X5_sunKind σS (f_J9_min_7cf53 z_2 (18000 - z_2)) x1 else f_X5_moonKind (f_J9_min_7cf53 z_2 (18000 - z_2))
set_option maxHeartbeats 4000000 in
set_option maxRecDepth 100000 in
theorem c_X5_kindOf {l : Launch} {D : va_G} {cy : Nat → ClassId} {g : Gs} {aS : Nat → Nat} {σS : St2} {x1 : Int32} {out : Int32} (hf : f_X5_kindOf σS x1 = out) : CR l D cy g yX5_kindOf cX5_kindOf 4 (some .int) 2 44 (wS aS cy σS) [.ref (aS 0), .int x1] (some (.int out)) := by
  unfold f_X5_kindOf at hf
  refine met_R (lv := [(0, .ref (aS 0)), (1, .int x1)]) (by decide) (Nat.le_of_ble_eq_true rfl) rfl ?_
  intro p e s m args below meth c F hP hK hS
  refine j_aload_n (pc := 0) F 0 dX5_kindOf_0 rfl rfl ?_
  refine j_iload_n (pc := 1) F 1 dX5_kindOf_1 rfl rfl ?_
  refine j_callRV (pc := 2) (st := []) (st1 := [.int (f_X5_nodePlace σS x1)]) F hK (hpR hP hS hp_id) (c_X5_nodePlace (l := l) (D := D) (cy := cy) (g := g) (aS := aS) (rfl : f_X5_nodePlace σS x1 = _)) tm_299 cf_X5_nodePlace (Nat.le_of_ble_eq_true rfl) (Nat.le_of_ble_eq_true rfl) ⟨Nat.zero_le _, Nat.zero_le _⟩ 0 rfl rfl rfl rfl rfl (Nat.le_of_ble_eq_true rfl) rfl dX5_kindOf_2 ?_
  refine j_sipush (pc := 5) F (v := 18000) dX5_kindOf_5 rfl ?_
  refine j_irem (pc := 8) F dX5_kindOf_8 (by decide) ?_
  obtain ⟨z_2, ez_2, hf⟩ := of_lt hf
  refine j_topi ez_2 ?_
  refine j_istore_n (pc := 9) (lv' := [(2, .int z_2), (0, .ref (aS 0)), (1, .int x1)]) F dX5_kindOf_9 rfl (by decide) rfl ?_
  refine j_iload_n (pc := 10) F 0 dX5_kindOf_10 rfl rfl ?_
  refine j_sipush (pc := 11) F (v := 18000) dX5_kindOf_11 rfl ?_
  refine j_iload_n (pc := 14) F 0 dX5_kindOf_14 rfl rfl ?_
  refine j_isub (pc := 15) F dX5_kindOf_15 ?_
  refine j_callRS (pc := 16) (st := []) (st1 := [.int (f_J9_min_7cf53 z_2 (18000 - z_2))]) F hK (hpR hP hS hp_nil) (c_J9_min_7cf53 (l := l) (D := D) (cy := cy) (g := g) (rfl : f_J9_min_7cf53 z_2 (18000 - z_2) = _)) tm_300 cf_J9_min_7cf53 (Nat.le_of_ble_eq_true rfl) (Nat.le_of_ble_eq_true rfl) ⟨Nat.zero_le _, Nat.zero_le _⟩ rfl rfl (Nat.le_of_ble_eq_true rfl) rfl dX5_kindOf_16 ?_
  refine j_istore_n (pc := 19) (lv' := [(3, .int (f_J9_min_7cf53 z_2 (18000 - z_2))), (2, .int z_2), (0, .ref (aS 0)), (1, .int x1)]) F dX5_kindOf_19 rfl (by decide) rfl ?_
  refine j_iload_n (pc := 20) F 3 dX5_kindOf_20 rfl rfl ?_
  refine j_iconst (pc := 21) F (v := 2) dX5_kindOf_21 rfl ?_
  refine j_irem (pc := 22) F dX5_kindOf_22 (by decide) ?_
  refine j_if_ne (pc := 23) (tgt := 35) F dX5_kindOf_23 rfl (fun c_4 => ?_) (fun c_4 => ?_)
  · have hf := of_neg c_4 hf
    refine j_iload_n (pc := 35) F 0 dX5_kindOf_35 rfl rfl ?_
    refine j_callRS (pc := 36) (st := []) (st1 := [.int (f_X5_moonKind (f_J9_min_7cf53 z_2 (18000 - z_2)))]) F hK (hpR hP hS hp_nil) (c_X5_moonKind (l := l) (D := D) (cy := cy) (g := g) (rfl : f_X5_moonKind (f_J9_min_7cf53 z_2 (18000 - z_2)) = _)) tm_307 cf_X5_moonKind (Nat.le_of_ble_eq_true rfl) (Nat.le_of_ble_eq_true rfl) ⟨Nat.zero_le _, Nat.zero_le _⟩ rfl rfl (Nat.le_of_ble_eq_true rfl) rfl dX5_kindOf_36 ?_
    exact j_iretR (pc := 39) F dX5_kindOf_39 hf
  · have hf := of_pos c_4 hf
    refine j_aload_n (pc := 26) F 2 dX5_kindOf_26 rfl rfl ?_
    refine j_iload_n (pc := 27) F 0 dX5_kindOf_27 rfl rfl ?_
    refine j_iload_n (pc := 28) F 3 dX5_kindOf_28 rfl rfl ?_
    refine j_callRV (pc := 29) (st := []) (st1 := [.int (f_X5_sunKind σS (f_J9_min_7cf53 z_2 (18000 - z_2)) x1)]) F hK (hpR hP hS hp_id) (c_X5_sunKind (l := l) (D := D) (cy := cy) (g := g) (aS := aS) (rfl : f_X5_sunKind σS (f_J9_min_7cf53 z_2 (18000 - z_2)) x1 = _)) tm_303 cf_X5_sunKind (Nat.le_of_ble_eq_true rfl) (Nat.le_of_ble_eq_true rfl) ⟨Nat.zero_le _, Nat.zero_le _⟩ 0 rfl rfl rfl rfl rfl (Nat.le_of_ble_eq_true rfl) rfl dX5_kindOf_29 ?_
    refine j_goto (pc := 32) F (tgt := 39) dX5_kindOf_32 rfl ?_
    exact j_iretR (pc := 39) F dX5_kindOf_39 hf
theorem cf_X5_kindOf : cfV yX5_kindOf cX5_kindOf 4 (some .int) 1 := ⟨tm_296, tm_297, tm_54, tm_298, by decide, by decide, by decide +kernel⟩

def f_X5_firstOfRound_2 (N : Nat) : Nat → St2 → Int32 → Option (Int32)
  | 0, _, _ => none
  | n + 1, σS, y2 => if y2 < 446 then some y2 else if (f_X5_kindOf σS (y2 - 446)) = 0 then some y2 else f_X5_firstOfRound_2 N n σS (y2 + (-446))
def f_X5_firstOfRound (N : Nat) (σS : St2) (x1 : Int32) : Option (Int32) := f_X5_firstOfRound_2 N N σS x1
set_option maxHeartbeats 4000000 in
set_option maxRecDepth 100000 in
theorem b_X5_firstOfRound_2 {l : Launch} {D : va_G} {cy : Nat → ClassId} {g : Gs} {p : Program} {e : Env} {s : State} {m : MethodId} {args : Array Value} {below : List Frame} {meth : Method} {c : Code} {aS : Nat → Nat} {σS : St2} {N : Nat} {out : Int32} (F : Fx p s m args meth c cX5_firstOfRound RX5 3 (some .int)) (hP : va_P D vwCl (wS aS cy σS) s.heap) (hK : va_K D vwCl (tys cy) s) (hS : St g nA s s.heap) :
    ∀ (n : Nat) (y2 : Int32), f_X5_firstOfRound_2 N n σS y2 = some out → J p l e { frames := 3, cells := 0, slots := 0, locals := 67 } s m args below meth c 3 (hR s) 0 0 (MQ below (QR (some (.int out))) args s 0 0 nA) 2 [(0, .ref (aS 0)), (2, .int y2)] [] := by
  intro n
  induction n with
  | zero =>
    intro y2 hf
    cases hf
  | succ n ih =>
    intro y2 hf
    rw [f_X5_firstOfRound_2] at hf
    refine j_iload_n (pc := 2) F 1 dX5_firstOfRound_2 rfl rfl ?_
    refine j_sipush (pc := 3) F (v := 446) dX5_firstOfRound_3 rfl ?_
    refine j_icmp_lt (pc := 6) (tgt := 30) F dX5_firstOfRound_6 rfl (fun c_1 => ?_) (fun c_1 => ?_)
    · have hf := of_pos c_1 hf
      refine j_iload_n (pc := 30) F 1 dX5_firstOfRound_30 rfl rfl ?_
      exact j_iretR (pc := 31) F dX5_firstOfRound_31 (Option.some.inj hf)
    · have hf := of_neg c_1 hf
      refine j_aload_n (pc := 9) F 0 dX5_firstOfRound_9 rfl rfl ?_
      refine j_iload_n (pc := 10) F 1 dX5_firstOfRound_10 rfl rfl ?_
      refine j_sipush (pc := 11) F (v := 446) dX5_firstOfRound_11 rfl ?_
      refine j_isub (pc := 14) F dX5_firstOfRound_14 ?_
      refine j_callRV (pc := 15) (st := []) (st1 := [.int (f_X5_kindOf σS (y2 - 446))]) F hK (hpR hP hS hp_id) (c_X5_kindOf (l := l) (D := D) (cy := cy) (g := g) (aS := aS) (rfl : f_X5_kindOf σS (y2 - 446) = _)) tm_322 cf_X5_kindOf (Nat.le_of_ble_eq_true rfl) (Nat.le_of_ble_eq_true rfl) ⟨Nat.zero_le _, Nat.zero_le _⟩ 0 rfl rfl rfl rfl rfl (Nat.le_of_ble_eq_true rfl) rfl dX5_firstOfRound_15 ?_
      refine j_if_eq (pc := 18) (tgt := 30) F dX5_firstOfRound_18 rfl (fun c_3 => ?_) (fun c_3 => ?_)
      · have hf := of_pos c_3 hf
        refine j_iload_n (pc := 30) F 1 dX5_firstOfRound_30 rfl rfl ?_
        exact j_iretR (pc := 31) F dX5_firstOfRound_31 (Option.some.inj hf)
      · have hf := of_neg c_3 hf
        refine j_iincW (pc := 21) (v := y2 + (-446)) (lv' := [(2, .int (y2 + (-446))), (0, .ref (aS 0))]) F 1 dX5_firstOfRound_21 rfl rfl (by decide) rfl ?_
        refine j_goto (pc := 27) F (tgt := 2) dX5_firstOfRound_27 rfl ?_
        refine j_sub [1, 0] rfl ?_
        exact ih (y2 + (-446)) hf
set_option maxHeartbeats 4000000 in
set_option maxRecDepth 100000 in
theorem c_X5_firstOfRound {l : Launch} {D : va_G} {cy : Nat → ClassId} {g : Gs} {aS : Nat → Nat} {σS : St2} {N : Nat} {x1 : Int32} {out : Int32} (hf : f_X5_firstOfRound N σS x1 = some out) : CR l D cy g yX5_firstOfRound cX5_firstOfRound 3 (some .int) 3 67 (wS aS cy σS) [.ref (aS 0), .int x1] (some (.int out)) := by
  unfold f_X5_firstOfRound at hf
  refine met_R (lv := [(0, .ref (aS 0)), (1, .int x1)]) (by decide) (Nat.le_of_ble_eq_true rfl) rfl ?_
  intro p e s m args below meth c F hP hK hS
  refine j_iload_n (pc := 0) F 1 dX5_firstOfRound_0 rfl rfl ?_
  refine j_istore_n (pc := 1) (lv' := [(2, .int x1), (0, .ref (aS 0)), (1, .int x1)]) F dX5_firstOfRound_1 rfl (by decide) rfl ?_
  refine j_sub [1, 0] rfl ?_
  exact b_X5_firstOfRound_2 F hP hK hS N x1 hf
theorem cf_X5_firstOfRound : cfV yX5_firstOfRound cX5_firstOfRound 3 (some .int) 1 := ⟨tm_333, tm_334, tm_54, tm_335, by decide, by decide, by decide +kernel⟩

def f_X5_lastOfRound_2 (N : Nat) : Nat → St2 → Int32 → Option (Int32)
  | 0, _, _ => none
  | n + 1, σS, y2 => if 12000 < (y2 + 446) then some y2 else if (f_X5_kindOf σS (y2 + 446)) = 0 then some y2 else f_X5_lastOfRound_2 N n σS (y2 + 446)
def f_X5_lastOfRound (N : Nat) (σS : St2) (x1 : Int32) : Option (Int32) := f_X5_lastOfRound_2 N N σS x1
set_option maxHeartbeats 4000000 in
set_option maxRecDepth 100000 in
theorem b_X5_lastOfRound_2 {l : Launch} {D : va_G} {cy : Nat → ClassId} {g : Gs} {p : Program} {e : Env} {s : State} {m : MethodId} {args : Array Value} {below : List Frame} {meth : Method} {c : Code} {aS : Nat → Nat} {σS : St2} {N : Nat} {out : Int32} (F : Fx p s m args meth c cX5_lastOfRound RX5 3 (some .int)) (hP : va_P D vwCl (wS aS cy σS) s.heap) (hK : va_K D vwCl (tys cy) s) (hS : St g nA s s.heap) :
    ∀ (n : Nat) (y2 : Int32), f_X5_lastOfRound_2 N n σS y2 = some out → J p l e { frames := 3, cells := 0, slots := 0, locals := 67 } s m args below meth c 3 (hR s) 0 0 (MQ below (QR (some (.int out))) args s 0 0 nA) 2 [(0, .ref (aS 0)), (2, .int y2)] [] := by
  intro n
  induction n with
  | zero =>
    intro y2 hf
    cases hf
  | succ n ih =>
    intro y2 hf
    rw [f_X5_lastOfRound_2] at hf
    refine j_iload_n (pc := 2) F 1 dX5_lastOfRound_2 rfl rfl ?_
    refine j_sipush (pc := 3) F (v := 446) dX5_lastOfRound_3 rfl ?_
    refine j_iadd (pc := 6) F dX5_lastOfRound_6 ?_
    refine j_sipush (pc := 7) F (v := 12000) dX5_lastOfRound_7 rfl ?_
    refine j_icmp_gt (pc := 10) (tgt := 34) F dX5_lastOfRound_10 rfl (fun c_1 => ?_) (fun c_1 => ?_)
    · have hf := of_pos c_1 hf
      refine j_iload_n (pc := 34) F 1 dX5_lastOfRound_34 rfl rfl ?_
      exact j_iretR (pc := 35) F dX5_lastOfRound_35 (Option.some.inj hf)
    · have hf := of_neg c_1 hf
      refine j_aload_n (pc := 13) F 0 dX5_lastOfRound_13 rfl rfl ?_
      refine j_iload_n (pc := 14) F 1 dX5_lastOfRound_14 rfl rfl ?_
      refine j_sipush (pc := 15) F (v := 446) dX5_lastOfRound_15 rfl ?_
      refine j_iadd (pc := 18) F dX5_lastOfRound_18 ?_
      refine j_callRV (pc := 19) (st := []) (st1 := [.int (f_X5_kindOf σS (y2 + 446))]) F hK (hpR hP hS hp_id) (c_X5_kindOf (l := l) (D := D) (cy := cy) (g := g) (aS := aS) (rfl : f_X5_kindOf σS (y2 + 446) = _)) tm_322 cf_X5_kindOf (Nat.le_of_ble_eq_true rfl) (Nat.le_of_ble_eq_true rfl) ⟨Nat.zero_le _, Nat.zero_le _⟩ 0 rfl rfl rfl rfl rfl (Nat.le_of_ble_eq_true rfl) rfl dX5_lastOfRound_19 ?_
      refine j_if_eq (pc := 22) (tgt := 34) F dX5_lastOfRound_22 rfl (fun c_3 => ?_) (fun c_3 => ?_)
      · have hf := of_pos c_3 hf
        refine j_iload_n (pc := 34) F 1 dX5_lastOfRound_34 rfl rfl ?_
        exact j_iretR (pc := 35) F dX5_lastOfRound_35 (Option.some.inj hf)
      · have hf := of_neg c_3 hf
        refine j_iincW (pc := 25) (v := y2 + 446) (lv' := [(2, .int (y2 + 446)), (0, .ref (aS 0))]) F 1 dX5_lastOfRound_25 rfl rfl (by decide) rfl ?_
        refine j_goto (pc := 31) F (tgt := 2) dX5_lastOfRound_31 rfl ?_
        refine j_sub [1, 0] rfl ?_
        exact ih (y2 + 446) hf
set_option maxHeartbeats 4000000 in
set_option maxRecDepth 100000 in
theorem c_X5_lastOfRound {l : Launch} {D : va_G} {cy : Nat → ClassId} {g : Gs} {aS : Nat → Nat} {σS : St2} {N : Nat} {x1 : Int32} {out : Int32} (hf : f_X5_lastOfRound N σS x1 = some out) : CR l D cy g yX5_lastOfRound cX5_lastOfRound 3 (some .int) 3 67 (wS aS cy σS) [.ref (aS 0), .int x1] (some (.int out)) := by
  unfold f_X5_lastOfRound at hf
  refine met_R (lv := [(0, .ref (aS 0)), (1, .int x1)]) (by decide) (Nat.le_of_ble_eq_true rfl) rfl ?_
  intro p e s m args below meth c F hP hK hS
  refine j_iload_n (pc := 0) F 1 dX5_lastOfRound_0 rfl rfl ?_
  refine j_istore_n (pc := 1) (lv' := [(2, .int x1), (0, .ref (aS 0)), (1, .int x1)]) F dX5_lastOfRound_1 rfl (by decide) rfl ?_
  refine j_sub [1, 0] rfl ?_
  exact b_X5_lastOfRound_2 F hP hK hS N x1 hf
theorem cf_X5_lastOfRound : cfV yX5_lastOfRound cX5_lastOfRound 3 (some .int) 1 := ⟨tm_337, tm_338, tm_54, tm_339, by decide, by decide, by decide +kernel⟩

def f_X5_listEclipses_90 (N : Nat) (K19 : St2 → Int32 → Option (Int32 × St2)) (σS : St2) (y1 : Int32) : Option (Int32 × St2) := K19 σS (y1 + 1)
def f_X5_listEclipses_19 (N : Nat) : Nat → St2 → Int32 → Option (Int32 × St2)
  | 0, _, _ => none
  | n + 1, σS, y1 => if 12000 < y1 then some (σS 0 5, up2 σS 0 4 1) else if 1800 ≤ (σS 0 5) then some (σS 0 5, up2 σS 0 4 1) else if (f_X5_kindOf σS y1) = 0 then f_X5_listEclipses_90 N (f_X5_listEclipses_19 N n) σS y1 else if (σS 0 5) < 0 ∨ 1800 ≤ Int32.toNatClampNeg (σS 0 5) then none else lt (f_X5_kindOf σS y1 : Int32) fun z_6 => if (σS 0 5) < 0 ∨ 1800 ≤ Int32.toNatClampNeg (σS 0 5) then none else (f_X5_timeOf (up2 (up2 σS 7 (Int32.toNatClampNeg (σS 0 5)) y1) 8 (Int32.toNatClampNeg (σS 0 5)) z_6) y1).bind fun o_8 => if (σS 0 5) < 0 ∨ 1800 ≤ Int32.toNatClampNeg (σS 0 5) then none else lt ((σS 0 5) + 1 : Int32) fun z_10 => f_X5_listEclipses_90 N (f_X5_listEclipses_19 N n) (up2 (up2 (up2 (up2 σS 7 (Int32.toNatClampNeg (σS 0 5)) y1) 8 (Int32.toNatClampNeg (σS 0 5)) z_6) 9 (Int32.toNatClampNeg (σS 0 5)) o_8) 0 5 z_10) y1
def f_X5_listEclipses (N : Nat) (σS : St2) : Option (Int32 × St2) := if (σS 0 4) = 0 then f_X5_listEclipses_19 N N (up2 σS 0 5 0) 0 else some (σS 0 5, σS)
set_option maxHeartbeats 4000000 in
set_option maxRecDepth 100000 in
theorem b_X5_listEclipses_90 {l : Launch} {D : va_G} {cy : Nat → ClassId} {g : Gs} {p : Program} {e : Env} {s : State} {m : MethodId} {args : Array Value} {below : List Frame} {meth : Method} {c : Code} {A : Nat → Prop} {aS : Nat → Nat} {N : Nat} {out : Int32 × St2} {K19 : St2 → Int32 → Option (Int32 × St2)} (F : Fx p s m args meth c cX5_listEclipses RX5 3 (some .int)) (hK : va_K D vwCl (tys cy) s) (hS : St g A s s.heap) (hA : ∀ q, s.heap.size ≤ q → A q) (hK19 : ∀ (σS : St2) (y1 : Int32), K19 σS y1 = some out → J p l e { frames := 3, cells := 0, slots := 0, locals := 67 } s m args below meth c 3 (hW D A s (wS aS cy σS)) 0 0 (MQ below (QW D A (some (.int out.1)) (wS aS cy out.2)) args s 0 0 A) 19 [(0, .ref (aS 0)), (1, .int y1)] []) :
    ∀ (σS : St2) (y1 : Int32), f_X5_listEclipses_90 N K19 σS y1 = some out → J p l e { frames := 3, cells := 0, slots := 0, locals := 67 } s m args below meth c 3 (hW D A s (wS aS cy σS)) 0 0 (MQ below (QW D A (some (.int out.1)) (wS aS cy out.2)) args s 0 0 A) 90 [(0, .ref (aS 0)), (1, .int y1)] [] := by
  intro σS y1 hf
  unfold f_X5_listEclipses_90 at hf
  refine j_iinc (pc := 90) (v := y1 + 1) (lv' := [(1, .int (y1 + 1)), (0, .ref (aS 0))]) F 1 dX5_listEclipses_90 rfl rfl (by decide) rfl ?_
  refine j_goto (pc := 93) F (tgt := 19) dX5_listEclipses_93 rfl ?_
  refine j_sub [1, 0] rfl ?_
  exact hK19 σS (y1 + 1) hf
set_option maxHeartbeats 4000000 in
set_option maxRecDepth 100000 in
theorem b_X5_listEclipses_19 {l : Launch} {D : va_G} {cy : Nat → ClassId} {g : Gs} {p : Program} {e : Env} {s : State} {m : MethodId} {args : Array Value} {below : List Frame} {meth : Method} {c : Code} {A : Nat → Prop} {aS : Nat → Nat} {N : Nat} {out : Int32 × St2} (F : Fx p s m args meth c cX5_listEclipses RX5 3 (some .int)) (hK : va_K D vwCl (tys cy) s) (hS : St g A s s.heap) (hA : ∀ q, s.heap.size ≤ q → A q) :
    ∀ (n : Nat) (σS : St2) (y1 : Int32), f_X5_listEclipses_19 N n σS y1 = some out → J p l e { frames := 3, cells := 0, slots := 0, locals := 67 } s m args below meth c 3 (hW D A s (wS aS cy σS)) 0 0 (MQ below (QW D A (some (.int out.1)) (wS aS cy out.2)) args s 0 0 A) 19 [(0, .ref (aS 0)), (1, .int y1)] [] := by
  intro n
  induction n with
  | zero =>
    intro σS y1 hf
    cases hf
  | succ n ih =>
    intro σS y1 hf
    rw [f_X5_listEclipses_19] at hf
    refine j_iload_n (pc := 19) F 1 dX5_listEclipses_19 rfl rfl ?_
    refine j_sipush (pc := 20) F (v := 12000) dX5_listEclipses_20 rfl ?_
    refine j_icmp_gt (pc := 23) (tgt := 96) F dX5_listEclipses_23 rfl (fun c_1 => ?_) (fun c_1 => ?_)
    · have hf := of_pos c_1 hf
      refine j_aload_n (pc := 96) F 0 dX5_listEclipses_96 rfl rfl ?_
      refine j_iconst (pc := 97) F (v := 1) dX5_listEclipses_97 rfl ?_
      refine jw_put (pc := 98) (w' := wS aS cy (up2 σS 0 4 1)) F hK ix_5 tyX5 tyX5_ok nmX5 0 rfl rfl 4 (by decide) tm_87 rfl rfl rfl rfl rfl (Nat.le_of_ble_eq_true rfl) (wS_put_4 _ _ _ _) dX5_listEclipses_98 ?_
      refine j_aload_n (pc := 101) F 0 dX5_listEclipses_101 rfl rfl ?_
      refine jw_get (pc := 102) (v := .int (σS 0 5)) F hK ix_5 0 rfl rfl 5 (by decide) tm_88 rfl rfl dX5_listEclipses_102 ?_
      have hf := (Option.some.inj hf)
      subst hf
      exact j_iretW (pc := 105) F dX5_listEclipses_105 rfl rfl
    · have hf := of_neg c_1 hf
      refine j_aload_n (pc := 26) F 0 dX5_listEclipses_26 rfl rfl ?_
      refine jw_get (pc := 27) (v := .int (σS 0 5)) F hK ix_5 0 rfl rfl 5 (by decide) tm_88 rfl rfl dX5_listEclipses_27 ?_
      refine j_sipush (pc := 30) F (v := 1800) dX5_listEclipses_30 rfl ?_
      refine j_icmp_ge (pc := 33) (tgt := 96) F dX5_listEclipses_33 rfl (fun c_2 => ?_) (fun c_2 => ?_)
      · have hf := of_pos c_2 hf
        refine j_aload_n (pc := 96) F 0 dX5_listEclipses_96 rfl rfl ?_
        refine j_iconst (pc := 97) F (v := 1) dX5_listEclipses_97 rfl ?_
        refine jw_put (pc := 98) (w' := wS aS cy (up2 σS 0 4 1)) F hK ix_5 tyX5 tyX5_ok nmX5 0 rfl rfl 4 (by decide) tm_87 rfl rfl rfl rfl rfl (Nat.le_of_ble_eq_true rfl) (wS_put_4 _ _ _ _) dX5_listEclipses_98 ?_
        refine j_aload_n (pc := 101) F 0 dX5_listEclipses_101 rfl rfl ?_
        refine jw_get (pc := 102) (v := .int (σS 0 5)) F hK ix_5 0 rfl rfl 5 (by decide) tm_88 rfl rfl dX5_listEclipses_102 ?_
        have hf := (Option.some.inj hf)
        subst hf
        exact j_iretW (pc := 105) F dX5_listEclipses_105 rfl rfl
      · have hf := of_neg c_2 hf
        refine j_aload_n (pc := 36) F 0 dX5_listEclipses_36 rfl rfl ?_
        refine j_iload_n (pc := 37) F 1 dX5_listEclipses_37 rfl rfl ?_
        refine j_callRV (pc := 38) (st := []) (st1 := [.int (f_X5_kindOf σS y1)]) F hK (hpW hS hp_id) (c_X5_kindOf (l := l) (D := D) (cy := cy) (g := g) (aS := aS) (rfl : f_X5_kindOf σS y1 = _)) tm_322 cf_X5_kindOf (Nat.le_of_ble_eq_true rfl) (Nat.le_of_ble_eq_true rfl) ⟨Nat.zero_le _, Nat.zero_le _⟩ 0 rfl rfl rfl rfl rfl (Nat.le_of_ble_eq_true rfl) rfl dX5_listEclipses_38 ?_
        refine j_istore_n (pc := 41) (lv' := [(2, .int (f_X5_kindOf σS y1)), (0, .ref (aS 0)), (1, .int y1)]) F dX5_listEclipses_41 rfl (by decide) rfl ?_
        refine j_iload_n (pc := 42) F 0 dX5_listEclipses_42 rfl rfl ?_
        refine j_if_eq (pc := 43) (tgt := 90) F dX5_listEclipses_43 rfl (fun c_4 => ?_) (fun c_4 => ?_)
        · have hf := of_pos c_4 hf
          refine j_sub [1, 2] rfl ?_
          exact b_X5_listEclipses_90 F hK hS hA ih σS y1 hf
        · have hf := of_neg c_4 hf
          refine j_aload_n (pc := 46) F 1 dX5_listEclipses_46 rfl rfl ?_
          refine jw_get (pc := 47) (v := .ref (aS 7)) F hK ix_5 0 rfl rfl 6 (by decide) tm_89 rfl rfl dX5_listEclipses_47 ?_
          refine j_aload_n (pc := 50) F 1 dX5_listEclipses_50 rfl rfl ?_
          refine jw_get (pc := 51) (v := .int (σS 0 5)) F hK ix_5 0 rfl rfl 5 (by decide) tm_88 rfl rfl dX5_listEclipses_51 ?_
          refine j_iload_n (pc := 54) F 2 dX5_listEclipses_54 rfl rfl ?_
          have c_5 : ¬ ((σS 0 5) < 0 ∨ 1800 ≤ Int32.toNatClampNeg (σS 0 5)) := fun z => by rw [if_pos z] at hf; cases hf
          have hf := of_neg c_5 hf
          refine jw_iast (pc := 55) (w' := wS aS cy (up2 σS 7 (Int32.toNatClampNeg (σS 0 5)) y1)) F hK 1 rfl c_5 (wS_row_7 _ _ _ _ _) dX5_listEclipses_55 ?_
          refine j_aload_n (pc := 56) F 1 dX5_listEclipses_56 rfl rfl ?_
          refine jw_get (pc := 57) (v := .ref (aS 8)) F hK ix_5 0 rfl rfl 7 (by decide) tm_90 rfl rfl dX5_listEclipses_57 ?_
          refine j_aload_n (pc := 60) F 1 dX5_listEclipses_60 rfl rfl ?_
          refine jw_get (pc := 61) (v := .int (σS 0 5)) F hK ix_5 0 rfl rfl 5 (by decide) tm_88 rfl rfl dX5_listEclipses_61 ?_
          refine j_iload_n (pc := 64) F 0 dX5_listEclipses_64 rfl rfl ?_
          obtain ⟨z_6, ez_6, hf⟩ := of_lt hf
          refine j_topi ez_6 ?_
          have c_7 : ¬ ((σS 0 5) < 0 ∨ 1800 ≤ Int32.toNatClampNeg (σS 0 5)) := fun z => by rw [if_pos z] at hf; cases hf
          have hf := of_neg c_7 hf
          refine jw_iast (pc := 65) (w' := wS aS cy (up2 (up2 σS 7 (Int32.toNatClampNeg (σS 0 5)) y1) 8 (Int32.toNatClampNeg (σS 0 5)) z_6)) F hK 2 rfl c_7 (wS_row_8 _ _ _ _ _) dX5_listEclipses_65 ?_
          refine j_aload_n (pc := 66) F 1 dX5_listEclipses_66 rfl rfl ?_
          refine jw_get (pc := 67) (v := .ref (aS 9)) F hK ix_5 0 rfl rfl 8 (by decide) tm_91 rfl rfl dX5_listEclipses_67 ?_
          refine j_aload_n (pc := 70) F 1 dX5_listEclipses_70 rfl rfl ?_
          refine jw_get (pc := 71) (v := .int (σS 0 5)) F hK ix_5 0 rfl rfl 5 (by decide) tm_88 rfl rfl dX5_listEclipses_71 ?_
          refine j_aload_n (pc := 74) F 1 dX5_listEclipses_74 rfl rfl ?_
          refine j_iload_n (pc := 75) F 2 dX5_listEclipses_75 rfl rfl ?_
          obtain ⟨o_8, ho_8, hf⟩ := of_bnd hf
          refine j_callRV (pc := 76) (st := [.int (σS 0 5), .ref (aS 9)]) (st1 := [.int o_8, .int (σS 0 5), .ref (aS 9)]) F hK (hpW hS hp_id) (c_X5_timeOf (l := l) (D := D) (cy := cy) (g := g) (aS := aS) ho_8) tm_323 cf_X5_timeOf (Nat.le_of_ble_eq_true rfl) (Nat.le_of_ble_eq_true rfl) ⟨Nat.zero_le _, Nat.zero_le _⟩ 0 rfl rfl rfl rfl rfl (Nat.le_of_ble_eq_true rfl) rfl dX5_listEclipses_76 ?_
          have c_9 : ¬ ((σS 0 5) < 0 ∨ 1800 ≤ Int32.toNatClampNeg (σS 0 5)) := fun z => by rw [if_pos z] at hf; cases hf
          have hf := of_neg c_9 hf
          refine jw_iast (pc := 79) (w' := wS aS cy (up2 (up2 (up2 σS 7 (Int32.toNatClampNeg (σS 0 5)) y1) 8 (Int32.toNatClampNeg (σS 0 5)) z_6) 9 (Int32.toNatClampNeg (σS 0 5)) o_8)) F hK 3 rfl c_9 (wS_row_9 _ _ _ _ _) dX5_listEclipses_79 ?_
          refine j_aload_n (pc := 80) F 1 dX5_listEclipses_80 rfl rfl ?_
          refine j_dup (pc := 81) F dX5_listEclipses_81 rfl ?_
          refine jw_get (pc := 82) (v := .int (σS 0 5)) F hK ix_5 0 rfl rfl 5 (by decide) tm_88 rfl rfl dX5_listEclipses_82 ?_
          refine j_iconst (pc := 85) F (v := 1) dX5_listEclipses_85 rfl ?_
          refine j_iadd (pc := 86) F dX5_listEclipses_86 ?_
          obtain ⟨z_10, ez_10, hf⟩ := of_lt hf
          refine j_topi ez_10 ?_
          refine jw_put (pc := 87) (w' := wS aS cy (up2 (up2 (up2 (up2 σS 7 (Int32.toNatClampNeg (σS 0 5)) y1) 8 (Int32.toNatClampNeg (σS 0 5)) z_6) 9 (Int32.toNatClampNeg (σS 0 5)) o_8) 0 5 z_10)) F hK ix_5 tyX5 tyX5_ok nmX5 0 rfl rfl 5 (by decide) tm_88 rfl rfl rfl rfl rfl (Nat.le_of_ble_eq_true rfl) (wS_put_5 _ _ _ _) dX5_listEclipses_87 ?_
          refine j_sub [1, 2] rfl ?_
          exact b_X5_listEclipses_90 F hK hS hA ih (up2 (up2 (up2 (up2 σS 7 (Int32.toNatClampNeg (σS 0 5)) y1) 8 (Int32.toNatClampNeg (σS 0 5)) z_6) 9 (Int32.toNatClampNeg (σS 0 5)) o_8) 0 5 z_10) y1 hf
set_option maxHeartbeats 4000000 in
set_option maxRecDepth 100000 in
theorem c_X5_listEclipses {l : Launch} {D : va_G} {cy : Nat → ClassId} {g : Gs} {aS : Nat → Nat} {σS : St2} {N : Nat} {out : Int32 × St2} (hf : f_X5_listEclipses N σS = some out) : CW l D cy g yX5_listEclipses cX5_listEclipses 3 (some .int) 3 67 (wS aS cy σS) [.ref (aS 0)] (some (.int out.1)) (wS aS cy out.2) := by
  unfold f_X5_listEclipses at hf
  refine met_W (lv := [(0, .ref (aS 0))]) (by decide) (Nat.le_of_ble_eq_true rfl) rfl ?_
  intro p e s m args below meth c A F hK hS hA
  refine j_aload_n (pc := 0) F 0 dX5_listEclipses_0 rfl rfl ?_
  refine jw_get (pc := 1) (v := .int (σS 0 4)) F hK ix_5 0 rfl rfl 4 (by decide) tm_87 rfl rfl dX5_listEclipses_1 ?_
  refine j_if_eq (pc := 4) (tgt := 12) F dX5_listEclipses_4 rfl (fun c_1 => ?_) (fun c_1 => ?_)
  · have hf := of_pos c_1 hf
    refine j_aload_n (pc := 12) F 0 dX5_listEclipses_12 rfl rfl ?_
    refine j_iconst (pc := 13) F (v := 0) dX5_listEclipses_13 rfl ?_
    refine jw_put (pc := 14) (w' := wS aS cy (up2 σS 0 5 0)) F hK ix_5 tyX5 tyX5_ok nmX5 0 rfl rfl 5 (by decide) tm_88 rfl rfl rfl rfl rfl (Nat.le_of_ble_eq_true rfl) (wS_put_5 _ _ _ _) dX5_listEclipses_14 ?_
    refine j_iconst (pc := 17) F (v := 0) dX5_listEclipses_17 rfl ?_
    refine j_istore_n (pc := 18) (lv' := [(1, .int 0), (0, .ref (aS 0))]) F dX5_listEclipses_18 rfl (by decide) rfl ?_
    refine j_sub [1, 0] rfl ?_
    exact b_X5_listEclipses_19 F hK hS hA N (up2 σS 0 5 0) 0 hf
  · have hf := of_neg c_1 hf
    refine j_aload_n (pc := 7) F 0 dX5_listEclipses_7 rfl rfl ?_
    refine jw_get (pc := 8) (v := .int (σS 0 5)) F hK ix_5 0 rfl rfl 5 (by decide) tm_88 rfl rfl dX5_listEclipses_8 ?_
    have hf := (Option.some.inj hf)
    subst hf
    exact j_iretW (pc := 11) F dX5_listEclipses_11 rfl rfl
theorem cf_X5_listEclipses : cfV yX5_listEclipses cX5_listEclipses 3 (some .int) 0 := ⟨tm_319, tm_320, tm_54, tm_321, by decide, by decide, by decide +kernel⟩

def f_X5_isListed (σS : St2) (x1 : Int32) : Bool := if x1 < 0 then false else if (σS 0 5) ≤ x1 then false else true
set_option maxHeartbeats 4000000 in
set_option maxRecDepth 100000 in
theorem c_X5_isListed {l : Launch} {D : va_G} {cy : Nat → ClassId} {g : Gs} {aS : Nat → Nat} {σS : St2} {x1 : Int32} {out : Bool} (hf : f_X5_isListed σS x1 = out) : CR l D cy g yX5_isListed cX5_isListed 2 (some .boolean) 0 0 (wS aS cy σS) [.ref (aS 0), .int x1] (some (.int (bI out))) := by
  unfold f_X5_isListed at hf
  refine met_R (lv := [(0, .ref (aS 0)), (1, .int x1)]) (by decide) (Nat.le_of_ble_eq_true rfl) rfl ?_
  intro p e s m args below meth c F hP hK hS
  refine j_iload_n (pc := 0) F 1 dX5_isListed_0 rfl rfl ?_
  refine j_if_lt (pc := 1) (tgt := 16) F dX5_isListed_1 rfl (fun c_1 => ?_) (fun c_1 => ?_)
  · have hf := of_pos c_1 hf
    refine j_iconst (pc := 16) F (v := 0) dX5_isListed_16 rfl ?_
    exact j_zretR (pc := 17) F dX5_isListed_17 (congrArg bI hf)
  · have hf := of_neg c_1 hf
    refine j_iload_n (pc := 4) F 1 dX5_isListed_4 rfl rfl ?_
    refine j_aload_n (pc := 5) F 0 dX5_isListed_5 rfl rfl ?_
    refine jr_get (pc := 6) (v := .int (σS 0 5)) F hK hP ix_5 0 rfl rfl 5 (by decide) tm_88 rfl rfl dX5_isListed_6 ?_
    refine j_icmp_ge (pc := 9) (tgt := 16) F dX5_isListed_9 rfl (fun c_2 => ?_) (fun c_2 => ?_)
    · have hf := of_pos c_2 hf
      refine j_iconst (pc := 16) F (v := 0) dX5_isListed_16 rfl ?_
      exact j_zretR (pc := 17) F dX5_isListed_17 (congrArg bI hf)
    · have hf := of_neg c_2 hf
      refine j_iconst (pc := 12) F (v := 1) dX5_isListed_12 rfl ?_
      refine j_goto (pc := 13) F (tgt := 17) dX5_isListed_13 rfl ?_
      exact j_zretR (pc := 17) F dX5_isListed_17 (congrArg bI hf)
theorem cf_X5_isListed : cfV yX5_isListed cX5_isListed 2 (some .boolean) 1 := ⟨tm_693, tm_21, tm_54, tm_694, by decide, by decide, by decide +kernel⟩

def f_X5_moonAt (σS : St2) (x1 : Int32) : Option (Int32) := if (bI (f_X5_isListed σS x1)) = 0 then some (-1) else if x1 < 0 ∨ 1800 ≤ Int32.toNatClampNeg x1 then none else some (σS 7 (Int32.toNatClampNeg x1))
set_option maxHeartbeats 4000000 in
set_option maxRecDepth 100000 in
theorem c_X5_moonAt {l : Launch} {D : va_G} {cy : Nat → ClassId} {g : Gs} {aS : Nat → Nat} {σS : St2} {x1 : Int32} {out : Int32} (hf : f_X5_moonAt σS x1 = some out) : CR l D cy g yX5_moonAt cX5_moonAt 2 (some .int) 1 21 (wS aS cy σS) [.ref (aS 0), .int x1] (some (.int out)) := by
  unfold f_X5_moonAt at hf
  refine met_R (lv := [(0, .ref (aS 0)), (1, .int x1)]) (by decide) (Nat.le_of_ble_eq_true rfl) rfl ?_
  intro p e s m args below meth c F hP hK hS
  refine j_aload_n (pc := 0) F 0 dX5_moonAt_0 rfl rfl ?_
  refine j_iload_n (pc := 1) F 1 dX5_moonAt_1 rfl rfl ?_
  refine j_callRV (pc := 2) (st := []) (st1 := [.int (bI (f_X5_isListed σS x1))]) F hK (hpR hP hS hp_id) (c_X5_isListed (l := l) (D := D) (cy := cy) (g := g) (aS := aS) (rfl : f_X5_isListed σS x1 = _)) tm_691 cf_X5_isListed (Nat.le_of_ble_eq_true rfl) (Nat.le_of_ble_eq_true rfl) ⟨Nat.zero_le _, Nat.zero_le _⟩ 0 rfl rfl rfl rfl rfl (Nat.le_of_ble_eq_true rfl) rfl dX5_moonAt_2 ?_
  refine j_if_eq (pc := 5) (tgt := 17) F dX5_moonAt_5 rfl (fun c_2 => ?_) (fun c_2 => ?_)
  · have hf := of_pos c_2 hf
    refine j_iconst (pc := 17) F (v := (-1)) dX5_moonAt_17 rfl ?_
    exact j_iretR (pc := 18) F dX5_moonAt_18 (Option.some.inj hf)
  · have hf := of_neg c_2 hf
    refine j_aload_n (pc := 8) F 0 dX5_moonAt_8 rfl rfl ?_
    refine jr_get (pc := 9) (v := .ref (aS 7)) F hK hP ix_5 0 rfl rfl 6 (by decide) tm_89 rfl rfl dX5_moonAt_9 ?_
    refine j_iload_n (pc := 12) F 1 dX5_moonAt_12 rfl rfl ?_
    have c_3 : ¬ (x1 < 0 ∨ 1800 ≤ Int32.toNatClampNeg x1) := fun z => by rw [if_pos z] at hf; cases hf
    have hf := of_neg c_3 hf
    refine jr_iald (pc := 13) F hK hP 1 rfl c_3 dX5_moonAt_13 ?_
    refine j_goto (pc := 14) F (tgt := 18) dX5_moonAt_14 rfl ?_
    exact j_iretR (pc := 18) F dX5_moonAt_18 (Option.some.inj hf)
theorem cf_X5_moonAt : cfV yX5_moonAt cX5_moonAt 2 (some .int) 1 := ⟨tm_710, tm_711, tm_54, tm_712, by decide, by decide, by decide +kernel⟩

def f_X5_kindAt (σS : St2) (x1 : Int32) : Option (Int32) := if (bI (f_X5_isListed σS x1)) = 0 then some 0 else if x1 < 0 ∨ 1800 ≤ Int32.toNatClampNeg x1 then none else some (σS 8 (Int32.toNatClampNeg x1))
set_option maxHeartbeats 4000000 in
set_option maxRecDepth 100000 in
theorem c_X5_kindAt {l : Launch} {D : va_G} {cy : Nat → ClassId} {g : Gs} {aS : Nat → Nat} {σS : St2} {x1 : Int32} {out : Int32} (hf : f_X5_kindAt σS x1 = some out) : CR l D cy g yX5_kindAt cX5_kindAt 2 (some .int) 1 21 (wS aS cy σS) [.ref (aS 0), .int x1] (some (.int out)) := by
  unfold f_X5_kindAt at hf
  refine met_R (lv := [(0, .ref (aS 0)), (1, .int x1)]) (by decide) (Nat.le_of_ble_eq_true rfl) rfl ?_
  intro p e s m args below meth c F hP hK hS
  refine j_aload_n (pc := 0) F 0 dX5_kindAt_0 rfl rfl ?_
  refine j_iload_n (pc := 1) F 1 dX5_kindAt_1 rfl rfl ?_
  refine j_callRV (pc := 2) (st := []) (st1 := [.int (bI (f_X5_isListed σS x1))]) F hK (hpR hP hS hp_id) (c_X5_isListed (l := l) (D := D) (cy := cy) (g := g) (aS := aS) (rfl : f_X5_isListed σS x1 = _)) tm_691 cf_X5_isListed (Nat.le_of_ble_eq_true rfl) (Nat.le_of_ble_eq_true rfl) ⟨Nat.zero_le _, Nat.zero_le _⟩ 0 rfl rfl rfl rfl rfl (Nat.le_of_ble_eq_true rfl) rfl dX5_kindAt_2 ?_
  refine j_if_eq (pc := 5) (tgt := 17) F dX5_kindAt_5 rfl (fun c_2 => ?_) (fun c_2 => ?_)
  · have hf := of_pos c_2 hf
    refine j_iconst (pc := 17) F (v := 0) dX5_kindAt_17 rfl ?_
    exact j_iretR (pc := 18) F dX5_kindAt_18 (Option.some.inj hf)
  · have hf := of_neg c_2 hf
    refine j_aload_n (pc := 8) F 0 dX5_kindAt_8 rfl rfl ?_
    refine jr_get (pc := 9) (v := .ref (aS 8)) F hK hP ix_5 0 rfl rfl 7 (by decide) tm_90 rfl rfl dX5_kindAt_9 ?_
    refine j_iload_n (pc := 12) F 1 dX5_kindAt_12 rfl rfl ?_
    have c_3 : ¬ (x1 < 0 ∨ 1800 ≤ Int32.toNatClampNeg x1) := fun z => by rw [if_pos z] at hf; cases hf
    have hf := of_neg c_3 hf
    refine jr_iald (pc := 13) F hK hP 2 rfl c_3 dX5_kindAt_13 ?_
    refine j_goto (pc := 14) F (tgt := 18) dX5_kindAt_14 rfl ?_
    exact j_iretR (pc := 18) F dX5_kindAt_18 (Option.some.inj hf)
theorem cf_X5_kindAt : cfV yX5_kindAt cX5_kindAt 2 (some .int) 1 := ⟨tm_688, tm_689, tm_54, tm_690, by decide, by decide, by decide +kernel⟩

def f_X5_isOfSunAt (σS : St2) (x1 : Int32) : Option (Bool) := (f_X5_moonAt σS x1).bind fun o_1 => if (o_1 - o_1 / 2 * 2) = 0 then some true else some false
set_option maxHeartbeats 4000000 in
set_option maxRecDepth 100000 in
theorem c_X5_isOfSunAt {l : Launch} {D : va_G} {cy : Nat → ClassId} {g : Gs} {aS : Nat → Nat} {σS : St2} {x1 : Int32} {out : Bool} (hf : f_X5_isOfSunAt σS x1 = some out) : CR l D cy g yX5_isOfSunAt cX5_isOfSunAt 2 (some .boolean) 2 42 (wS aS cy σS) [.ref (aS 0), .int x1] (some (.int (bI out))) := by
  unfold f_X5_isOfSunAt at hf
  refine met_R (lv := [(0, .ref (aS 0)), (1, .int x1)]) (by decide) (Nat.le_of_ble_eq_true rfl) rfl ?_
  intro p e s m args below meth c F hP hK hS
  refine j_aload_n (pc := 0) F 0 dX5_isOfSunAt_0 rfl rfl ?_
  refine j_iload_n (pc := 1) F 1 dX5_isOfSunAt_1 rfl rfl ?_
  obtain ⟨o_1, ho_1, hf⟩ := of_bnd hf
  refine j_callRV (pc := 2) (st := []) (st1 := [.int o_1]) F hK (hpR hP hS hp_id) (c_X5_moonAt (l := l) (D := D) (cy := cy) (g := g) (aS := aS) ho_1) tm_709 cf_X5_moonAt (Nat.le_of_ble_eq_true rfl) (Nat.le_of_ble_eq_true rfl) ⟨Nat.zero_le _, Nat.zero_le _⟩ 0 rfl rfl rfl rfl rfl (Nat.le_of_ble_eq_true rfl) rfl dX5_isOfSunAt_2 ?_
  refine j_iconst (pc := 5) F (v := 2) dX5_isOfSunAt_5 rfl ?_
  refine j_irem (pc := 6) F dX5_isOfSunAt_6 (by decide) ?_
  refine j_if_ne (pc := 7) (tgt := 14) F dX5_isOfSunAt_7 rfl (fun c_2 => ?_) (fun c_2 => ?_)
  · have hf := of_neg c_2 hf
    refine j_iconst (pc := 14) F (v := 0) dX5_isOfSunAt_14 rfl ?_
    exact j_zretR (pc := 15) F dX5_isOfSunAt_15 (congrArg bI (Option.some.inj hf))
  · have hf := of_pos c_2 hf
    refine j_iconst (pc := 10) F (v := 1) dX5_isOfSunAt_10 rfl ?_
    refine j_goto (pc := 11) F (tgt := 15) dX5_isOfSunAt_11 rfl ?_
    exact j_zretR (pc := 15) F dX5_isOfSunAt_15 (congrArg bI (Option.some.inj hf))
theorem cf_X5_isOfSunAt : cfV yX5_isOfSunAt cX5_isOfSunAt 2 (some .boolean) 1 := ⟨tm_706, tm_707, tm_54, tm_708, by decide, by decide, by decide +kernel⟩

def f_X5_timeAt (σS : St2) (x1 : Int32) : Option (Int32) := if (bI (f_X5_isListed σS x1)) = 0 then some 0 else if x1 < 0 ∨ 1800 ≤ Int32.toNatClampNeg x1 then none else some (σS 9 (Int32.toNatClampNeg x1))
set_option maxHeartbeats 4000000 in
set_option maxRecDepth 100000 in
theorem c_X5_timeAt {l : Launch} {D : va_G} {cy : Nat → ClassId} {g : Gs} {aS : Nat → Nat} {σS : St2} {x1 : Int32} {out : Int32} (hf : f_X5_timeAt σS x1 = some out) : CR l D cy g yX5_timeAt cX5_timeAt 2 (some .int) 1 21 (wS aS cy σS) [.ref (aS 0), .int x1] (some (.int out)) := by
  unfold f_X5_timeAt at hf
  refine met_R (lv := [(0, .ref (aS 0)), (1, .int x1)]) (by decide) (Nat.le_of_ble_eq_true rfl) rfl ?_
  intro p e s m args below meth c F hP hK hS
  refine j_aload_n (pc := 0) F 0 dX5_timeAt_0 rfl rfl ?_
  refine j_iload_n (pc := 1) F 1 dX5_timeAt_1 rfl rfl ?_
  refine j_callRV (pc := 2) (st := []) (st1 := [.int (bI (f_X5_isListed σS x1))]) F hK (hpR hP hS hp_id) (c_X5_isListed (l := l) (D := D) (cy := cy) (g := g) (aS := aS) (rfl : f_X5_isListed σS x1 = _)) tm_691 cf_X5_isListed (Nat.le_of_ble_eq_true rfl) (Nat.le_of_ble_eq_true rfl) ⟨Nat.zero_le _, Nat.zero_le _⟩ 0 rfl rfl rfl rfl rfl (Nat.le_of_ble_eq_true rfl) rfl dX5_timeAt_2 ?_
  refine j_if_eq (pc := 5) (tgt := 17) F dX5_timeAt_5 rfl (fun c_2 => ?_) (fun c_2 => ?_)
  · have hf := of_pos c_2 hf
    refine j_iconst (pc := 17) F (v := 0) dX5_timeAt_17 rfl ?_
    exact j_iretR (pc := 18) F dX5_timeAt_18 (Option.some.inj hf)
  · have hf := of_neg c_2 hf
    refine j_aload_n (pc := 8) F 0 dX5_timeAt_8 rfl rfl ?_
    refine jr_get (pc := 9) (v := .ref (aS 9)) F hK hP ix_5 0 rfl rfl 8 (by decide) tm_91 rfl rfl dX5_timeAt_9 ?_
    refine j_iload_n (pc := 12) F 1 dX5_timeAt_12 rfl rfl ?_
    have c_3 : ¬ (x1 < 0 ∨ 1800 ≤ Int32.toNatClampNeg x1) := fun z => by rw [if_pos z] at hf; cases hf
    have hf := of_neg c_3 hf
    refine jr_iald (pc := 13) F hK hP 3 rfl c_3 dX5_timeAt_13 ?_
    refine j_goto (pc := 14) F (tgt := 18) dX5_timeAt_14 rfl ?_
    exact j_iretR (pc := 18) F dX5_timeAt_18 (Option.some.inj hf)
theorem cf_X5_timeAt : cfV yX5_timeAt cX5_timeAt 2 (some .int) 1 := ⟨tm_696, tm_697, tm_54, tm_698, by decide, by decide, by decide +kernel⟩

def f_X5_isAsked (σS : St2) (x1 : Int32) (x2 : Int32) : Option (Bool) := if x1 < 0 ∨ 1800 ≤ Int32.toNatClampNeg x1 then none else if ((x2 >>> ((σS 8 (Int32.toNatClampNeg x1)) &&& 31)) &&& 1) = 0 then some false else some true
set_option maxHeartbeats 4000000 in
set_option maxRecDepth 100000 in
theorem c_X5_isAsked {l : Launch} {D : va_G} {cy : Nat → ClassId} {g : Gs} {aS : Nat → Nat} {σS : St2} {x1 : Int32} {x2 : Int32} {out : Bool} (hf : f_X5_isAsked σS x1 x2 = some out) : CR l D cy g yX5_isAsked cX5_isAsked 3 (some .boolean) 0 0 (wS aS cy σS) [.ref (aS 0), .int x1, .int x2] (some (.int (bI out))) := by
  unfold f_X5_isAsked at hf
  refine met_R (lv := [(0, .ref (aS 0)), (1, .int x1), (2, .int x2)]) (by decide) (Nat.le_of_ble_eq_true rfl) rfl ?_
  intro p e s m args below meth c F hP hK hS
  refine j_iload_n (pc := 0) F 2 dX5_isAsked_0 rfl rfl ?_
  refine j_aload_n (pc := 1) F 0 dX5_isAsked_1 rfl rfl ?_
  refine jr_get (pc := 2) (v := .ref (aS 8)) F hK hP ix_5 0 rfl rfl 7 (by decide) tm_90 rfl rfl dX5_isAsked_2 ?_
  refine j_iload_n (pc := 5) F 1 dX5_isAsked_5 rfl rfl ?_
  have c_1 : ¬ (x1 < 0 ∨ 1800 ≤ Int32.toNatClampNeg x1) := fun z => by rw [if_pos z] at hf; cases hf
  have hf := of_neg c_1 hf
  refine jr_iald (pc := 6) F hK hP 2 rfl c_1 dX5_isAsked_6 ?_
  refine j_ishr (pc := 7) F dX5_isAsked_7 ?_
  refine j_iconst (pc := 8) F (v := 1) dX5_isAsked_8 rfl ?_
  refine j_iand (pc := 9) F dX5_isAsked_9 ?_
  refine j_if_eq (pc := 10) (tgt := 17) F dX5_isAsked_10 rfl (fun c_2 => ?_) (fun c_2 => ?_)
  · have hf := of_pos c_2 hf
    refine j_iconst (pc := 17) F (v := 0) dX5_isAsked_17 rfl ?_
    exact j_zretR (pc := 18) F dX5_isAsked_18 (congrArg bI (Option.some.inj hf))
  · have hf := of_neg c_2 hf
    refine j_iconst (pc := 13) F (v := 1) dX5_isAsked_13 rfl ?_
    refine j_goto (pc := 14) F (tgt := 18) dX5_isAsked_14 rfl ?_
    exact j_zretR (pc := 18) F dX5_isAsked_18 (congrArg bI (Option.some.inj hf))
theorem cf_X5_isAsked : cfV yX5_isAsked cX5_isAsked 3 (some .boolean) 2 := ⟨tm_326, tm_1, tm_54, tm_327, by decide, by decide, by decide +kernel⟩

def f_X5_findEclipse_56 (N : Nat) (K12 : St2 → Int32 → Int32 → Int32 → Int32 → Int32 → Option (Int32 × St2)) (σS : St2) (y1 : Int32) (y3 : Int32) (y4 : Int32) (y5 : Int32) (y6 : Int32) : Option (Int32 × St2) := K12 σS y1 y3 y4 y5 (y6 + 1)
def f_X5_findEclipse_12 (N : Nat) : Nat → St2 → Int32 → Int32 → Int32 → Int32 → Int32 → Option (Int32 × St2)
  | 0, _, _, _, _, _, _ => none
  | n + 1, σS, y1, y3, y4, y5, y6 => if y4 ≤ y6 then some ((-1), σS) else if y6 < 0 ∨ 1800 ≤ Int32.toNatClampNeg y6 then none else if (σS 7 (Int32.toNatClampNeg y6)) < y1 then f_X5_findEclipse_56 N (f_X5_findEclipse_12 N n) σS y1 y3 y4 y5 y6 else (f_X5_isAsked σS y6 y3).bind fun o_4 => if (bI o_4) = 0 then f_X5_findEclipse_56 N (f_X5_findEclipse_12 N n) σS y1 y3 y4 y5 y6 else if (y5 + (-1)) = 0 then if y6 < 0 ∨ 1800 ≤ Int32.toNatClampNeg y6 then none else some (σS 7 (Int32.toNatClampNeg y6), σS) else f_X5_findEclipse_56 N (f_X5_findEclipse_12 N n) σS y1 y3 y4 (y5 + (-1)) y6
def f_X5_findEclipse (N : Nat) (σS : St2) (x1 : Int32) (x2 : Int32) (x3 : Int32) : Option (Int32 × St2) := (f_X5_listEclipses N σS).bind fun o_1 => f_X5_findEclipse_12 N N o_1.2 x1 x3 o_1.1 x2 0
set_option maxHeartbeats 4000000 in
set_option maxRecDepth 100000 in
theorem b_X5_findEclipse_56 {l : Launch} {D : va_G} {cy : Nat → ClassId} {g : Gs} {p : Program} {e : Env} {s : State} {m : MethodId} {args : Array Value} {below : List Frame} {meth : Method} {c : Code} {A : Nat → Prop} {aS : Nat → Nat} {N : Nat} {out : Int32 × St2} {K12 : St2 → Int32 → Int32 → Int32 → Int32 → Int32 → Option (Int32 × St2)} (F : Fx p s m args meth c cX5_findEclipse RX5 7 (some .int)) (hK : va_K D vwCl (tys cy) s) (hS : St g A s s.heap) (hA : ∀ q, s.heap.size ≤ q → A q) (hK12 : ∀ (σS : St2) (y1 : Int32) (y3 : Int32) (y4 : Int32) (y5 : Int32) (y6 : Int32), K12 σS y1 y3 y4 y5 y6 = some out → J p l e { frames := 4, cells := 0, slots := 0, locals := 89 } s m args below meth c 7 (hW D A s (wS aS cy σS)) 0 0 (MQ below (QW D A (some (.int out.1)) (wS aS cy out.2)) args s 0 0 A) 12 [(0, .ref (aS 0)), (1, .int y1), (3, .int y3), (4, .int y4), (5, .int y5), (6, .int y6)] []) :
    ∀ (σS : St2) (y1 : Int32) (y3 : Int32) (y4 : Int32) (y5 : Int32) (y6 : Int32), f_X5_findEclipse_56 N K12 σS y1 y3 y4 y5 y6 = some out → J p l e { frames := 4, cells := 0, slots := 0, locals := 89 } s m args below meth c 7 (hW D A s (wS aS cy σS)) 0 0 (MQ below (QW D A (some (.int out.1)) (wS aS cy out.2)) args s 0 0 A) 56 [(0, .ref (aS 0)), (1, .int y1), (3, .int y3), (4, .int y4), (5, .int y5), (6, .int y6)] [] := by
  intro σS y1 y3 y4 y5 y6 hf
  unfold f_X5_findEclipse_56 at hf
  refine j_iinc (pc := 56) (v := y6 + 1) (lv' := [(6, .int (y6 + 1)), (0, .ref (aS 0)), (1, .int y1), (3, .int y3), (4, .int y4), (5, .int y5)]) F 5 dX5_findEclipse_56 rfl rfl (by decide) rfl ?_
  refine j_goto (pc := 59) F (tgt := 12) dX5_findEclipse_59 rfl ?_
  refine j_sub [1, 2, 3, 4, 5, 0] rfl ?_
  exact hK12 σS y1 y3 y4 y5 (y6 + 1) hf
set_option maxHeartbeats 4000000 in
set_option maxRecDepth 100000 in
theorem b_X5_findEclipse_12 {l : Launch} {D : va_G} {cy : Nat → ClassId} {g : Gs} {p : Program} {e : Env} {s : State} {m : MethodId} {args : Array Value} {below : List Frame} {meth : Method} {c : Code} {A : Nat → Prop} {aS : Nat → Nat} {N : Nat} {out : Int32 × St2} (F : Fx p s m args meth c cX5_findEclipse RX5 7 (some .int)) (hK : va_K D vwCl (tys cy) s) (hS : St g A s s.heap) (hA : ∀ q, s.heap.size ≤ q → A q) :
    ∀ (n : Nat) (σS : St2) (y1 : Int32) (y3 : Int32) (y4 : Int32) (y5 : Int32) (y6 : Int32), f_X5_findEclipse_12 N n σS y1 y3 y4 y5 y6 = some out → J p l e { frames := 4, cells := 0, slots := 0, locals := 89 } s m args below meth c 7 (hW D A s (wS aS cy σS)) 0 0 (MQ below (QW D A (some (.int out.1)) (wS aS cy out.2)) args s 0 0 A) 12 [(0, .ref (aS 0)), (1, .int y1), (3, .int y3), (4, .int y4), (5, .int y5), (6, .int y6)] [] := by
  intro n
  induction n with
  | zero =>
    intro σS y1 y3 y4 y5 y6 hf
    cases hf
  | succ n ih =>
    intro σS y1 y3 y4 y5 y6 hf
    rw [f_X5_findEclipse_12] at hf
    refine j_iload (pc := 12) F 5 dX5_findEclipse_12 rfl ?_
    refine j_iload (pc := 14) F 3 dX5_findEclipse_14 rfl ?_
    refine j_icmp_ge (pc := 16) (tgt := 62) F dX5_findEclipse_16 rfl (fun c_1 => ?_) (fun c_1 => ?_)
    · have hf := of_pos c_1 hf
      refine j_iconst (pc := 62) F (v := (-1)) dX5_findEclipse_62 rfl ?_
      have hf := (Option.some.inj hf)
      subst hf
      exact j_iretW (pc := 63) F dX5_findEclipse_63 rfl rfl
    · have hf := of_neg c_1 hf
      refine j_aload_n (pc := 19) F 0 dX5_findEclipse_19 rfl rfl ?_
      refine jw_get (pc := 20) (v := .ref (aS 7)) F hK ix_5 0 rfl rfl 6 (by decide) tm_89 rfl rfl dX5_findEclipse_20 ?_
      refine j_iload (pc := 23) F 5 dX5_findEclipse_23 rfl ?_
      have c_2 : ¬ (y6 < 0 ∨ 1800 ≤ Int32.toNatClampNeg y6) := fun z => by rw [if_pos z] at hf; cases hf
      have hf := of_neg c_2 hf
      refine jw_iald (pc := 25) F hK 1 rfl c_2 dX5_findEclipse_25 ?_
      refine j_iload_n (pc := 26) F 1 dX5_findEclipse_26 rfl rfl ?_
      refine j_icmp_lt (pc := 27) (tgt := 56) F dX5_findEclipse_27 rfl (fun c_3 => ?_) (fun c_3 => ?_)
      · have hf := of_pos c_3 hf
        exact b_X5_findEclipse_56 F hK hS hA ih σS y1 y3 y4 y5 y6 hf
      · have hf := of_neg c_3 hf
        refine j_aload_n (pc := 30) F 0 dX5_findEclipse_30 rfl rfl ?_
        refine j_iload (pc := 31) F 5 dX5_findEclipse_31 rfl ?_
        refine j_iload_n (pc := 33) F 2 dX5_findEclipse_33 rfl rfl ?_
        obtain ⟨o_4, ho_4, hf⟩ := of_bnd hf
        refine j_callRV (pc := 34) (st := []) (st1 := [.int (bI o_4)]) F hK (hpW hS hp_id) (c_X5_isAsked (l := l) (D := D) (cy := cy) (g := g) (aS := aS) ho_4) tm_324 cf_X5_isAsked (Nat.le_of_ble_eq_true rfl) (Nat.le_of_ble_eq_true rfl) ⟨Nat.zero_le _, Nat.zero_le _⟩ 0 rfl rfl rfl rfl rfl (Nat.le_of_ble_eq_true rfl) rfl dX5_findEclipse_34 ?_
        refine j_if_eq (pc := 37) (tgt := 56) F dX5_findEclipse_37 rfl (fun c_5 => ?_) (fun c_5 => ?_)
        · have hf := of_pos c_5 hf
          exact b_X5_findEclipse_56 F hK hS hA ih σS y1 y3 y4 y5 y6 hf
        · have hf := of_neg c_5 hf
          refine j_iinc (pc := 40) (v := y5 + (-1)) (lv' := [(5, .int (y5 + (-1))), (0, .ref (aS 0)), (1, .int y1), (3, .int y3), (4, .int y4), (6, .int y6)]) F 4 dX5_findEclipse_40 rfl rfl (by decide) rfl ?_
          refine j_iload (pc := 43) F 0 dX5_findEclipse_43 rfl ?_
          refine j_if_ne (pc := 45) (tgt := 56) F dX5_findEclipse_45 rfl (fun c_6 => ?_) (fun c_6 => ?_)
          · have hf := of_neg c_6 hf
            refine j_sub [1, 2, 3, 4, 0, 5] rfl ?_
            exact b_X5_findEclipse_56 F hK hS hA ih σS y1 y3 y4 (y5 + (-1)) y6 hf
          · have hf := of_pos c_6 hf
            refine j_aload_n (pc := 48) F 1 dX5_findEclipse_48 rfl rfl ?_
            refine jw_get (pc := 49) (v := .ref (aS 7)) F hK ix_5 0 rfl rfl 6 (by decide) tm_89 rfl rfl dX5_findEclipse_49 ?_
            refine j_iload (pc := 52) F 5 dX5_findEclipse_52 rfl ?_
            have c_7 : ¬ (y6 < 0 ∨ 1800 ≤ Int32.toNatClampNeg y6) := fun z => by rw [if_pos z] at hf; cases hf
            have hf := of_neg c_7 hf
            refine jw_iald (pc := 54) F hK 1 rfl c_7 dX5_findEclipse_54 ?_
            have hf := (Option.some.inj hf)
            subst hf
            exact j_iretW (pc := 55) F dX5_findEclipse_55 rfl rfl
set_option maxHeartbeats 4000000 in
set_option maxRecDepth 100000 in
theorem c_X5_findEclipse {l : Launch} {D : va_G} {cy : Nat → ClassId} {g : Gs} {aS : Nat → Nat} {σS : St2} {N : Nat} {x1 : Int32} {x2 : Int32} {x3 : Int32} {out : Int32 × St2} (hf : f_X5_findEclipse N σS x1 x2 x3 = some out) : CW l D cy g yX5_findEclipse cX5_findEclipse 7 (some .int) 4 89 (wS aS cy σS) [.ref (aS 0), .int x1, .int x2, .int x3] (some (.int out.1)) (wS aS cy out.2) := by
  unfold f_X5_findEclipse at hf
  refine met_W (lv := [(0, .ref (aS 0)), (1, .int x1), (2, .int x2), (3, .int x3)]) (by decide) (Nat.le_of_ble_eq_true rfl) rfl ?_
  intro p e s m args below meth c A F hK hS hA
  refine j_aload_n (pc := 0) F 0 dX5_findEclipse_0 rfl rfl ?_
  obtain ⟨o_1, ho_1, hf⟩ := of_bnd hf
  refine j_callWs (pc := 1) (st := []) (st1 := [.int o_1.1]) (w' := wS aS cy o_1.2) F hK hS hA (c_X5_listEclipses (l := l) (D := D) (cy := cy) (g := g) (aS := aS) ho_1) tm_318 cf_X5_listEclipses (Nat.le_of_ble_eq_true rfl) (Nat.le_of_ble_eq_true rfl) ⟨Nat.zero_le _, Nat.zero_le _⟩ 0 rfl rfl rfl rfl rfl (Nat.le_of_ble_eq_true rfl) rfl dX5_findEclipse_1 ?_
  refine j_istore (pc := 4) (lv' := [(4, .int o_1.1), (0, .ref (aS 0)), (1, .int x1), (2, .int x2), (3, .int x3)]) F dX5_findEclipse_4 (by decide) rfl ?_
  refine j_iload_n (pc := 6) F 3 dX5_findEclipse_6 rfl rfl ?_
  refine j_istore (pc := 7) (lv' := [(5, .int x2), (4, .int o_1.1), (0, .ref (aS 0)), (1, .int x1), (2, .int x2), (3, .int x3)]) F dX5_findEclipse_7 (by decide) rfl ?_
  refine j_iconst (pc := 9) F (v := 0) dX5_findEclipse_9 rfl ?_
  refine j_istore (pc := 10) (lv' := [(6, .int 0), (5, .int x2), (4, .int o_1.1), (0, .ref (aS 0)), (1, .int x1), (2, .int x2), (3, .int x3)]) F dX5_findEclipse_10 (by decide) rfl ?_
  refine j_sub [3, 4, 6, 2, 1, 0] rfl ?_
  exact b_X5_findEclipse_12 F hK hS hA N o_1.2 x1 x3 o_1.1 x2 0 hf
theorem cf_X5_findEclipse : cfV yX5_findEclipse cX5_findEclipse 7 (some .int) 3 := ⟨tm_315, tm_316, tm_54, tm_317, by decide, by decide, by decide +kernel⟩

def f_X5_countEclipses_54 (N : Nat) (K12 : St2 → Int32 → Int32 → Int32 → Int32 → Int32 → Int32 → Option (Int32 × St2)) (σS : St2) (y1 : Int32) (y2 : Int32) (y3 : Int32) (y4 : Int32) (y5 : Int32) (y6 : Int32) : Option (Int32 × St2) := K12 σS y1 y2 y3 y4 y5 (y6 + 1)
def f_X5_countEclipses_12 (N : Nat) : Nat → St2 → Int32 → Int32 → Int32 → Int32 → Int32 → Int32 → Option (Int32 × St2)
  | 0, _, _, _, _, _, _, _ => none
  | n + 1, σS, y1, y2, y3, y4, y5, y6 => if y4 ≤ y6 then some (y5, σS) else if y6 < 0 ∨ 1800 ≤ Int32.toNatClampNeg y6 then none else if y2 < (σS 7 (Int32.toNatClampNeg y6)) then some (y5, σS) else if y6 < 0 ∨ 1800 ≤ Int32.toNatClampNeg y6 then none else if (σS 7 (Int32.toNatClampNeg y6)) < y1 then f_X5_countEclipses_54 N (f_X5_countEclipses_12 N n) σS y1 y2 y3 y4 y5 y6 else (f_X5_isAsked σS y6 y3).bind fun o_6 => if (bI o_6) = 0 then f_X5_countEclipses_54 N (f_X5_countEclipses_12 N n) σS y1 y2 y3 y4 y5 y6 else f_X5_countEclipses_54 N (f_X5_countEclipses_12 N n) σS y1 y2 y3 y4 (y5 + 1) y6
def f_X5_countEclipses (N : Nat) (σS : St2) (x1 : Int32) (x2 : Int32) (x3 : Int32) : Option (Int32 × St2) := (f_X5_listEclipses N σS).bind fun o_1 => f_X5_countEclipses_12 N N o_1.2 x1 x2 x3 o_1.1 0 0
set_option maxHeartbeats 4000000 in
set_option maxRecDepth 100000 in
theorem b_X5_countEclipses_54 {l : Launch} {D : va_G} {cy : Nat → ClassId} {g : Gs} {p : Program} {e : Env} {s : State} {m : MethodId} {args : Array Value} {below : List Frame} {meth : Method} {c : Code} {A : Nat → Prop} {aS : Nat → Nat} {N : Nat} {out : Int32 × St2} {K12 : St2 → Int32 → Int32 → Int32 → Int32 → Int32 → Int32 → Option (Int32 × St2)} (F : Fx p s m args meth c cX5_countEclipses RX5 7 (some .int)) (hK : va_K D vwCl (tys cy) s) (hS : St g A s s.heap) (hA : ∀ q, s.heap.size ≤ q → A q) (hK12 : ∀ (σS : St2) (y1 : Int32) (y2 : Int32) (y3 : Int32) (y4 : Int32) (y5 : Int32) (y6 : Int32), K12 σS y1 y2 y3 y4 y5 y6 = some out → J p l e { frames := 4, cells := 0, slots := 0, locals := 89 } s m args below meth c 7 (hW D A s (wS aS cy σS)) 0 0 (MQ below (QW D A (some (.int out.1)) (wS aS cy out.2)) args s 0 0 A) 12 [(0, .ref (aS 0)), (1, .int y1), (2, .int y2), (3, .int y3), (4, .int y4), (5, .int y5), (6, .int y6)] []) :
    ∀ (σS : St2) (y1 : Int32) (y2 : Int32) (y3 : Int32) (y4 : Int32) (y5 : Int32) (y6 : Int32), f_X5_countEclipses_54 N K12 σS y1 y2 y3 y4 y5 y6 = some out → J p l e { frames := 4, cells := 0, slots := 0, locals := 89 } s m args below meth c 7 (hW D A s (wS aS cy σS)) 0 0 (MQ below (QW D A (some (.int out.1)) (wS aS cy out.2)) args s 0 0 A) 54 [(0, .ref (aS 0)), (1, .int y1), (2, .int y2), (3, .int y3), (4, .int y4), (5, .int y5), (6, .int y6)] [] := by
  intro σS y1 y2 y3 y4 y5 y6 hf
  unfold f_X5_countEclipses_54 at hf
  refine j_iinc (pc := 54) (v := y6 + 1) (lv' := [(6, .int (y6 + 1)), (0, .ref (aS 0)), (1, .int y1), (2, .int y2), (3, .int y3), (4, .int y4), (5, .int y5)]) F 6 dX5_countEclipses_54 rfl rfl (by decide) rfl ?_
  refine j_goto (pc := 57) F (tgt := 12) dX5_countEclipses_57 rfl ?_
  refine j_sub [1, 2, 3, 4, 5, 6, 0] rfl ?_
  exact hK12 σS y1 y2 y3 y4 y5 (y6 + 1) hf
set_option maxHeartbeats 4000000 in
set_option maxRecDepth 100000 in
theorem b_X5_countEclipses_12 {l : Launch} {D : va_G} {cy : Nat → ClassId} {g : Gs} {p : Program} {e : Env} {s : State} {m : MethodId} {args : Array Value} {below : List Frame} {meth : Method} {c : Code} {A : Nat → Prop} {aS : Nat → Nat} {N : Nat} {out : Int32 × St2} (F : Fx p s m args meth c cX5_countEclipses RX5 7 (some .int)) (hK : va_K D vwCl (tys cy) s) (hS : St g A s s.heap) (hA : ∀ q, s.heap.size ≤ q → A q) :
    ∀ (n : Nat) (σS : St2) (y1 : Int32) (y2 : Int32) (y3 : Int32) (y4 : Int32) (y5 : Int32) (y6 : Int32), f_X5_countEclipses_12 N n σS y1 y2 y3 y4 y5 y6 = some out → J p l e { frames := 4, cells := 0, slots := 0, locals := 89 } s m args below meth c 7 (hW D A s (wS aS cy σS)) 0 0 (MQ below (QW D A (some (.int out.1)) (wS aS cy out.2)) args s 0 0 A) 12 [(0, .ref (aS 0)), (1, .int y1), (2, .int y2), (3, .int y3), (4, .int y4), (5, .int y5), (6, .int y6)] [] := by
  intro n
  induction n with
  | zero =>
    intro σS y1 y2 y3 y4 y5 y6 hf
    cases hf
  | succ n ih =>
    intro σS y1 y2 y3 y4 y5 y6 hf
    rw [f_X5_countEclipses_12] at hf
    refine j_iload (pc := 12) F 6 dX5_countEclipses_12 rfl ?_
    refine j_iload (pc := 14) F 4 dX5_countEclipses_14 rfl ?_
    refine j_icmp_ge (pc := 16) (tgt := 60) F dX5_countEclipses_16 rfl (fun c_1 => ?_) (fun c_1 => ?_)
    · have hf := of_pos c_1 hf
      refine j_iload (pc := 60) F 5 dX5_countEclipses_60 rfl ?_
      have hf := (Option.some.inj hf)
      subst hf
      exact j_iretW (pc := 62) F dX5_countEclipses_62 rfl rfl
    · have hf := of_neg c_1 hf
      refine j_aload_n (pc := 19) F 0 dX5_countEclipses_19 rfl rfl ?_
      refine jw_get (pc := 20) (v := .ref (aS 7)) F hK ix_5 0 rfl rfl 6 (by decide) tm_89 rfl rfl dX5_countEclipses_20 ?_
      refine j_iload (pc := 23) F 6 dX5_countEclipses_23 rfl ?_
      have c_2 : ¬ (y6 < 0 ∨ 1800 ≤ Int32.toNatClampNeg y6) := fun z => by rw [if_pos z] at hf; cases hf
      have hf := of_neg c_2 hf
      refine jw_iald (pc := 25) F hK 1 rfl c_2 dX5_countEclipses_25 ?_
      refine j_iload_n (pc := 26) F 2 dX5_countEclipses_26 rfl rfl ?_
      refine j_icmp_gt (pc := 27) (tgt := 60) F dX5_countEclipses_27 rfl (fun c_3 => ?_) (fun c_3 => ?_)
      · have hf := of_pos c_3 hf
        refine j_iload (pc := 60) F 5 dX5_countEclipses_60 rfl ?_
        have hf := (Option.some.inj hf)
        subst hf
        exact j_iretW (pc := 62) F dX5_countEclipses_62 rfl rfl
      · have hf := of_neg c_3 hf
        refine j_aload_n (pc := 30) F 0 dX5_countEclipses_30 rfl rfl ?_
        refine jw_get (pc := 31) (v := .ref (aS 7)) F hK ix_5 0 rfl rfl 6 (by decide) tm_89 rfl rfl dX5_countEclipses_31 ?_
        refine j_iload (pc := 34) F 6 dX5_countEclipses_34 rfl ?_
        have c_4 : ¬ (y6 < 0 ∨ 1800 ≤ Int32.toNatClampNeg y6) := fun z => by rw [if_pos z] at hf; cases hf
        have hf := of_neg c_4 hf
        refine jw_iald (pc := 36) F hK 1 rfl c_4 dX5_countEclipses_36 ?_
        refine j_iload_n (pc := 37) F 1 dX5_countEclipses_37 rfl rfl ?_
        refine j_icmp_lt (pc := 38) (tgt := 54) F dX5_countEclipses_38 rfl (fun c_5 => ?_) (fun c_5 => ?_)
        · have hf := of_pos c_5 hf
          exact b_X5_countEclipses_54 F hK hS hA ih σS y1 y2 y3 y4 y5 y6 hf
        · have hf := of_neg c_5 hf
          refine j_aload_n (pc := 41) F 0 dX5_countEclipses_41 rfl rfl ?_
          refine j_iload (pc := 42) F 6 dX5_countEclipses_42 rfl ?_
          refine j_iload_n (pc := 44) F 3 dX5_countEclipses_44 rfl rfl ?_
          obtain ⟨o_6, ho_6, hf⟩ := of_bnd hf
          refine j_callRV (pc := 45) (st := []) (st1 := [.int (bI o_6)]) F hK (hpW hS hp_id) (c_X5_isAsked (l := l) (D := D) (cy := cy) (g := g) (aS := aS) ho_6) tm_324 cf_X5_isAsked (Nat.le_of_ble_eq_true rfl) (Nat.le_of_ble_eq_true rfl) ⟨Nat.zero_le _, Nat.zero_le _⟩ 0 rfl rfl rfl rfl rfl (Nat.le_of_ble_eq_true rfl) rfl dX5_countEclipses_45 ?_
          refine j_if_eq (pc := 48) (tgt := 54) F dX5_countEclipses_48 rfl (fun c_7 => ?_) (fun c_7 => ?_)
          · have hf := of_pos c_7 hf
            exact b_X5_countEclipses_54 F hK hS hA ih σS y1 y2 y3 y4 y5 y6 hf
          · have hf := of_neg c_7 hf
            refine j_iinc (pc := 51) (v := y5 + 1) (lv' := [(5, .int (y5 + 1)), (0, .ref (aS 0)), (1, .int y1), (2, .int y2), (3, .int y3), (4, .int y4), (6, .int y6)]) F 5 dX5_countEclipses_51 rfl rfl (by decide) rfl ?_
            refine j_sub [1, 2, 3, 4, 5, 0, 6] rfl ?_
            exact b_X5_countEclipses_54 F hK hS hA ih σS y1 y2 y3 y4 (y5 + 1) y6 hf
set_option maxHeartbeats 4000000 in
set_option maxRecDepth 100000 in
theorem c_X5_countEclipses {l : Launch} {D : va_G} {cy : Nat → ClassId} {g : Gs} {aS : Nat → Nat} {σS : St2} {N : Nat} {x1 : Int32} {x2 : Int32} {x3 : Int32} {out : Int32 × St2} (hf : f_X5_countEclipses N σS x1 x2 x3 = some out) : CW l D cy g yX5_countEclipses cX5_countEclipses 7 (some .int) 4 89 (wS aS cy σS) [.ref (aS 0), .int x1, .int x2, .int x3] (some (.int out.1)) (wS aS cy out.2) := by
  unfold f_X5_countEclipses at hf
  refine met_W (lv := [(0, .ref (aS 0)), (1, .int x1), (2, .int x2), (3, .int x3)]) (by decide) (Nat.le_of_ble_eq_true rfl) rfl ?_
  intro p e s m args below meth c A F hK hS hA
  refine j_aload_n (pc := 0) F 0 dX5_countEclipses_0 rfl rfl ?_
  obtain ⟨o_1, ho_1, hf⟩ := of_bnd hf
  refine j_callWs (pc := 1) (st := []) (st1 := [.int o_1.1]) (w' := wS aS cy o_1.2) F hK hS hA (c_X5_listEclipses (l := l) (D := D) (cy := cy) (g := g) (aS := aS) ho_1) tm_318 cf_X5_listEclipses (Nat.le_of_ble_eq_true rfl) (Nat.le_of_ble_eq_true rfl) ⟨Nat.zero_le _, Nat.zero_le _⟩ 0 rfl rfl rfl rfl rfl (Nat.le_of_ble_eq_true rfl) rfl dX5_countEclipses_1 ?_
  refine j_istore (pc := 4) (lv' := [(4, .int o_1.1), (0, .ref (aS 0)), (1, .int x1), (2, .int x2), (3, .int x3)]) F dX5_countEclipses_4 (by decide) rfl ?_
  refine j_iconst (pc := 6) F (v := 0) dX5_countEclipses_6 rfl ?_
  refine j_istore (pc := 7) (lv' := [(5, .int 0), (4, .int o_1.1), (0, .ref (aS 0)), (1, .int x1), (2, .int x2), (3, .int x3)]) F dX5_countEclipses_7 (by decide) rfl ?_
  refine j_iconst (pc := 9) F (v := 0) dX5_countEclipses_9 rfl ?_
  refine j_istore (pc := 10) (lv' := [(6, .int 0), (5, .int 0), (4, .int o_1.1), (0, .ref (aS 0)), (1, .int x1), (2, .int x2), (3, .int x3)]) F dX5_countEclipses_10 (by decide) rfl ?_
  refine j_sub [3, 4, 5, 6, 2, 1, 0] rfl ?_
  exact b_X5_countEclipses_12 F hK hS hA N o_1.2 x1 x2 x3 o_1.1 0 0 hf
theorem cf_X5_countEclipses : cfV yX5_countEclipses cX5_countEclipses 7 (some .int) 3 := ⟨tm_345, tm_346, tm_54, tm_347, by decide, by decide, by decide +kernel⟩
