def f_X8_record_122 (N : Nat) (σM : St2 × (Nat → Int64)) (y1 : Int32) (t0 : Int32) (t1 : Int32) : Option (Int32 × (St2 × (Nat → Int64))) := if t1 < 0 ∨ 9 ≤ Int32.toNatClampNeg t1 then none else if (σM.1 0 26) < 0 ∨ 9 ≤ Int32.toNatClampNeg (σM.1 0 26) then none else lt ((σM.1 0 26) + 1 : Int32) fun z_3 => some (z_3 - 1, (up2 (up2 (up2 σM.1 30 (Int32.toNatClampNeg t1) t0) 32 (Int32.toNatClampNeg (σM.1 0 26)) y1) 0 26 z_3, σM.2))
def f_X8_record (N : Nat) (σM : St2 × (Nat → Int64)) (x1 : Int32) : Option (Int32 × (St2 × (Nat → Int64))) := lt (σM.1 0 14 : Int32) fun z_1 => if (bI (f_X8_isIn x1 (-720) 720)) = 0 then some ((-2), (up2 (up2 σM.1 0 16 z_1) 0 14 0, σM.2)) else if (σM.1 0 26) = 8 then some ((-2), (up2 (up2 σM.1 0 16 z_1) 0 14 0, σM.2)) else (f_X8_reads N (up2 (up2 (up2 (up2 (up2 (up2 σM.1 0 16 z_1) 0 14 0) 0 15 0) 0 17 (-1)) 0 18 0) 0 19 (-1), σM.2) (σM.1 0 26)).bind fun o_5 => lt (o_5.1 0 18 : Int32) fun z_6 => lt (o_5.1 0 19 : Int32) fun z_7 => if (o_5.1 0 18) = 0 then if (o_5.1 0 33) = (-1) then f_X8_record_122 N (up2 (up2 o_5.1 0 20 z_6) 0 21 z_7, o_5.2) x1 0 (o_5.1 0 26) else if (o_5.1 0 33) < 0 ∨ 12 ≤ Int32.toNatClampNeg (o_5.1 0 33) then none else f_X8_record_122 N (up2 (up2 o_5.1 0 20 z_6) 0 21 z_7, o_5.2) x1 ((o_5.1 26 (Int32.toNatClampNeg (o_5.1 0 33))) - 1) (o_5.1 0 26) else some ((-1), (up2 (up2 o_5.1 0 20 z_6) 0 21 z_7, o_5.2))
set_option maxHeartbeats 4000000 in
set_option maxRecDepth 100000 in
theorem b_X8_record_122 {l : Launch} {D : va_G} {cy : Nat → ClassId} {g : Gs} {p : Program} {e : Env} {s : State} {m : MethodId} {args : Array Value} {below : List Frame} {meth : Method} {c : Code} {A : Nat → Prop} {aM : Nat → Nat} {N : Nat} {out : Int32 × (St2 × (Nat → Int64))} (F : Fx p s m args meth c cX8_record RX8 2 (some .int)) (hK : va_K D vwCl (tys cy) s) (hS : St g A s s.heap) (hA : ∀ q, s.heap.size ≤ q → A q) :
    ∀ (σM : St2 × (Nat → Int64)) (y1 : Int32) (t0 : Int32) (t1 : Int32), f_X8_record_122 N σM y1 t0 t1 = some out → J p l e { frames := 5, cells := 0, slots := 0, locals := 107 } s m args below meth c 2 (hW D A s (wM aM cy σM)) 0 0 (MQ below (QW D A (some (.int out.1)) (wM aM cy out.2)) args s 0 0 A) 122 [(0, .ref (aM 0)), (1, .int y1)] [.int t0, .int t1, .ref (aM 30)] := by
  intro σM y1 t0 t1 hf
  unfold f_X8_record_122 at hf
  have c_1 : ¬ (t1 < 0 ∨ 9 ≤ Int32.toNatClampNeg t1) := fun z => by rw [if_pos z] at hf; cases hf
  have hf := of_neg c_1 hf
  refine jw_iast (pc := 122) (w' := wM aM cy (up2 σM.1 30 (Int32.toNatClampNeg t1) t0, σM.2)) F hK 12 rfl c_1 (wM_row_30 _ _ _ _ _) dX8_record_122 ?_
  refine j_aload_n (pc := 123) F 0 dX8_record_123 rfl rfl ?_
  refine jw_get (pc := 124) (v := .ref (aM 32)) F hK ix_8 0 rfl rfl 31 (by decide) tm_846 rfl rfl dX8_record_124 ?_
  refine j_aload_n (pc := 127) F 0 dX8_record_127 rfl rfl ?_
  refine jw_get (pc := 128) (v := .int (σM.1 0 26)) F hK ix_8 0 rfl rfl 26 (by decide) tm_841 rfl rfl dX8_record_128 ?_
  refine j_iload_n (pc := 131) F 1 dX8_record_131 rfl rfl ?_
  have c_2 : ¬ ((σM.1 0 26) < 0 ∨ 9 ≤ Int32.toNatClampNeg (σM.1 0 26)) := fun z => by rw [if_pos z] at hf; cases hf
  have hf := of_neg c_2 hf
  refine jw_iast (pc := 132) (w' := wM aM cy (up2 (up2 σM.1 30 (Int32.toNatClampNeg t1) t0) 32 (Int32.toNatClampNeg (σM.1 0 26)) y1, σM.2)) F hK 14 rfl c_2 (wM_row_32 _ _ _ _ _) dX8_record_132 ?_
  refine j_aload_n (pc := 133) F 0 dX8_record_133 rfl rfl ?_
  refine j_dup (pc := 134) F dX8_record_134 rfl ?_
  refine jw_get (pc := 135) (v := .int (σM.1 0 26)) F hK ix_8 0 rfl rfl 26 (by decide) tm_841 rfl rfl dX8_record_135 ?_
  refine j_iconst (pc := 138) F (v := 1) dX8_record_138 rfl ?_
  refine j_iadd (pc := 139) F dX8_record_139 ?_
  obtain ⟨z_3, ez_3, hf⟩ := of_lt hf
  refine j_topi ez_3 ?_
  refine jw_put (pc := 140) (w' := wM aM cy (up2 (up2 (up2 σM.1 30 (Int32.toNatClampNeg t1) t0) 32 (Int32.toNatClampNeg (σM.1 0 26)) y1) 0 26 z_3, σM.2)) F hK ix_8 tyX8 tyX8_ok nmX8 0 rfl rfl 26 (by decide) tm_841 rfl rfl rfl rfl rfl (Nat.le_of_ble_eq_true rfl) (wM_put_26 _ _ _ _) dX8_record_140 ?_
  refine j_aload_n (pc := 143) F 0 dX8_record_143 rfl rfl ?_
  refine jw_get (pc := 144) (v := .int z_3) F hK ix_8 0 rfl rfl 26 (by decide) tm_841 rfl rfl dX8_record_144 ?_
  refine j_iconst (pc := 147) F (v := 1) dX8_record_147 rfl ?_
  refine j_isub (pc := 148) F dX8_record_148 ?_
  have hf := (Option.some.inj hf)
  subst hf
  exact j_iretW (pc := 149) F dX8_record_149 rfl rfl
set_option maxHeartbeats 4000000 in
set_option maxRecDepth 100000 in
theorem c_X8_record {l : Launch} {D : va_G} {cy : Nat → ClassId} {g : Gs} {aM : Nat → Nat} {σM : St2 × (Nat → Int64)} {N : Nat} {x1 : Int32} {out : Int32 × (St2 × (Nat → Int64))} (hf : f_X8_record N σM x1 = some out) : CW l D cy g yX8_record cX8_record 2 (some .int) 5 107 (wM aM cy σM) [.ref (aM 0), .int x1] (some (.int out.1)) (wM aM cy out.2) := by
  unfold f_X8_record at hf
  refine met_W (lv := [(0, .ref (aM 0)), (1, .int x1)]) (by decide) (Nat.le_of_ble_eq_true rfl) rfl ?_
  intro p e s m args below meth c A F hK hS hA
  refine j_aload_n (pc := 0) F 0 dX8_record_0 rfl rfl ?_
  refine j_aload_n (pc := 1) F 0 dX8_record_1 rfl rfl ?_
  refine jw_get (pc := 2) (v := .int (σM.1 0 14)) F hK ix_8 0 rfl rfl 14 (by decide) tm_829 rfl rfl dX8_record_2 ?_
  obtain ⟨z_1, ez_1, hf⟩ := of_lt hf
  refine j_topi ez_1 ?_
  refine jw_put (pc := 5) (w' := wM aM cy (up2 σM.1 0 16 z_1, σM.2)) F hK ix_8 tyX8 tyX8_ok nmX8 0 rfl rfl 16 (by decide) tm_831 rfl rfl rfl rfl rfl (Nat.le_of_ble_eq_true rfl) (wM_put_16 _ _ _ _) dX8_record_5 ?_
  refine j_aload_n (pc := 8) F 0 dX8_record_8 rfl rfl ?_
  refine j_iconst (pc := 9) F (v := 0) dX8_record_9 rfl ?_
  refine jw_put (pc := 10) (w' := wM aM cy (up2 (up2 σM.1 0 16 z_1) 0 14 0, σM.2)) F hK ix_8 tyX8 tyX8_ok nmX8 0 rfl rfl 14 (by decide) tm_829 rfl rfl rfl rfl rfl (Nat.le_of_ble_eq_true rfl) (wM_put_14 _ _ _ _) dX8_record_10 ?_
  refine j_iload_n (pc := 13) F 1 dX8_record_13 rfl rfl ?_
  refine j_sipush (pc := 14) F (v := (-720)) dX8_record_14 rfl ?_
  refine j_sipush (pc := 17) F (v := 720) dX8_record_17 rfl ?_
  refine j_callRS (pc := 20) (st := []) (st1 := [.int (bI (f_X8_isIn x1 (-720) 720))]) F hK (hpW hS hp_nil) (c_X8_isIn (l := l) (D := D) (cy := cy) (g := g) (rfl : f_X8_isIn x1 (-720) 720 = _)) tm_973 cf_X8_isIn (Nat.le_of_ble_eq_true rfl) (Nat.le_of_ble_eq_true rfl) ⟨Nat.zero_le _, Nat.zero_le _⟩ rfl rfl (Nat.le_of_ble_eq_true rfl) rfl dX8_record_20 ?_
  refine j_if_eq (pc := 23) (tgt := 35) F dX8_record_23 rfl (fun c_3 => ?_) (fun c_3 => ?_)
  · have hf := of_pos c_3 hf
    refine j_bipush (pc := 35) F (v := (-2)) dX8_record_35 rfl ?_
    have hf := (Option.some.inj hf)
    subst hf
    exact j_iretW (pc := 37) F dX8_record_37 rfl rfl
  · have hf := of_neg c_3 hf
    refine j_aload_n (pc := 26) F 0 dX8_record_26 rfl rfl ?_
    refine jw_get (pc := 27) (v := .int (σM.1 0 26)) F hK ix_8 0 rfl rfl 26 (by decide) tm_841 rfl rfl dX8_record_27 ?_
    refine j_bipush (pc := 30) F (v := 8) dX8_record_30 rfl ?_
    refine j_icmp_ne (pc := 32) (tgt := 38) F dX8_record_32 rfl (fun c_4 => ?_) (fun c_4 => ?_)
    · have hf := of_neg c_4 hf
      refine j_aload_n (pc := 38) F 0 dX8_record_38 rfl rfl ?_
      refine j_iconst (pc := 39) F (v := 0) dX8_record_39 rfl ?_
      refine jw_put (pc := 40) (w' := wM aM cy (up2 (up2 (up2 σM.1 0 16 z_1) 0 14 0) 0 15 0, σM.2)) F hK ix_8 tyX8 tyX8_ok nmX8 0 rfl rfl 15 (by decide) tm_830 rfl rfl rfl rfl rfl (Nat.le_of_ble_eq_true rfl) (wM_put_15 _ _ _ _) dX8_record_40 ?_
      refine j_aload_n (pc := 43) F 0 dX8_record_43 rfl rfl ?_
      refine j_iconst (pc := 44) F (v := (-1)) dX8_record_44 rfl ?_
      refine jw_put (pc := 45) (w' := wM aM cy (up2 (up2 (up2 (up2 σM.1 0 16 z_1) 0 14 0) 0 15 0) 0 17 (-1), σM.2)) F hK ix_8 tyX8 tyX8_ok nmX8 0 rfl rfl 17 (by decide) tm_832 rfl rfl rfl rfl rfl (Nat.le_of_ble_eq_true rfl) (wM_put_17 _ _ _ _) dX8_record_45 ?_
      refine j_aload_n (pc := 48) F 0 dX8_record_48 rfl rfl ?_
      refine j_iconst (pc := 49) F (v := 0) dX8_record_49 rfl ?_
      refine jw_put (pc := 50) (w' := wM aM cy (up2 (up2 (up2 (up2 (up2 σM.1 0 16 z_1) 0 14 0) 0 15 0) 0 17 (-1)) 0 18 0, σM.2)) F hK ix_8 tyX8 tyX8_ok nmX8 0 rfl rfl 18 (by decide) tm_833 rfl rfl rfl rfl rfl (Nat.le_of_ble_eq_true rfl) (wM_put_18 _ _ _ _) dX8_record_50 ?_
      refine j_aload_n (pc := 53) F 0 dX8_record_53 rfl rfl ?_
      refine j_iconst (pc := 54) F (v := (-1)) dX8_record_54 rfl ?_
      refine jw_put (pc := 55) (w' := wM aM cy (up2 (up2 (up2 (up2 (up2 (up2 σM.1 0 16 z_1) 0 14 0) 0 15 0) 0 17 (-1)) 0 18 0) 0 19 (-1), σM.2)) F hK ix_8 tyX8 tyX8_ok nmX8 0 rfl rfl 19 (by decide) tm_834 rfl rfl rfl rfl rfl (Nat.le_of_ble_eq_true rfl) (wM_put_19 _ _ _ _) dX8_record_55 ?_
      refine j_aload_n (pc := 58) F 0 dX8_record_58 rfl rfl ?_
      refine j_aload_n (pc := 59) F 0 dX8_record_59 rfl rfl ?_
      refine jw_get (pc := 60) (v := .int (σM.1 0 26)) F hK ix_8 0 rfl rfl 26 (by decide) tm_841 rfl rfl dX8_record_60 ?_
      obtain ⟨o_5, ho_5, hf⟩ := of_bnd hf
      refine j_callWs (pc := 63) (st := []) (st1 := []) (w' := wM aM cy o_5) F hK hS hA (c_X8_reads (l := l) (D := D) (cy := cy) (g := g) (aM := aM) ho_5) tm_1101 cf_X8_reads (Nat.le_of_ble_eq_true rfl) (Nat.le_of_ble_eq_true rfl) ⟨Nat.zero_le _, Nat.zero_le _⟩ 0 rfl rfl rfl rfl rfl (Nat.le_of_ble_eq_true rfl) rfl dX8_record_63 ?_
      refine j_aload_n (pc := 66) F 0 dX8_record_66 rfl rfl ?_
      refine j_aload_n (pc := 67) F 0 dX8_record_67 rfl rfl ?_
      refine jw_get (pc := 68) (v := .int (o_5.1 0 18)) F hK ix_8 0 rfl rfl 18 (by decide) tm_833 rfl rfl dX8_record_68 ?_
      obtain ⟨z_6, ez_6, hf⟩ := of_lt hf
      refine j_topi ez_6 ?_
      refine jw_put (pc := 71) (w' := wM aM cy (up2 o_5.1 0 20 z_6, o_5.2)) F hK ix_8 tyX8 tyX8_ok nmX8 0 rfl rfl 20 (by decide) tm_835 rfl rfl rfl rfl rfl (Nat.le_of_ble_eq_true rfl) (wM_put_20 _ _ _ _) dX8_record_71 ?_
      refine j_aload_n (pc := 74) F 0 dX8_record_74 rfl rfl ?_
      refine j_aload_n (pc := 75) F 0 dX8_record_75 rfl rfl ?_
      refine jw_get (pc := 76) (v := .int (o_5.1 0 19)) F hK ix_8 0 rfl rfl 19 (by decide) tm_834 rfl rfl dX8_record_76 ?_
      obtain ⟨z_7, ez_7, hf⟩ := of_lt hf
      refine j_topi ez_7 ?_
      refine jw_put (pc := 79) (w' := wM aM cy (up2 (up2 o_5.1 0 20 z_6) 0 21 z_7, o_5.2)) F hK ix_8 tyX8 tyX8_ok nmX8 0 rfl rfl 21 (by decide) tm_836 rfl rfl rfl rfl rfl (Nat.le_of_ble_eq_true rfl) (wM_put_21 _ _ _ _) dX8_record_79 ?_
      refine j_aload_n (pc := 82) F 0 dX8_record_82 rfl rfl ?_
      refine jw_get (pc := 83) (v := .int (o_5.1 0 18)) F hK ix_8 0 rfl rfl 18 (by decide) tm_833 rfl rfl dX8_record_83 ?_
      refine j_if_eq (pc := 86) (tgt := 91) F dX8_record_86 rfl (fun c_8 => ?_) (fun c_8 => ?_)
      · have hf := of_pos c_8 hf
        refine j_aload_n (pc := 91) F 0 dX8_record_91 rfl rfl ?_
        refine jw_get (pc := 92) (v := .ref (aM 30)) F hK ix_8 0 rfl rfl 29 (by decide) tm_844 rfl rfl dX8_record_92 ?_
        refine j_aload_n (pc := 95) F 0 dX8_record_95 rfl rfl ?_
        refine jw_get (pc := 96) (v := .int (o_5.1 0 26)) F hK ix_8 0 rfl rfl 26 (by decide) tm_841 rfl rfl dX8_record_96 ?_
        refine j_aload_n (pc := 99) F 0 dX8_record_99 rfl rfl ?_
        refine jw_get (pc := 100) (v := .int (o_5.1 0 33)) F hK ix_8 0 rfl rfl 33 (by decide) tm_848 rfl rfl dX8_record_100 ?_
        refine j_iconst (pc := 103) F (v := (-1)) dX8_record_103 rfl ?_
        refine j_icmp_ne (pc := 104) (tgt := 111) F dX8_record_104 rfl (fun c_9 => ?_) (fun c_9 => ?_)
        · have hf := of_neg c_9 hf
          refine j_aload_n (pc := 111) F 0 dX8_record_111 rfl rfl ?_
          refine jw_get (pc := 112) (v := .ref (aM 26)) F hK ix_8 0 rfl rfl 25 (by decide) tm_840 rfl rfl dX8_record_112 ?_
          refine j_aload_n (pc := 115) F 0 dX8_record_115 rfl rfl ?_
          refine jw_get (pc := 116) (v := .int (o_5.1 0 33)) F hK ix_8 0 rfl rfl 33 (by decide) tm_848 rfl rfl dX8_record_116 ?_
          have c_10 : ¬ ((o_5.1 0 33) < 0 ∨ 12 ≤ Int32.toNatClampNeg (o_5.1 0 33)) := fun z => by rw [if_pos z] at hf; cases hf
          have hf := of_neg c_10 hf
          refine jw_iald (pc := 119) F hK 9 rfl c_10 dX8_record_119 ?_
          refine j_topi (y := o_5.1 26 (Int32.toNatClampNeg (o_5.1 0 33))) rfl ?_
          refine j_iconst (pc := 120) F (v := 1) dX8_record_120 rfl ?_
          refine j_isub (pc := 121) F dX8_record_121 ?_
          exact b_X8_record_122 F hK hS hA (up2 (up2 o_5.1 0 20 z_6) 0 21 z_7, o_5.2) x1 ((o_5.1 26 (Int32.toNatClampNeg (o_5.1 0 33))) - 1) (o_5.1 0 26) hf
        · have hf := of_pos c_9 hf
          refine j_iconst (pc := 107) F (v := 0) dX8_record_107 rfl ?_
          refine j_goto (pc := 108) F (tgt := 122) dX8_record_108 rfl ?_
          exact b_X8_record_122 F hK hS hA (up2 (up2 o_5.1 0 20 z_6) 0 21 z_7, o_5.2) x1 0 (o_5.1 0 26) hf
      · have hf := of_neg c_8 hf
        refine j_iconst (pc := 89) F (v := (-1)) dX8_record_89 rfl ?_
        have hf := (Option.some.inj hf)
        subst hf
        exact j_iretW (pc := 90) F dX8_record_90 rfl rfl
    · have hf := of_pos c_4 hf
      refine j_bipush (pc := 35) F (v := (-2)) dX8_record_35 rfl ?_
      have hf := (Option.some.inj hf)
      subst hf
      exact j_iretW (pc := 37) F dX8_record_37 rfl rfl
theorem cf_X8_record : cfV yX8_record cX8_record 2 (some .int) 1 := ⟨tm_1098, tm_1099, tm_60, tm_1100, by decide, by decide, by decide +kernel⟩

def f_X8_fault (σM : St2 × (Nat → Int64)) (x1 : Int32) : Int32 := if x1 = 0 then σM.1 0 20 else if x1 = 1 then σM.1 0 21 else (-1)
set_option maxHeartbeats 4000000 in
set_option maxRecDepth 100000 in
theorem c_X8_fault {l : Launch} {D : va_G} {cy : Nat → ClassId} {g : Gs} {aM : Nat → Nat} {σM : St2 × (Nat → Int64)} {x1 : Int32} {out : Int32} (hf : f_X8_fault σM x1 = out) : CR l D cy g yX8_fault cX8_fault 2 (some .int) 0 0 (wM aM cy σM) [.ref (aM 0), .int x1] (some (.int out)) := by
  unfold f_X8_fault at hf
  refine met_R (lv := [(0, .ref (aM 0)), (1, .int x1)]) (by decide) (Nat.le_of_ble_eq_true rfl) rfl ?_
  intro p e s m args below meth c F hP hK hS
  refine j_iload_n (pc := 0) F 1 dX8_fault_0 rfl rfl ?_
  refine j_if_ne (pc := 1) (tgt := 11) F dX8_fault_1 rfl (fun c_1 => ?_) (fun c_1 => ?_)
  · have hf := of_neg c_1 hf
    refine j_iload_n (pc := 11) F 1 dX8_fault_11 rfl rfl ?_
    refine j_iconst (pc := 12) F (v := 1) dX8_fault_12 rfl ?_
    refine j_icmp_ne (pc := 13) (tgt := 23) F dX8_fault_13 rfl (fun c_2 => ?_) (fun c_2 => ?_)
    · have hf := of_neg c_2 hf
      refine j_iconst (pc := 23) F (v := (-1)) dX8_fault_23 rfl ?_
      exact j_iretR (pc := 24) F dX8_fault_24 hf
    · have hf := of_pos c_2 hf
      refine j_aload_n (pc := 16) F 0 dX8_fault_16 rfl rfl ?_
      refine jr_get (pc := 17) (v := .int (σM.1 0 21)) F hK hP ix_8 0 rfl rfl 21 (by decide) tm_836 rfl rfl dX8_fault_17 ?_
      refine j_goto (pc := 20) F (tgt := 24) dX8_fault_20 rfl ?_
      exact j_iretR (pc := 24) F dX8_fault_24 hf
  · have hf := of_pos c_1 hf
    refine j_aload_n (pc := 4) F 0 dX8_fault_4 rfl rfl ?_
    refine jr_get (pc := 5) (v := .int (σM.1 0 20)) F hK hP ix_8 0 rfl rfl 20 (by decide) tm_835 rfl rfl dX8_fault_5 ?_
    refine j_goto (pc := 8) F (tgt := 24) dX8_fault_8 rfl ?_
    exact j_iretR (pc := 24) F dX8_fault_24 hf
theorem cf_X8_fault : cfV yX8_fault cX8_fault 2 (some .int) 1 := ⟨tm_1141, tm_1142, tm_60, tm_1143, by decide, by decide, by decide +kernel⟩

def f_X8_isRecord (σM : St2 × (Nat → Int64)) (x1 : Int32) : Bool := if x1 < 0 then false else if (σM.1 0 26) ≤ x1 then false else true
set_option maxHeartbeats 4000000 in
set_option maxRecDepth 100000 in
theorem c_X8_isRecord {l : Launch} {D : va_G} {cy : Nat → ClassId} {g : Gs} {aM : Nat → Nat} {σM : St2 × (Nat → Int64)} {x1 : Int32} {out : Bool} (hf : f_X8_isRecord σM x1 = out) : CR l D cy g yX8_isRecord cX8_isRecord 2 (some .boolean) 0 0 (wM aM cy σM) [.ref (aM 0), .int x1] (some (.int (bI out))) := by
  unfold f_X8_isRecord at hf
  refine met_R (lv := [(0, .ref (aM 0)), (1, .int x1)]) (by decide) (Nat.le_of_ble_eq_true rfl) rfl ?_
  intro p e s m args below meth c F hP hK hS
  refine j_iload_n (pc := 0) F 1 dX8_isRecord_0 rfl rfl ?_
  refine j_if_lt (pc := 1) (tgt := 16) F dX8_isRecord_1 rfl (fun c_1 => ?_) (fun c_1 => ?_)
  · have hf := of_pos c_1 hf
    refine j_iconst (pc := 16) F (v := 0) dX8_isRecord_16 rfl ?_
    exact j_zretR (pc := 17) F dX8_isRecord_17 (congrArg bI hf)
  · have hf := of_neg c_1 hf
    refine j_iload_n (pc := 4) F 1 dX8_isRecord_4 rfl rfl ?_
    refine j_aload_n (pc := 5) F 0 dX8_isRecord_5 rfl rfl ?_
    refine jr_get (pc := 6) (v := .int (σM.1 0 26)) F hK hP ix_8 0 rfl rfl 26 (by decide) tm_841 rfl rfl dX8_isRecord_6 ?_
    refine j_icmp_ge (pc := 9) (tgt := 16) F dX8_isRecord_9 rfl (fun c_2 => ?_) (fun c_2 => ?_)
    · have hf := of_pos c_2 hf
      refine j_iconst (pc := 16) F (v := 0) dX8_isRecord_16 rfl ?_
      exact j_zretR (pc := 17) F dX8_isRecord_17 (congrArg bI hf)
    · have hf := of_neg c_2 hf
      refine j_iconst (pc := 12) F (v := 1) dX8_isRecord_12 rfl ?_
      refine j_goto (pc := 13) F (tgt := 17) dX8_isRecord_13 rfl ?_
      exact j_zretR (pc := 17) F dX8_isRecord_17 (congrArg bI hf)
theorem cf_X8_isRecord : cfV yX8_isRecord cX8_isRecord 2 (some .boolean) 1 := ⟨tm_1154, tm_49, tm_60, tm_1155, by decide, by decide, by decide +kernel⟩

def f_X8_differs_224 (N : Nat) (K120 : (St2 × (Nat → Int64)) → Int32 → Int32 → Int32 → Int32 → Option (Int32 × (St2 × (Nat → Int64)))) (σM : St2 × (Nat → Int64)) (y1 : Int32) (y5 : Int32) (y7 : Int32) (y8 : Int32) : Option (Int32 × (St2 × (Nat → Int64))) := K120 σM y1 y5 y7 (y8 + 1)
def f_X8_differs_195 (N : Nat) (K120 : (St2 × (Nat → Int64)) → Int32 → Int32 → Int32 → Int32 → Option (Int32 × (St2 × (Nat → Int64)))) (σM : St2 × (Nat → Int64)) (y1 : Int32) (y5 : Int32) (y7 : Int32) (y8 : Int32) (y9 : Int32) (t0 : Int32) : Option (Int32 × (St2 × (Nat → Int64))) := if y9 = t0 then f_X8_differs_224 N K120 σM y1 y5 y7 y8 else if (bI (f_X8_isIn t0 0 999)) = 0 then some ((-1), σM) else f_X8_differs_224 N K120 σM y1 y5 (y7 + 1) y8
def f_X8_differs_120 (N : Nat) : Nat → (St2 × (Nat → Int64)) → Int32 → Int32 → Int32 → Int32 → Option (Int32 × (St2 × (Nat → Int64)))
  | 0, _, _, _, _, _ => none
  | n + 1, σM, y1, y5, y7, y8 => if 4 ≤ y8 then some (y7, σM) else if ((4 * y1) + y8) < 0 ∨ 36 ≤ Int32.toNatClampNeg ((4 * y1) + y8) then none else lt (σM.1 29 (Int32.toNatClampNeg ((4 * y1) + y8)) : Int32) fun z_3 => if z_3 = (-1) then f_X8_differs_224 N (f_X8_differs_120 N n) σM y1 y5 y7 y8 else if y8 = 0 then if y1 < 0 ∨ 9 ≤ Int32.toNatClampNeg y1 then none else f_X8_differs_195 N (f_X8_differs_120 N n) σM y1 y5 y7 y8 z_3 ((σM.1 0 10) - (σM.1 30 (Int32.toNatClampNeg y1))) else if y8 = 1 then f_X8_differs_195 N (f_X8_differs_120 N n) σM y1 y5 y7 y8 z_3 (σM.1 0 11) else if y8 = 2 then f_X8_differs_195 N (f_X8_differs_120 N n) σM y1 y5 y7 y8 z_3 (σM.1 0 12) else f_X8_differs_195 N (f_X8_differs_120 N n) σM y1 y5 y7 y8 z_3 y5
def f_X8_differs_93 (N : Nat) (σM : St2 × (Nat → Int64)) (y1 : Int32) (y4 : Int32) (y5 : Int32) (t0 : Int32) (t1 : Int32) : Option (Int32 × (St2 × (Nat → Int64))) := if t1 = t0 then if y1 < 0 ∨ 9 ≤ Int32.toNatClampNeg y1 then none else (f_X8_dates N σM (y4 / 1440) (σM.1 31 (Int32.toNatClampNeg y1))).bind fun o_3 => f_X8_differs_120 N N o_3 y1 y5 0 0 else some ((-1), σM)
def f_X8_differs_74 (N : Nat) (σM : St2 × (Nat → Int64)) (y1 : Int32) (y2 : Int32) (y4 : Int32) (y5 : Int32) (t0 : Int32) : Option (Int32 × (St2 × (Nat → Int64))) := if y2 < 0 ∨ 12001 ≤ Int32.toNatClampNeg y2 then none else if 4 ≤ (σM.1 7 (Int32.toNatClampNeg y2)) then f_X8_differs_93 N σM y1 y4 y5 0 t0 else f_X8_differs_93 N σM y1 y4 y5 1 t0
def f_X8_differs_73 (N : Nat) (σM : St2 × (Nat → Int64)) (y1 : Int32) (y2 : Int32) (y4 : Int32) (y5 : Int32) : Option (Int32 × (St2 × (Nat → Int64))) := f_X8_differs_74 N σM y1 y2 y4 y5 0
def f_X8_differs (N : Nat) (σM : St2 × (Nat → Int64)) (x1 : Int32) (x2 : Int32) (x3 : Int32) : Option (Int32 × (St2 × (Nat → Int64))) := if x1 < 0 ∨ 9 ≤ Int32.toNatClampNeg x1 then none else if x2 < 0 ∨ 12001 ≤ Int32.toNatClampNeg x2 then none else if (((σM.1 28 (Int32.toNatClampNeg x1)) >>> ((σM.1 7 (Int32.toNatClampNeg x2)) &&& 31)) &&& 1) = 0 then some ((-1), σM) else if x2 < 0 ∨ 12001 ≤ Int32.toNatClampNeg x2 then none else if x1 < 0 ∨ 9 ≤ Int32.toNatClampNeg x1 then none else lt (f_X8_seenAt (σM.1 8 (Int32.toNatClampNeg x2)) (σM.1 32 (Int32.toNatClampNeg x1)) x3 : Int32) fun z_7 => if 0 ≤ z_7 then if ((z_7 - z_7 / 1440 * 1440) / 60) ≤ 5 then f_X8_differs_73 N σM x1 x2 z_7 ((z_7 - z_7 / 1440 * 1440) / 60) else if 18 ≤ ((z_7 - z_7 / 1440 * 1440) / 60) then f_X8_differs_73 N σM x1 x2 z_7 ((z_7 - z_7 / 1440 * 1440) / 60) else f_X8_differs_74 N σM x1 x2 z_7 ((z_7 - z_7 / 1440 * 1440) / 60) 1 else some ((-1), σM)
set_option maxHeartbeats 4000000 in
set_option maxRecDepth 100000 in
theorem b_X8_differs_224 {l : Launch} {D : va_G} {cy : Nat → ClassId} {g : Gs} {p : Program} {e : Env} {s : State} {m : MethodId} {args : Array Value} {below : List Frame} {meth : Method} {c : Code} {A : Nat → Prop} {aM : Nat → Nat} {N : Nat} {out : Int32 × (St2 × (Nat → Int64))} {K120 : (St2 × (Nat → Int64)) → Int32 → Int32 → Int32 → Int32 → Option (Int32 × (St2 × (Nat → Int64)))} (F : Fx p s m args meth c cX8_differs RX8 11 (some .int)) (hK : va_K D vwCl (tys cy) s) (hS : St g A s s.heap) (hA : ∀ q, s.heap.size ≤ q → A q) (hK120 : ∀ (σM : St2 × (Nat → Int64)) (y1 : Int32) (y5 : Int32) (y7 : Int32) (y8 : Int32), K120 σM y1 y5 y7 y8 = some out → J p l e { frames := 3, cells := 0, slots := 0, locals := 69 } s m args below meth c 11 (hW D A s (wM aM cy σM)) 0 0 (MQ below (QW D A (some (.int out.1)) (wM aM cy out.2)) args s 0 0 A) 120 [(0, .ref (aM 0)), (1, .int y1), (5, .int y5), (7, .int y7), (8, .int y8)] []) :
    ∀ (σM : St2 × (Nat → Int64)) (y1 : Int32) (y5 : Int32) (y7 : Int32) (y8 : Int32), f_X8_differs_224 N K120 σM y1 y5 y7 y8 = some out → J p l e { frames := 3, cells := 0, slots := 0, locals := 69 } s m args below meth c 11 (hW D A s (wM aM cy σM)) 0 0 (MQ below (QW D A (some (.int out.1)) (wM aM cy out.2)) args s 0 0 A) 224 [(0, .ref (aM 0)), (1, .int y1), (5, .int y5), (7, .int y7), (8, .int y8)] [] := by
  intro σM y1 y5 y7 y8 hf
  unfold f_X8_differs_224 at hf
  refine j_iinc (pc := 224) (v := y8 + 1) (lv' := [(8, .int (y8 + 1)), (0, .ref (aM 0)), (1, .int y1), (5, .int y5), (7, .int y7)]) F 4 dX8_differs_224 rfl rfl (by decide) rfl ?_
  refine j_goto (pc := 227) F (tgt := 120) dX8_differs_227 rfl ?_
  refine j_sub [1, 2, 3, 4, 0] rfl ?_
  exact hK120 σM y1 y5 y7 (y8 + 1) hf
set_option maxHeartbeats 4000000 in
set_option maxRecDepth 100000 in
theorem b_X8_differs_195 {l : Launch} {D : va_G} {cy : Nat → ClassId} {g : Gs} {p : Program} {e : Env} {s : State} {m : MethodId} {args : Array Value} {below : List Frame} {meth : Method} {c : Code} {A : Nat → Prop} {aM : Nat → Nat} {N : Nat} {out : Int32 × (St2 × (Nat → Int64))} {K120 : (St2 × (Nat → Int64)) → Int32 → Int32 → Int32 → Int32 → Option (Int32 × (St2 × (Nat → Int64)))} (F : Fx p s m args meth c cX8_differs RX8 11 (some .int)) (hK : va_K D vwCl (tys cy) s) (hS : St g A s s.heap) (hA : ∀ q, s.heap.size ≤ q → A q) (hK120 : ∀ (σM : St2 × (Nat → Int64)) (y1 : Int32) (y5 : Int32) (y7 : Int32) (y8 : Int32), K120 σM y1 y5 y7 y8 = some out → J p l e { frames := 3, cells := 0, slots := 0, locals := 69 } s m args below meth c 11 (hW D A s (wM aM cy σM)) 0 0 (MQ below (QW D A (some (.int out.1)) (wM aM cy out.2)) args s 0 0 A) 120 [(0, .ref (aM 0)), (1, .int y1), (5, .int y5), (7, .int y7), (8, .int y8)] []) :
    ∀ (σM : St2 × (Nat → Int64)) (y1 : Int32) (y5 : Int32) (y7 : Int32) (y8 : Int32) (y9 : Int32) (t0 : Int32), f_X8_differs_195 N K120 σM y1 y5 y7 y8 y9 t0 = some out → J p l e { frames := 3, cells := 0, slots := 0, locals := 69 } s m args below meth c 11 (hW D A s (wM aM cy σM)) 0 0 (MQ below (QW D A (some (.int out.1)) (wM aM cy out.2)) args s 0 0 A) 195 [(0, .ref (aM 0)), (1, .int y1), (5, .int y5), (7, .int y7), (8, .int y8), (9, .int y9)] [.int t0] := by
  intro σM y1 y5 y7 y8 y9 t0 hf
  unfold f_X8_differs_195 at hf
  refine j_istore (pc := 195) (lv' := [(10, .int t0), (0, .ref (aM 0)), (1, .int y1), (5, .int y5), (7, .int y7), (8, .int y8), (9, .int y9)]) F dX8_differs_195 (by decide) rfl ?_
  refine j_iload (pc := 197) F 6 dX8_differs_197 rfl ?_
  refine j_iload (pc := 199) F 0 dX8_differs_199 rfl ?_
  refine j_icmp_ne (pc := 201) (tgt := 207) F dX8_differs_201 rfl (fun c_1 => ?_) (fun c_1 => ?_)
  · have hf := of_neg c_1 hf
    refine j_iload (pc := 207) F 0 dX8_differs_207 rfl ?_
    refine j_iconst (pc := 209) F (v := 0) dX8_differs_209 rfl ?_
    refine j_sipush (pc := 210) F (v := 999) dX8_differs_210 rfl ?_
    refine j_callRS (pc := 213) (st := []) (st1 := [.int (bI (f_X8_isIn t0 0 999))]) F hK (hpW hS hp_nil) (c_X8_isIn (l := l) (D := D) (cy := cy) (g := g) (rfl : f_X8_isIn t0 0 999 = _)) tm_973 cf_X8_isIn (Nat.le_of_ble_eq_true rfl) (Nat.le_of_ble_eq_true rfl) ⟨Nat.zero_le _, Nat.zero_le _⟩ rfl rfl (Nat.le_of_ble_eq_true rfl) rfl dX8_differs_213 ?_
    refine j_if_ne (pc := 216) (tgt := 221) F dX8_differs_216 rfl (fun c_3 => ?_) (fun c_3 => ?_)
    · have hf := of_neg c_3 hf
      refine j_iinc (pc := 221) (v := y7 + 1) (lv' := [(7, .int (y7 + 1)), (10, .int t0), (0, .ref (aM 0)), (1, .int y1), (5, .int y5), (8, .int y8), (9, .int y9)]) F 4 dX8_differs_221 rfl rfl (by decide) rfl ?_
      refine j_sub [2, 3, 4, 0, 5] rfl ?_
      exact b_X8_differs_224 F hK hS hA hK120 σM y1 y5 (y7 + 1) y8 hf
    · have hf := of_pos c_3 hf
      refine j_iconst (pc := 219) F (v := (-1)) dX8_differs_219 rfl ?_
      have hf := (Option.some.inj hf)
      subst hf
      exact j_iretW (pc := 220) F dX8_differs_220 rfl rfl
  · have hf := of_pos c_1 hf
    refine j_goto (pc := 204) F (tgt := 224) dX8_differs_204 rfl ?_
    refine j_sub [1, 2, 3, 4, 5] rfl ?_
    exact b_X8_differs_224 F hK hS hA hK120 σM y1 y5 y7 y8 hf
set_option maxHeartbeats 4000000 in
set_option maxRecDepth 100000 in
theorem b_X8_differs_120 {l : Launch} {D : va_G} {cy : Nat → ClassId} {g : Gs} {p : Program} {e : Env} {s : State} {m : MethodId} {args : Array Value} {below : List Frame} {meth : Method} {c : Code} {A : Nat → Prop} {aM : Nat → Nat} {N : Nat} {out : Int32 × (St2 × (Nat → Int64))} (F : Fx p s m args meth c cX8_differs RX8 11 (some .int)) (hK : va_K D vwCl (tys cy) s) (hS : St g A s s.heap) (hA : ∀ q, s.heap.size ≤ q → A q) :
    ∀ (n : Nat) (σM : St2 × (Nat → Int64)) (y1 : Int32) (y5 : Int32) (y7 : Int32) (y8 : Int32), f_X8_differs_120 N n σM y1 y5 y7 y8 = some out → J p l e { frames := 3, cells := 0, slots := 0, locals := 69 } s m args below meth c 11 (hW D A s (wM aM cy σM)) 0 0 (MQ below (QW D A (some (.int out.1)) (wM aM cy out.2)) args s 0 0 A) 120 [(0, .ref (aM 0)), (1, .int y1), (5, .int y5), (7, .int y7), (8, .int y8)] [] := by
  intro n
  induction n with
  | zero =>
    intro σM y1 y5 y7 y8 hf
    cases hf
  | succ n ih =>
    intro σM y1 y5 y7 y8 hf
    rw [f_X8_differs_120] at hf
    refine j_iload (pc := 120) F 4 dX8_differs_120 rfl ?_
    refine j_iconst (pc := 122) F (v := 4) dX8_differs_122 rfl ?_
    refine j_icmp_ge (pc := 123) (tgt := 230) F dX8_differs_123 rfl (fun c_1 => ?_) (fun c_1 => ?_)
    · have hf := of_pos c_1 hf
      refine j_iload (pc := 230) F 3 dX8_differs_230 rfl ?_
      have hf := (Option.some.inj hf)
      subst hf
      exact j_iretW (pc := 232) F dX8_differs_232 rfl rfl
    · have hf := of_neg c_1 hf
      refine j_aload_n (pc := 126) F 0 dX8_differs_126 rfl rfl ?_
      refine jw_get (pc := 127) (v := .ref (aM 29)) F hK ix_8 0 rfl rfl 28 (by decide) tm_843 rfl rfl dX8_differs_127 ?_
      refine j_iconst (pc := 130) F (v := 4) dX8_differs_130 rfl ?_
      refine j_iload_n (pc := 131) F 1 dX8_differs_131 rfl rfl ?_
      refine j_imul (pc := 132) F dX8_differs_132 ?_
      refine j_iload (pc := 133) F 4 dX8_differs_133 rfl ?_
      refine j_iadd (pc := 135) F dX8_differs_135 ?_
      have c_2 : ¬ (((4 * y1) + y8) < 0 ∨ 36 ≤ Int32.toNatClampNeg ((4 * y1) + y8)) := fun z => by rw [if_pos z] at hf; cases hf
      have hf := of_neg c_2 hf
      refine jw_iald (pc := 136) F hK 11 rfl c_2 dX8_differs_136 ?_
      obtain ⟨z_3, ez_3, hf⟩ := of_lt hf
      refine j_topi ez_3 ?_
      refine j_istore (pc := 137) (lv' := [(9, .int z_3), (0, .ref (aM 0)), (1, .int y1), (5, .int y5), (7, .int y7), (8, .int y8)]) F dX8_differs_137 (by decide) rfl ?_
      refine j_iload (pc := 139) F 0 dX8_differs_139 rfl ?_
      refine j_iconst (pc := 141) F (v := (-1)) dX8_differs_141 rfl ?_
      refine j_icmp_ne (pc := 142) (tgt := 148) F dX8_differs_142 rfl (fun c_4 => ?_) (fun c_4 => ?_)
      · have hf := of_neg c_4 hf
        refine j_iload (pc := 148) F 5 dX8_differs_148 rfl ?_
        refine j_if_ne (pc := 150) (tgt := 167) F dX8_differs_150 rfl (fun c_5 => ?_) (fun c_5 => ?_)
        · have hf := of_neg c_5 hf
          refine j_iload (pc := 167) F 5 dX8_differs_167 rfl ?_
          refine j_iconst (pc := 169) F (v := 1) dX8_differs_169 rfl ?_
          refine j_icmp_ne (pc := 170) (tgt := 180) F dX8_differs_170 rfl (fun c_6 => ?_) (fun c_6 => ?_)
          · have hf := of_neg c_6 hf
            refine j_iload (pc := 180) F 5 dX8_differs_180 rfl ?_
            refine j_iconst (pc := 182) F (v := 2) dX8_differs_182 rfl ?_
            refine j_icmp_ne (pc := 183) (tgt := 193) F dX8_differs_183 rfl (fun c_7 => ?_) (fun c_7 => ?_)
            · have hf := of_neg c_7 hf
              refine j_iload (pc := 193) F 3 dX8_differs_193 rfl ?_
              refine j_sub [1, 2, 3, 4, 5, 0] rfl ?_
              exact b_X8_differs_195 F hK hS hA ih σM y1 y5 y7 y8 z_3 y5 hf
            · have hf := of_pos c_7 hf
              refine j_aload_n (pc := 186) F 1 dX8_differs_186 rfl rfl ?_
              refine jw_get (pc := 187) (v := .int (σM.1 0 12)) F hK ix_8 0 rfl rfl 12 (by decide) tm_827 rfl rfl dX8_differs_187 ?_
              refine j_goto (pc := 190) F (tgt := 195) dX8_differs_190 rfl ?_
              refine j_sub [1, 2, 3, 4, 5, 0] rfl ?_
              exact b_X8_differs_195 F hK hS hA ih σM y1 y5 y7 y8 z_3 (σM.1 0 12) hf
          · have hf := of_pos c_6 hf
            refine j_aload_n (pc := 173) F 1 dX8_differs_173 rfl rfl ?_
            refine jw_get (pc := 174) (v := .int (σM.1 0 11)) F hK ix_8 0 rfl rfl 11 (by decide) tm_826 rfl rfl dX8_differs_174 ?_
            refine j_goto (pc := 177) F (tgt := 195) dX8_differs_177 rfl ?_
            refine j_sub [1, 2, 3, 4, 5, 0] rfl ?_
            exact b_X8_differs_195 F hK hS hA ih σM y1 y5 y7 y8 z_3 (σM.1 0 11) hf
        · have hf := of_pos c_5 hf
          refine j_aload_n (pc := 153) F 1 dX8_differs_153 rfl rfl ?_
          refine jw_get (pc := 154) (v := .int (σM.1 0 10)) F hK ix_8 0 rfl rfl 10 (by decide) tm_825 rfl rfl dX8_differs_154 ?_
          refine j_aload_n (pc := 157) F 1 dX8_differs_157 rfl rfl ?_
          refine jw_get (pc := 158) (v := .ref (aM 30)) F hK ix_8 0 rfl rfl 29 (by decide) tm_844 rfl rfl dX8_differs_158 ?_
          refine j_iload_n (pc := 161) F 2 dX8_differs_161 rfl rfl ?_
          have c_8 : ¬ (y1 < 0 ∨ 9 ≤ Int32.toNatClampNeg y1) := fun z => by rw [if_pos z] at hf; cases hf
          have hf := of_neg c_8 hf
          refine jw_iald (pc := 162) F hK 12 rfl c_8 dX8_differs_162 ?_
          refine j_isub (pc := 163) F dX8_differs_163 ?_
          refine j_goto (pc := 164) F (tgt := 195) dX8_differs_164 rfl ?_
          refine j_sub [1, 2, 3, 4, 5, 0] rfl ?_
          exact b_X8_differs_195 F hK hS hA ih σM y1 y5 y7 y8 z_3 ((σM.1 0 10) - (σM.1 30 (Int32.toNatClampNeg y1))) hf
      · have hf := of_pos c_4 hf
        refine j_goto (pc := 145) F (tgt := 224) dX8_differs_145 rfl ?_
        refine j_sub [1, 2, 3, 4, 5] rfl ?_
        exact b_X8_differs_224 F hK hS hA ih σM y1 y5 y7 y8 hf
set_option maxHeartbeats 4000000 in
set_option maxRecDepth 100000 in
theorem b_X8_differs_93 {l : Launch} {D : va_G} {cy : Nat → ClassId} {g : Gs} {p : Program} {e : Env} {s : State} {m : MethodId} {args : Array Value} {below : List Frame} {meth : Method} {c : Code} {A : Nat → Prop} {aM : Nat → Nat} {N : Nat} {out : Int32 × (St2 × (Nat → Int64))} (F : Fx p s m args meth c cX8_differs RX8 11 (some .int)) (hK : va_K D vwCl (tys cy) s) (hS : St g A s s.heap) (hA : ∀ q, s.heap.size ≤ q → A q) :
    ∀ (σM : St2 × (Nat → Int64)) (y1 : Int32) (y4 : Int32) (y5 : Int32) (t0 : Int32) (t1 : Int32), f_X8_differs_93 N σM y1 y4 y5 t0 t1 = some out → J p l e { frames := 3, cells := 0, slots := 0, locals := 69 } s m args below meth c 11 (hW D A s (wM aM cy σM)) 0 0 (MQ below (QW D A (some (.int out.1)) (wM aM cy out.2)) args s 0 0 A) 93 [(0, .ref (aM 0)), (1, .int y1), (4, .int y4), (5, .int y5)] [.int t0, .int t1] := by
  intro σM y1 y4 y5 t0 t1 hf
  unfold f_X8_differs_93 at hf
  refine j_icmp_eq (pc := 93) (tgt := 98) F dX8_differs_93 rfl (fun c_1 => ?_) (fun c_1 => ?_)
  · have hf := of_pos c_1 hf
    refine j_aload_n (pc := 98) F 0 dX8_differs_98 rfl rfl ?_
    refine j_iload (pc := 99) F 2 dX8_differs_99 rfl ?_
    refine j_sipush (pc := 101) F (v := 1440) dX8_differs_101 rfl ?_
    refine j_idiv (pc := 104) F dX8_differs_104 (by decide) ?_
    refine j_aload_n (pc := 105) F 0 dX8_differs_105 rfl rfl ?_
    refine jw_get (pc := 106) (v := .ref (aM 31)) F hK ix_8 0 rfl rfl 30 (by decide) tm_845 rfl rfl dX8_differs_106 ?_
    refine j_iload_n (pc := 109) F 1 dX8_differs_109 rfl rfl ?_
    have c_2 : ¬ (y1 < 0 ∨ 9 ≤ Int32.toNatClampNeg y1) := fun z => by rw [if_pos z] at hf; cases hf
    have hf := of_neg c_2 hf
    refine jw_iald (pc := 110) F hK 13 rfl c_2 dX8_differs_110 ?_
    obtain ⟨o_3, ho_3, hf⟩ := of_bnd hf
    refine j_callWs (pc := 111) (st := []) (st1 := []) (w' := wM aM cy o_3) F hK hS hA (c_X8_dates (l := l) (D := D) (cy := cy) (g := g) (aM := aM) ho_3) tm_1045 cf_X8_dates (Nat.le_of_ble_eq_true rfl) (Nat.le_of_ble_eq_true rfl) ⟨Nat.zero_le _, Nat.zero_le _⟩ 0 rfl rfl rfl rfl rfl (Nat.le_of_ble_eq_true rfl) rfl dX8_differs_111 ?_
    refine j_iconst (pc := 114) F (v := 0) dX8_differs_114 rfl ?_
    refine j_istore (pc := 115) (lv' := [(7, .int 0), (0, .ref (aM 0)), (1, .int y1), (4, .int y4), (5, .int y5)]) F dX8_differs_115 (by decide) rfl ?_
    refine j_iconst (pc := 117) F (v := 0) dX8_differs_117 rfl ?_
    refine j_istore (pc := 118) (lv' := [(8, .int 0), (7, .int 0), (0, .ref (aM 0)), (1, .int y1), (4, .int y4), (5, .int y5)]) F dX8_differs_118 (by decide) rfl ?_
    refine j_sub [2, 3, 5, 1, 0] rfl ?_
    exact b_X8_differs_120 F hK hS hA N o_3 y1 y5 0 0 hf
  · have hf := of_neg c_1 hf
    refine j_iconst (pc := 96) F (v := (-1)) dX8_differs_96 rfl ?_
    have hf := (Option.some.inj hf)
    subst hf
    exact j_iretW (pc := 97) F dX8_differs_97 rfl rfl
set_option maxHeartbeats 4000000 in
set_option maxRecDepth 100000 in
theorem b_X8_differs_74 {l : Launch} {D : va_G} {cy : Nat → ClassId} {g : Gs} {p : Program} {e : Env} {s : State} {m : MethodId} {args : Array Value} {below : List Frame} {meth : Method} {c : Code} {A : Nat → Prop} {aM : Nat → Nat} {N : Nat} {out : Int32 × (St2 × (Nat → Int64))} (F : Fx p s m args meth c cX8_differs RX8 11 (some .int)) (hK : va_K D vwCl (tys cy) s) (hS : St g A s s.heap) (hA : ∀ q, s.heap.size ≤ q → A q) :
    ∀ (σM : St2 × (Nat → Int64)) (y1 : Int32) (y2 : Int32) (y4 : Int32) (y5 : Int32) (t0 : Int32), f_X8_differs_74 N σM y1 y2 y4 y5 t0 = some out → J p l e { frames := 3, cells := 0, slots := 0, locals := 69 } s m args below meth c 11 (hW D A s (wM aM cy σM)) 0 0 (MQ below (QW D A (some (.int out.1)) (wM aM cy out.2)) args s 0 0 A) 74 [(0, .ref (aM 0)), (1, .int y1), (2, .int y2), (4, .int y4), (5, .int y5)] [.int t0] := by
  intro σM y1 y2 y4 y5 t0 hf
  unfold f_X8_differs_74 at hf
  refine j_istore (pc := 74) (lv' := [(6, .int t0), (0, .ref (aM 0)), (1, .int y1), (2, .int y2), (4, .int y4), (5, .int y5)]) F dX8_differs_74 (by decide) rfl ?_
  refine j_iload (pc := 76) F 0 dX8_differs_76 rfl ?_
  refine j_aload_n (pc := 78) F 1 dX8_differs_78 rfl rfl ?_
  refine jw_get (pc := 79) (v := .ref (aM 7)) F hK ix_8 0 rfl rfl 6 (by decide) tm_821 rfl rfl dX8_differs_79 ?_
  refine j_iload_n (pc := 82) F 3 dX8_differs_82 rfl rfl ?_
  have c_1 : ¬ (y2 < 0 ∨ 12001 ≤ Int32.toNatClampNeg y2) := fun z => by rw [if_pos z] at hf; cases hf
  have hf := of_neg c_1 hf
  refine jw_iald (pc := 83) F hK 2 rfl c_1 dX8_differs_83 ?_
  refine j_iconst (pc := 84) F (v := 4) dX8_differs_84 rfl ?_
  refine j_icmp_ge (pc := 85) (tgt := 92) F dX8_differs_85 rfl (fun c_2 => ?_) (fun c_2 => ?_)
  · have hf := of_pos c_2 hf
    refine j_iconst (pc := 92) F (v := 0) dX8_differs_92 rfl ?_
    refine j_sub [1, 2, 4, 5] rfl ?_
    exact b_X8_differs_93 F hK hS hA σM y1 y4 y5 0 t0 hf
  · have hf := of_neg c_2 hf
    refine j_iconst (pc := 88) F (v := 1) dX8_differs_88 rfl ?_
    refine j_goto (pc := 89) F (tgt := 93) dX8_differs_89 rfl ?_
    refine j_sub [1, 2, 4, 5] rfl ?_
    exact b_X8_differs_93 F hK hS hA σM y1 y4 y5 1 t0 hf
set_option maxHeartbeats 4000000 in
set_option maxRecDepth 100000 in
theorem b_X8_differs_73 {l : Launch} {D : va_G} {cy : Nat → ClassId} {g : Gs} {p : Program} {e : Env} {s : State} {m : MethodId} {args : Array Value} {below : List Frame} {meth : Method} {c : Code} {A : Nat → Prop} {aM : Nat → Nat} {N : Nat} {out : Int32 × (St2 × (Nat → Int64))} (F : Fx p s m args meth c cX8_differs RX8 11 (some .int)) (hK : va_K D vwCl (tys cy) s) (hS : St g A s s.heap) (hA : ∀ q, s.heap.size ≤ q → A q) :
    ∀ (σM : St2 × (Nat → Int64)) (y1 : Int32) (y2 : Int32) (y4 : Int32) (y5 : Int32), f_X8_differs_73 N σM y1 y2 y4 y5 = some out → J p l e { frames := 3, cells := 0, slots := 0, locals := 69 } s m args below meth c 11 (hW D A s (wM aM cy σM)) 0 0 (MQ below (QW D A (some (.int out.1)) (wM aM cy out.2)) args s 0 0 A) 73 [(0, .ref (aM 0)), (1, .int y1), (2, .int y2), (4, .int y4), (5, .int y5)] [] := by
  intro σM y1 y2 y4 y5 hf
  unfold f_X8_differs_73 at hf
  refine j_iconst (pc := 73) F (v := 0) dX8_differs_73 rfl ?_
  exact b_X8_differs_74 F hK hS hA σM y1 y2 y4 y5 0 hf
set_option maxHeartbeats 4000000 in
set_option maxRecDepth 100000 in
theorem c_X8_differs {l : Launch} {D : va_G} {cy : Nat → ClassId} {g : Gs} {aM : Nat → Nat} {σM : St2 × (Nat → Int64)} {N : Nat} {x1 : Int32} {x2 : Int32} {x3 : Int32} {out : Int32 × (St2 × (Nat → Int64))} (hf : f_X8_differs N σM x1 x2 x3 = some out) : CW l D cy g yX8_differs cX8_differs 11 (some .int) 3 69 (wM aM cy σM) [.ref (aM 0), .int x1, .int x2, .int x3] (some (.int out.1)) (wM aM cy out.2) := by
  unfold f_X8_differs at hf
  refine met_W (lv := [(0, .ref (aM 0)), (1, .int x1), (2, .int x2), (3, .int x3)]) (by decide) (Nat.le_of_ble_eq_true rfl) rfl ?_
  intro p e s m args below meth c A F hK hS hA
  refine j_aload_n (pc := 0) F 0 dX8_differs_0 rfl rfl ?_
  refine jw_get (pc := 1) (v := .ref (aM 28)) F hK ix_8 0 rfl rfl 27 (by decide) tm_842 rfl rfl dX8_differs_1 ?_
  refine j_iload_n (pc := 4) F 1 dX8_differs_4 rfl rfl ?_
  have c_1 : ¬ (x1 < 0 ∨ 9 ≤ Int32.toNatClampNeg x1) := fun z => by rw [if_pos z] at hf; cases hf
  have hf := of_neg c_1 hf
  refine jw_iald (pc := 5) F hK 10 rfl c_1 dX8_differs_5 ?_
  refine j_aload_n (pc := 6) F 0 dX8_differs_6 rfl rfl ?_
  refine jw_get (pc := 7) (v := .ref (aM 7)) F hK ix_8 0 rfl rfl 6 (by decide) tm_821 rfl rfl dX8_differs_7 ?_
  refine j_iload_n (pc := 10) F 2 dX8_differs_10 rfl rfl ?_
  have c_2 : ¬ (x2 < 0 ∨ 12001 ≤ Int32.toNatClampNeg x2) := fun z => by rw [if_pos z] at hf; cases hf
  have hf := of_neg c_2 hf
  refine jw_iald (pc := 11) F hK 2 rfl c_2 dX8_differs_11 ?_
  refine j_ishr (pc := 12) F dX8_differs_12 ?_
  refine j_iconst (pc := 13) F (v := 1) dX8_differs_13 rfl ?_
  refine j_iand (pc := 14) F dX8_differs_14 ?_
  refine j_if_ne (pc := 15) (tgt := 20) F dX8_differs_15 rfl (fun c_3 => ?_) (fun c_3 => ?_)
  · have hf := of_neg c_3 hf
    refine j_aload_n (pc := 20) F 0 dX8_differs_20 rfl rfl ?_
    refine jw_get (pc := 21) (v := .ref (aM 8)) F hK ix_8 0 rfl rfl 7 (by decide) tm_822 rfl rfl dX8_differs_21 ?_
    refine j_iload_n (pc := 24) F 2 dX8_differs_24 rfl rfl ?_
    have c_4 : ¬ (x2 < 0 ∨ 12001 ≤ Int32.toNatClampNeg x2) := fun z => by rw [if_pos z] at hf; cases hf
    have hf := of_neg c_4 hf
    refine jw_iald (pc := 25) F hK 3 rfl c_4 dX8_differs_25 ?_
    refine j_aload_n (pc := 26) F 0 dX8_differs_26 rfl rfl ?_
    refine jw_get (pc := 27) (v := .ref (aM 32)) F hK ix_8 0 rfl rfl 31 (by decide) tm_846 rfl rfl dX8_differs_27 ?_
    refine j_iload_n (pc := 30) F 1 dX8_differs_30 rfl rfl ?_
    have c_5 : ¬ (x1 < 0 ∨ 9 ≤ Int32.toNatClampNeg x1) := fun z => by rw [if_pos z] at hf; cases hf
    have hf := of_neg c_5 hf
    refine jw_iald (pc := 31) F hK 14 rfl c_5 dX8_differs_31 ?_
    refine j_iload_n (pc := 32) F 3 dX8_differs_32 rfl rfl ?_
    refine j_callRS (pc := 33) (st := []) (st1 := [.int (f_X8_seenAt (σM.1 8 (Int32.toNatClampNeg x2)) (σM.1 32 (Int32.toNatClampNeg x1)) x3)]) F hK (hpW hS hp_nil) (c_X8_seenAt (l := l) (D := D) (cy := cy) (g := g) (rfl : f_X8_seenAt (σM.1 8 (Int32.toNatClampNeg x2)) (σM.1 32 (Int32.toNatClampNeg x1)) x3 = _)) tm_1067 cf_X8_seenAt (Nat.le_of_ble_eq_true rfl) (Nat.le_of_ble_eq_true rfl) ⟨Nat.zero_le _, Nat.zero_le _⟩ rfl rfl (Nat.le_of_ble_eq_true rfl) rfl dX8_differs_33 ?_
    obtain ⟨z_7, ez_7, hf⟩ := of_lt hf
    refine j_topi ez_7 ?_
    refine j_istore (pc := 36) (lv' := [(4, .int z_7), (0, .ref (aM 0)), (1, .int x1), (2, .int x2), (3, .int x3)]) F dX8_differs_36 (by decide) rfl ?_
    refine j_iload (pc := 38) F 0 dX8_differs_38 rfl ?_
    refine j_if_ge (pc := 40) (tgt := 45) F dX8_differs_40 rfl (fun c_8 => ?_) (fun c_8 => ?_)
    · have hf := of_pos c_8 hf
      refine j_iload (pc := 45) F 0 dX8_differs_45 rfl ?_
      refine j_sipush (pc := 47) F (v := 1440) dX8_differs_47 rfl ?_
      refine j_irem (pc := 50) F dX8_differs_50 (by decide) ?_
      refine j_bipush (pc := 51) F (v := 60) dX8_differs_51 rfl ?_
      refine j_idiv (pc := 53) F dX8_differs_53 (by decide) ?_
      refine j_istore (pc := 54) (lv' := [(5, .int ((z_7 - z_7 / 1440 * 1440) / 60)), (4, .int z_7), (0, .ref (aM 0)), (1, .int x1), (2, .int x2), (3, .int x3)]) F dX8_differs_54 (by decide) rfl ?_
      refine j_iload (pc := 56) F 0 dX8_differs_56 rfl ?_
      refine j_iconst (pc := 58) F (v := 5) dX8_differs_58 rfl ?_
      refine j_icmp_le (pc := 59) (tgt := 73) F dX8_differs_59 rfl (fun c_9 => ?_) (fun c_9 => ?_)
      · have hf := of_pos c_9 hf
        refine j_sub [2, 3, 4, 1, 0] rfl ?_
        exact b_X8_differs_73 F hK hS hA σM x1 x2 z_7 ((z_7 - z_7 / 1440 * 1440) / 60) hf
      · have hf := of_neg c_9 hf
        refine j_iload (pc := 62) F 0 dX8_differs_62 rfl ?_
        refine j_bipush (pc := 64) F (v := 18) dX8_differs_64 rfl ?_
        refine j_icmp_ge (pc := 66) (tgt := 73) F dX8_differs_66 rfl (fun c_10 => ?_) (fun c_10 => ?_)
        · have hf := of_pos c_10 hf
          refine j_sub [2, 3, 4, 1, 0] rfl ?_
          exact b_X8_differs_73 F hK hS hA σM x1 x2 z_7 ((z_7 - z_7 / 1440 * 1440) / 60) hf
        · have hf := of_neg c_10 hf
          refine j_iconst (pc := 69) F (v := 1) dX8_differs_69 rfl ?_
          refine j_goto (pc := 70) F (tgt := 74) dX8_differs_70 rfl ?_
          refine j_sub [2, 3, 4, 1, 0] rfl ?_
          exact b_X8_differs_74 F hK hS hA σM x1 x2 z_7 ((z_7 - z_7 / 1440 * 1440) / 60) 1 hf
    · have hf := of_neg c_8 hf
      refine j_iconst (pc := 43) F (v := (-1)) dX8_differs_43 rfl ?_
      have hf := (Option.some.inj hf)
      subst hf
      exact j_iretW (pc := 44) F dX8_differs_44 rfl rfl
  · have hf := of_pos c_3 hf
    refine j_iconst (pc := 18) F (v := (-1)) dX8_differs_18 rfl ?_
    have hf := (Option.some.inj hf)
    subst hf
    exact j_iretW (pc := 19) F dX8_differs_19 rfl rfl
theorem cf_X8_differs : cfV yX8_differs cX8_differs 11 (some .int) 3 := ⟨tm_1158, tm_50, tm_60, tm_1159, by decide, by decide, by decide +kernel⟩

def f_X8_isAsked (N : Nat) (σM : St2 × (Nat → Int64)) (x1 : Int32) (x2 : Int32) : Option (Bool × (St2 × (Nat → Int64))) := if (bI (f_X8_isRecord σM x1)) = 0 then some (false, σM) else if (bI (f_X8_isIn x2 0 60)) = 0 then some (false, σM) else (f_X8_notes N σM).bind fun o_5 => some (true, o_5)
set_option maxHeartbeats 4000000 in
set_option maxRecDepth 100000 in
theorem c_X8_isAsked {l : Launch} {D : va_G} {cy : Nat → ClassId} {g : Gs} {aM : Nat → Nat} {σM : St2 × (Nat → Int64)} {N : Nat} {x1 : Int32} {x2 : Int32} {out : Bool × (St2 × (Nat → Int64))} (hf : f_X8_isAsked N σM x1 x2 = some out) : CW l D cy g yX8_isAsked cX8_isAsked 3 (some .boolean) 4 88 (wM aM cy σM) [.ref (aM 0), .int x1, .int x2] (some (.int (bI out.1))) (wM aM cy out.2) := by
  unfold f_X8_isAsked at hf
  refine met_W (lv := [(0, .ref (aM 0)), (1, .int x1), (2, .int x2)]) (by decide) (Nat.le_of_ble_eq_true rfl) rfl ?_
  intro p e s m args below meth c A F hK hS hA
  refine j_aload_n (pc := 0) F 0 dX8_isAsked_0 rfl rfl ?_
  refine j_iload_n (pc := 1) F 1 dX8_isAsked_1 rfl rfl ?_
  refine j_callRV (pc := 2) (st := []) (st1 := [.int (bI (f_X8_isRecord σM x1))]) F hK (hpW hS hp_id) (c_X8_isRecord (l := l) (D := D) (cy := cy) (g := g) (aM := aM) (rfl : f_X8_isRecord σM x1 = _)) tm_1152 cf_X8_isRecord (Nat.le_of_ble_eq_true rfl) (Nat.le_of_ble_eq_true rfl) ⟨Nat.zero_le _, Nat.zero_le _⟩ 0 rfl rfl rfl rfl rfl (Nat.le_of_ble_eq_true rfl) rfl dX8_isAsked_2 ?_
  refine j_if_eq (pc := 5) (tgt := 18) F dX8_isAsked_5 rfl (fun c_2 => ?_) (fun c_2 => ?_)
  · have hf := of_pos c_2 hf
    refine j_iconst (pc := 18) F (v := 0) dX8_isAsked_18 rfl ?_
    have hf := (Option.some.inj hf)
    subst hf
    exact j_zretW (pc := 19) F dX8_isAsked_19 rfl rfl
  · have hf := of_neg c_2 hf
    refine j_iload_n (pc := 8) F 2 dX8_isAsked_8 rfl rfl ?_
    refine j_iconst (pc := 9) F (v := 0) dX8_isAsked_9 rfl ?_
    refine j_bipush (pc := 10) F (v := 60) dX8_isAsked_10 rfl ?_
    refine j_callRS (pc := 12) (st := []) (st1 := [.int (bI (f_X8_isIn x2 0 60))]) F hK (hpW hS hp_nil) (c_X8_isIn (l := l) (D := D) (cy := cy) (g := g) (rfl : f_X8_isIn x2 0 60 = _)) tm_973 cf_X8_isIn (Nat.le_of_ble_eq_true rfl) (Nat.le_of_ble_eq_true rfl) ⟨Nat.zero_le _, Nat.zero_le _⟩ rfl rfl (Nat.le_of_ble_eq_true rfl) rfl dX8_isAsked_12 ?_
    refine j_if_ne (pc := 15) (tgt := 20) F dX8_isAsked_15 rfl (fun c_4 => ?_) (fun c_4 => ?_)
    · have hf := of_neg c_4 hf
      refine j_aload_n (pc := 20) F 0 dX8_isAsked_20 rfl rfl ?_
      obtain ⟨o_5, ho_5, hf⟩ := of_bnd hf
      refine j_callWs (pc := 21) (st := []) (st1 := []) (w' := wM aM cy o_5) F hK hS hA (c_X8_notes (l := l) (D := D) (cy := cy) (g := g) (aM := aM) ho_5) tm_1028 cf_X8_notes (Nat.le_of_ble_eq_true rfl) (Nat.le_of_ble_eq_true rfl) ⟨Nat.zero_le _, Nat.zero_le _⟩ 0 rfl rfl rfl rfl rfl (Nat.le_of_ble_eq_true rfl) rfl dX8_isAsked_21 ?_
      refine j_iconst (pc := 24) F (v := 1) dX8_isAsked_24 rfl ?_
      have hf := (Option.some.inj hf)
      subst hf
      exact j_zretW (pc := 25) F dX8_isAsked_25 rfl rfl
    · have hf := of_pos c_4 hf
      refine j_iconst (pc := 18) F (v := 0) dX8_isAsked_18 rfl ?_
      have hf := (Option.some.inj hf)
      subst hf
      exact j_zretW (pc := 19) F dX8_isAsked_19 rfl rfl
theorem cf_X8_isAsked : cfV yX8_isAsked cX8_isAsked 3 (some .boolean) 2 := ⟨tm_1150, tm_48, tm_60, tm_1151, by decide, by decide, by decide +kernel⟩

def f_X8_means_39 (N : Nat) (K16 : (St2 × (Nat → Int64)) → Int32 → Int32 → Int32 → Int32 → Option (Int32 × (St2 × (Nat → Int64)))) (σM : St2 × (Nat → Int64)) (y1 : Int32) (y2 : Int32) (y3 : Int32) (y4 : Int32) : Option (Int32 × (St2 × (Nat → Int64))) := K16 σM y1 y2 y3 (y4 + 1)
def f_X8_means_16 (N : Nat) : Nat → (St2 × (Nat → Int64)) → Int32 → Int32 → Int32 → Int32 → Option (Int32 × (St2 × (Nat → Int64)))
  | 0, _, _, _, _, _ => none
  | n + 1, σM, y1, y2, y3, y4 => if (σM.1 0 4) ≤ y4 then some (y3, σM) else (f_X8_differs N σM y1 y4 y2).bind fun o_2 => if o_2.1 = 0 then f_X8_means_39 N (f_X8_means_16 N n) o_2.2 y1 y2 (y3 + 1) y4 else f_X8_means_39 N (f_X8_means_16 N n) o_2.2 y1 y2 y3 y4
def f_X8_means (N : Nat) (σM : St2 × (Nat → Int64)) (x1 : Int32) (x2 : Int32) : Option (Int32 × (St2 × (Nat → Int64))) := (f_X8_isAsked N σM x1 x2).bind fun o_1 => if (bI o_1.1) = 0 then some ((-1), o_1.2) else f_X8_means_16 N N o_1.2 x1 x2 0 0
set_option maxHeartbeats 4000000 in
set_option maxRecDepth 100000 in
theorem b_X8_means_39 {l : Launch} {D : va_G} {cy : Nat → ClassId} {g : Gs} {p : Program} {e : Env} {s : State} {m : MethodId} {args : Array Value} {below : List Frame} {meth : Method} {c : Code} {A : Nat → Prop} {aM : Nat → Nat} {N : Nat} {out : Int32 × (St2 × (Nat → Int64))} {K16 : (St2 × (Nat → Int64)) → Int32 → Int32 → Int32 → Int32 → Option (Int32 × (St2 × (Nat → Int64)))} (F : Fx p s m args meth c cX8_means RX8 5 (some .int)) (hK : va_K D vwCl (tys cy) s) (hS : St g A s s.heap) (hA : ∀ q, s.heap.size ≤ q → A q) (hK16 : ∀ (σM : St2 × (Nat → Int64)) (y1 : Int32) (y2 : Int32) (y3 : Int32) (y4 : Int32), K16 σM y1 y2 y3 y4 = some out → J p l e { frames := 5, cells := 0, slots := 0, locals := 110 } s m args below meth c 5 (hW D A s (wM aM cy σM)) 0 0 (MQ below (QW D A (some (.int out.1)) (wM aM cy out.2)) args s 0 0 A) 16 [(0, .ref (aM 0)), (1, .int y1), (2, .int y2), (3, .int y3), (4, .int y4)] []) :
    ∀ (σM : St2 × (Nat → Int64)) (y1 : Int32) (y2 : Int32) (y3 : Int32) (y4 : Int32), f_X8_means_39 N K16 σM y1 y2 y3 y4 = some out → J p l e { frames := 5, cells := 0, slots := 0, locals := 110 } s m args below meth c 5 (hW D A s (wM aM cy σM)) 0 0 (MQ below (QW D A (some (.int out.1)) (wM aM cy out.2)) args s 0 0 A) 39 [(0, .ref (aM 0)), (1, .int y1), (2, .int y2), (3, .int y3), (4, .int y4)] [] := by
  intro σM y1 y2 y3 y4 hf
  unfold f_X8_means_39 at hf
  refine j_iinc (pc := 39) (v := y4 + 1) (lv' := [(4, .int (y4 + 1)), (0, .ref (aM 0)), (1, .int y1), (2, .int y2), (3, .int y3)]) F 4 dX8_means_39 rfl rfl (by decide) rfl ?_
  refine j_goto (pc := 42) F (tgt := 16) dX8_means_42 rfl ?_
  refine j_sub [1, 2, 3, 4, 0] rfl ?_
  exact hK16 σM y1 y2 y3 (y4 + 1) hf
set_option maxHeartbeats 4000000 in
set_option maxRecDepth 100000 in
theorem b_X8_means_16 {l : Launch} {D : va_G} {cy : Nat → ClassId} {g : Gs} {p : Program} {e : Env} {s : State} {m : MethodId} {args : Array Value} {below : List Frame} {meth : Method} {c : Code} {A : Nat → Prop} {aM : Nat → Nat} {N : Nat} {out : Int32 × (St2 × (Nat → Int64))} (F : Fx p s m args meth c cX8_means RX8 5 (some .int)) (hK : va_K D vwCl (tys cy) s) (hS : St g A s s.heap) (hA : ∀ q, s.heap.size ≤ q → A q) :
    ∀ (n : Nat) (σM : St2 × (Nat → Int64)) (y1 : Int32) (y2 : Int32) (y3 : Int32) (y4 : Int32), f_X8_means_16 N n σM y1 y2 y3 y4 = some out → J p l e { frames := 5, cells := 0, slots := 0, locals := 110 } s m args below meth c 5 (hW D A s (wM aM cy σM)) 0 0 (MQ below (QW D A (some (.int out.1)) (wM aM cy out.2)) args s 0 0 A) 16 [(0, .ref (aM 0)), (1, .int y1), (2, .int y2), (3, .int y3), (4, .int y4)] [] := by
  intro n
  induction n with
  | zero =>
    intro σM y1 y2 y3 y4 hf
    cases hf
  | succ n ih =>
    intro σM y1 y2 y3 y4 hf
    rw [f_X8_means_16] at hf
    refine j_iload (pc := 16) F 4 dX8_means_16 rfl ?_
    refine j_aload_n (pc := 18) F 0 dX8_means_18 rfl rfl ?_
    refine jw_get (pc := 19) (v := .int (σM.1 0 4)) F hK ix_8 0 rfl rfl 4 (by decide) tm_819 rfl rfl dX8_means_19 ?_
    refine j_icmp_ge (pc := 22) (tgt := 45) F dX8_means_22 rfl (fun c_1 => ?_) (fun c_1 => ?_)
    · have hf := of_pos c_1 hf
      refine j_iload_n (pc := 45) F 3 dX8_means_45 rfl rfl ?_
      have hf := (Option.some.inj hf)
      subst hf
      exact j_iretW (pc := 46) F dX8_means_46 rfl rfl
    · have hf := of_neg c_1 hf
      refine j_aload_n (pc := 25) F 0 dX8_means_25 rfl rfl ?_
      refine j_iload_n (pc := 26) F 1 dX8_means_26 rfl rfl ?_
      refine j_iload (pc := 27) F 4 dX8_means_27 rfl ?_
      refine j_iload_n (pc := 29) F 2 dX8_means_29 rfl rfl ?_
      obtain ⟨o_2, ho_2, hf⟩ := of_bnd hf
      refine j_callWs (pc := 30) (st := []) (st1 := [.int o_2.1]) (w' := wM aM cy o_2.2) F hK hS hA (c_X8_differs (l := l) (D := D) (cy := cy) (g := g) (aM := aM) ho_2) tm_1156 cf_X8_differs (Nat.le_of_ble_eq_true rfl) (Nat.le_of_ble_eq_true rfl) ⟨Nat.zero_le _, Nat.zero_le _⟩ 0 rfl rfl rfl rfl rfl (Nat.le_of_ble_eq_true rfl) rfl dX8_means_30 ?_
      refine j_if_ne (pc := 33) (tgt := 39) F dX8_means_33 rfl (fun c_3 => ?_) (fun c_3 => ?_)
      · have hf := of_neg c_3 hf
        exact b_X8_means_39 F hK hS hA ih o_2.2 y1 y2 y3 y4 hf
      · have hf := of_pos c_3 hf
        refine j_iinc (pc := 36) (v := y3 + 1) (lv' := [(3, .int (y3 + 1)), (0, .ref (aM 0)), (1, .int y1), (2, .int y2), (4, .int y4)]) F 3 dX8_means_36 rfl rfl (by decide) rfl ?_
        refine j_sub [1, 2, 3, 0, 4] rfl ?_
        exact b_X8_means_39 F hK hS hA ih o_2.2 y1 y2 (y3 + 1) y4 hf
set_option maxHeartbeats 4000000 in
set_option maxRecDepth 100000 in
theorem c_X8_means {l : Launch} {D : va_G} {cy : Nat → ClassId} {g : Gs} {aM : Nat → Nat} {σM : St2 × (Nat → Int64)} {N : Nat} {x1 : Int32} {x2 : Int32} {out : Int32 × (St2 × (Nat → Int64))} (hf : f_X8_means N σM x1 x2 = some out) : CW l D cy g yX8_means cX8_means 5 (some .int) 5 110 (wM aM cy σM) [.ref (aM 0), .int x1, .int x2] (some (.int out.1)) (wM aM cy out.2) := by
  unfold f_X8_means at hf
  refine met_W (lv := [(0, .ref (aM 0)), (1, .int x1), (2, .int x2)]) (by decide) (Nat.le_of_ble_eq_true rfl) rfl ?_
  intro p e s m args below meth c A F hK hS hA
  refine j_aload_n (pc := 0) F 0 dX8_means_0 rfl rfl ?_
  refine j_iload_n (pc := 1) F 1 dX8_means_1 rfl rfl ?_
  refine j_iload_n (pc := 2) F 2 dX8_means_2 rfl rfl ?_
  obtain ⟨o_1, ho_1, hf⟩ := of_bnd hf
  refine j_callWs (pc := 3) (st := []) (st1 := [.int (bI o_1.1)]) (w' := wM aM cy o_1.2) F hK hS hA (c_X8_isAsked (l := l) (D := D) (cy := cy) (g := g) (aM := aM) ho_1) tm_1148 cf_X8_isAsked (Nat.le_of_ble_eq_true rfl) (Nat.le_of_ble_eq_true rfl) ⟨Nat.zero_le _, Nat.zero_le _⟩ 0 rfl rfl rfl rfl rfl (Nat.le_of_ble_eq_true rfl) rfl dX8_means_3 ?_
  refine j_if_ne (pc := 6) (tgt := 11) F dX8_means_6 rfl (fun c_2 => ?_) (fun c_2 => ?_)
  · have hf := of_neg c_2 hf
    refine j_iconst (pc := 11) F (v := 0) dX8_means_11 rfl ?_
    refine j_istore_n (pc := 12) (lv' := [(3, .int 0), (0, .ref (aM 0)), (1, .int x1), (2, .int x2)]) F dX8_means_12 rfl (by decide) rfl ?_
    refine j_iconst (pc := 13) F (v := 0) dX8_means_13 rfl ?_
    refine j_istore (pc := 14) (lv' := [(4, .int 0), (3, .int 0), (0, .ref (aM 0)), (1, .int x1), (2, .int x2)]) F dX8_means_14 (by decide) rfl ?_
    refine j_sub [2, 3, 4, 1, 0] rfl ?_
    exact b_X8_means_16 F hK hS hA N o_1.2 x1 x2 0 0 hf
  · have hf := of_pos c_2 hf
    refine j_iconst (pc := 9) F (v := (-1)) dX8_means_9 rfl ?_
    have hf := (Option.some.inj hf)
    subst hf
    exact j_iretW (pc := 10) F dX8_means_10 rfl rfl
theorem cf_X8_means : cfV yX8_means cX8_means 5 (some .int) 2 := ⟨tm_1145, tm_1146, tm_60, tm_1147, by decide, by decide, by decide +kernel⟩

def f_X8_meant_61 (N : Nat) (K21 : (St2 × (Nat → Int64)) → Int32 → Int32 → Int32 → Int32 → Int32 → Option (Int32 × (St2 × (Nat → Int64)))) (σM : St2 × (Nat → Int64)) (y1 : Int32) (y2 : Int32) (y3 : Int32) (y4 : Int32) (y5 : Int32) : Option (Int32 × (St2 × (Nat → Int64))) := K21 σM y1 y2 y3 y4 (y5 + 1)
def f_X8_meant_21 (N : Nat) : Nat → (St2 × (Nat → Int64)) → Int32 → Int32 → Int32 → Int32 → Int32 → Option (Int32 × (St2 × (Nat → Int64)))
  | 0, _, _, _, _, _, _ => none
  | n + 1, σM, y1, y2, y3, y4, y5 => if (σM.1 0 4) ≤ y5 then some ((-1), σM) else (f_X8_differs N σM y1 y5 y2).bind fun o_2 => if o_2.1 = 0 then if y4 = y3 then if y5 < 0 ∨ 12001 ≤ Int32.toNatClampNeg y5 then none else some (o_2.2.1 6 (Int32.toNatClampNeg y5), o_2.2) else f_X8_meant_61 N (f_X8_meant_21 N n) o_2.2 y1 y2 y3 (y4 + 1) y5 else f_X8_meant_61 N (f_X8_meant_21 N n) o_2.2 y1 y2 y3 y4 y5
def f_X8_meant (N : Nat) (σM : St2 × (Nat → Int64)) (x1 : Int32) (x2 : Int32) (x3 : Int32) : Option (Int32 × (St2 × (Nat → Int64))) := (f_X8_isAsked N σM x1 x2).bind fun o_1 => if (bI o_1.1) = 0 then some ((-1), o_1.2) else if 0 ≤ x3 then f_X8_meant_21 N N o_1.2 x1 x2 x3 0 0 else some ((-1), o_1.2)
set_option maxHeartbeats 4000000 in
set_option maxRecDepth 100000 in
theorem b_X8_meant_61 {l : Launch} {D : va_G} {cy : Nat → ClassId} {g : Gs} {p : Program} {e : Env} {s : State} {m : MethodId} {args : Array Value} {below : List Frame} {meth : Method} {c : Code} {A : Nat → Prop} {aM : Nat → Nat} {N : Nat} {out : Int32 × (St2 × (Nat → Int64))} {K21 : (St2 × (Nat → Int64)) → Int32 → Int32 → Int32 → Int32 → Int32 → Option (Int32 × (St2 × (Nat → Int64)))} (F : Fx p s m args meth c cX8_meant RX8 6 (some .int)) (hK : va_K D vwCl (tys cy) s) (hS : St g A s s.heap) (hA : ∀ q, s.heap.size ≤ q → A q) (hK21 : ∀ (σM : St2 × (Nat → Int64)) (y1 : Int32) (y2 : Int32) (y3 : Int32) (y4 : Int32) (y5 : Int32), K21 σM y1 y2 y3 y4 y5 = some out → J p l e { frames := 5, cells := 0, slots := 0, locals := 110 } s m args below meth c 6 (hW D A s (wM aM cy σM)) 0 0 (MQ below (QW D A (some (.int out.1)) (wM aM cy out.2)) args s 0 0 A) 21 [(0, .ref (aM 0)), (1, .int y1), (2, .int y2), (3, .int y3), (4, .int y4), (5, .int y5)] []) :
    ∀ (σM : St2 × (Nat → Int64)) (y1 : Int32) (y2 : Int32) (y3 : Int32) (y4 : Int32) (y5 : Int32), f_X8_meant_61 N K21 σM y1 y2 y3 y4 y5 = some out → J p l e { frames := 5, cells := 0, slots := 0, locals := 110 } s m args below meth c 6 (hW D A s (wM aM cy σM)) 0 0 (MQ below (QW D A (some (.int out.1)) (wM aM cy out.2)) args s 0 0 A) 61 [(0, .ref (aM 0)), (1, .int y1), (2, .int y2), (3, .int y3), (4, .int y4), (5, .int y5)] [] := by
  intro σM y1 y2 y3 y4 y5 hf
  unfold f_X8_meant_61 at hf
  refine j_iinc (pc := 61) (v := y5 + 1) (lv' := [(5, .int (y5 + 1)), (0, .ref (aM 0)), (1, .int y1), (2, .int y2), (3, .int y3), (4, .int y4)]) F 5 dX8_meant_61 rfl rfl (by decide) rfl ?_
  refine j_goto (pc := 64) F (tgt := 21) dX8_meant_64 rfl ?_
  refine j_sub [1, 2, 3, 4, 5, 0] rfl ?_
  exact hK21 σM y1 y2 y3 y4 (y5 + 1) hf
set_option maxHeartbeats 4000000 in
set_option maxRecDepth 100000 in
theorem b_X8_meant_21 {l : Launch} {D : va_G} {cy : Nat → ClassId} {g : Gs} {p : Program} {e : Env} {s : State} {m : MethodId} {args : Array Value} {below : List Frame} {meth : Method} {c : Code} {A : Nat → Prop} {aM : Nat → Nat} {N : Nat} {out : Int32 × (St2 × (Nat → Int64))} (F : Fx p s m args meth c cX8_meant RX8 6 (some .int)) (hK : va_K D vwCl (tys cy) s) (hS : St g A s s.heap) (hA : ∀ q, s.heap.size ≤ q → A q) :
    ∀ (n : Nat) (σM : St2 × (Nat → Int64)) (y1 : Int32) (y2 : Int32) (y3 : Int32) (y4 : Int32) (y5 : Int32), f_X8_meant_21 N n σM y1 y2 y3 y4 y5 = some out → J p l e { frames := 5, cells := 0, slots := 0, locals := 110 } s m args below meth c 6 (hW D A s (wM aM cy σM)) 0 0 (MQ below (QW D A (some (.int out.1)) (wM aM cy out.2)) args s 0 0 A) 21 [(0, .ref (aM 0)), (1, .int y1), (2, .int y2), (3, .int y3), (4, .int y4), (5, .int y5)] [] := by
  intro n
  induction n with
  | zero =>
    intro σM y1 y2 y3 y4 y5 hf
    cases hf
  | succ n ih =>
    intro σM y1 y2 y3 y4 y5 hf
    rw [f_X8_meant_21] at hf
    refine j_iload (pc := 21) F 5 dX8_meant_21 rfl ?_
    refine j_aload_n (pc := 23) F 0 dX8_meant_23 rfl rfl ?_
    refine jw_get (pc := 24) (v := .int (σM.1 0 4)) F hK ix_8 0 rfl rfl 4 (by decide) tm_819 rfl rfl dX8_meant_24 ?_
    refine j_icmp_ge (pc := 27) (tgt := 67) F dX8_meant_27 rfl (fun c_1 => ?_) (fun c_1 => ?_)
    · have hf := of_pos c_1 hf
      refine j_iconst (pc := 67) F (v := (-1)) dX8_meant_67 rfl ?_
      have hf := (Option.some.inj hf)
      subst hf
      exact j_iretW (pc := 68) F dX8_meant_68 rfl rfl
    · have hf := of_neg c_1 hf
      refine j_aload_n (pc := 30) F 0 dX8_meant_30 rfl rfl ?_
      refine j_iload_n (pc := 31) F 1 dX8_meant_31 rfl rfl ?_
      refine j_iload (pc := 32) F 5 dX8_meant_32 rfl ?_
      refine j_iload_n (pc := 34) F 2 dX8_meant_34 rfl rfl ?_
      obtain ⟨o_2, ho_2, hf⟩ := of_bnd hf
      refine j_callWs (pc := 35) (st := []) (st1 := [.int o_2.1]) (w' := wM aM cy o_2.2) F hK hS hA (c_X8_differs (l := l) (D := D) (cy := cy) (g := g) (aM := aM) ho_2) tm_1156 cf_X8_differs (Nat.le_of_ble_eq_true rfl) (Nat.le_of_ble_eq_true rfl) ⟨Nat.zero_le _, Nat.zero_le _⟩ 0 rfl rfl rfl rfl rfl (Nat.le_of_ble_eq_true rfl) rfl dX8_meant_35 ?_
      refine j_if_eq (pc := 38) (tgt := 44) F dX8_meant_38 rfl (fun c_3 => ?_) (fun c_3 => ?_)
      · have hf := of_pos c_3 hf
        refine j_iload (pc := 44) F 4 dX8_meant_44 rfl ?_
        refine j_iload_n (pc := 46) F 3 dX8_meant_46 rfl rfl ?_
        refine j_icmp_ne (pc := 47) (tgt := 58) F dX8_meant_47 rfl (fun c_4 => ?_) (fun c_4 => ?_)
        · have hf := of_neg c_4 hf
          refine j_iinc (pc := 58) (v := y4 + 1) (lv' := [(4, .int (y4 + 1)), (0, .ref (aM 0)), (1, .int y1), (2, .int y2), (3, .int y3), (5, .int y5)]) F 4 dX8_meant_58 rfl rfl (by decide) rfl ?_
          refine j_sub [1, 2, 3, 4, 0, 5] rfl ?_
          exact b_X8_meant_61 F hK hS hA ih o_2.2 y1 y2 y3 (y4 + 1) y5 hf
        · have hf := of_pos c_4 hf
          refine j_aload_n (pc := 50) F 0 dX8_meant_50 rfl rfl ?_
          refine jw_get (pc := 51) (v := .ref (aM 6)) F hK ix_8 0 rfl rfl 5 (by decide) tm_820 rfl rfl dX8_meant_51 ?_
          refine j_iload (pc := 54) F 5 dX8_meant_54 rfl ?_
          have c_5 : ¬ (y5 < 0 ∨ 12001 ≤ Int32.toNatClampNeg y5) := fun z => by rw [if_pos z] at hf; cases hf
          have hf := of_neg c_5 hf
          refine jw_iald (pc := 56) F hK 1 rfl c_5 dX8_meant_56 ?_
          have hf := (Option.some.inj hf)
          subst hf
          exact j_iretW (pc := 57) F dX8_meant_57 rfl rfl
      · have hf := of_neg c_3 hf
        refine j_goto (pc := 41) F (tgt := 61) dX8_meant_41 rfl ?_
        exact b_X8_meant_61 F hK hS hA ih o_2.2 y1 y2 y3 y4 y5 hf
set_option maxHeartbeats 4000000 in
set_option maxRecDepth 100000 in
theorem c_X8_meant {l : Launch} {D : va_G} {cy : Nat → ClassId} {g : Gs} {aM : Nat → Nat} {σM : St2 × (Nat → Int64)} {N : Nat} {x1 : Int32} {x2 : Int32} {x3 : Int32} {out : Int32 × (St2 × (Nat → Int64))} (hf : f_X8_meant N σM x1 x2 x3 = some out) : CW l D cy g yX8_meant cX8_meant 6 (some .int) 5 110 (wM aM cy σM) [.ref (aM 0), .int x1, .int x2, .int x3] (some (.int out.1)) (wM aM cy out.2) := by
  unfold f_X8_meant at hf
  refine met_W (lv := [(0, .ref (aM 0)), (1, .int x1), (2, .int x2), (3, .int x3)]) (by decide) (Nat.le_of_ble_eq_true rfl) rfl ?_
  intro p e s m args below meth c A F hK hS hA
  refine j_aload_n (pc := 0) F 0 dX8_meant_0 rfl rfl ?_
  refine j_iload_n (pc := 1) F 1 dX8_meant_1 rfl rfl ?_
  refine j_iload_n (pc := 2) F 2 dX8_meant_2 rfl rfl ?_
  obtain ⟨o_1, ho_1, hf⟩ := of_bnd hf
  refine j_callWs (pc := 3) (st := []) (st1 := [.int (bI o_1.1)]) (w' := wM aM cy o_1.2) F hK hS hA (c_X8_isAsked (l := l) (D := D) (cy := cy) (g := g) (aM := aM) ho_1) tm_1148 cf_X8_isAsked (Nat.le_of_ble_eq_true rfl) (Nat.le_of_ble_eq_true rfl) ⟨Nat.zero_le _, Nat.zero_le _⟩ 0 rfl rfl rfl rfl rfl (Nat.le_of_ble_eq_true rfl) rfl dX8_meant_3 ?_
  refine j_if_eq (pc := 6) (tgt := 13) F dX8_meant_6 rfl (fun c_2 => ?_) (fun c_2 => ?_)
  · have hf := of_pos c_2 hf
    refine j_iconst (pc := 13) F (v := (-1)) dX8_meant_13 rfl ?_
    have hf := (Option.some.inj hf)
    subst hf
    exact j_iretW (pc := 14) F dX8_meant_14 rfl rfl
  · have hf := of_neg c_2 hf
    refine j_iload_n (pc := 9) F 3 dX8_meant_9 rfl rfl ?_
    refine j_if_ge (pc := 10) (tgt := 15) F dX8_meant_10 rfl (fun c_3 => ?_) (fun c_3 => ?_)
    · have hf := of_pos c_3 hf
      refine j_iconst (pc := 15) F (v := 0) dX8_meant_15 rfl ?_
      refine j_istore (pc := 16) (lv' := [(4, .int 0), (0, .ref (aM 0)), (1, .int x1), (2, .int x2), (3, .int x3)]) F dX8_meant_16 (by decide) rfl ?_
      refine j_iconst (pc := 18) F (v := 0) dX8_meant_18 rfl ?_
      refine j_istore (pc := 19) (lv' := [(5, .int 0), (4, .int 0), (0, .ref (aM 0)), (1, .int x1), (2, .int x2), (3, .int x3)]) F dX8_meant_19 (by decide) rfl ?_
      refine j_sub [2, 3, 4, 5, 1, 0] rfl ?_
      exact b_X8_meant_21 F hK hS hA N o_1.2 x1 x2 x3 0 0 hf
    · have hf := of_neg c_3 hf
      refine j_iconst (pc := 13) F (v := (-1)) dX8_meant_13 rfl ?_
      have hf := (Option.some.inj hf)
      subst hf
      exact j_iretW (pc := 14) F dX8_meant_14 rfl rfl
theorem cf_X8_meant : cfV yX8_meant cX8_meant 6 (some .int) 3 := ⟨tm_1161, tm_1162, tm_60, tm_1163, by decide, by decide, by decide +kernel⟩

def f_X8_slips_55 (N : Nat) (K16 : (St2 × (Nat → Int64)) → Int32 → Int32 → Int32 → Int32 → Option (Int32 × (St2 × (Nat → Int64)))) (σM : St2 × (Nat → Int64)) (y1 : Int32) (y2 : Int32) (y3 : Int32) (y4 : Int32) : Option (Int32 × (St2 × (Nat → Int64))) := K16 σM y1 y2 y3 (y4 + 1)
def f_X8_slips_52 (N : Nat) (K16 : (St2 × (Nat → Int64)) → Int32 → Int32 → Int32 → Int32 → Option (Int32 × (St2 × (Nat → Int64)))) (σM : St2 × (Nat → Int64)) (y1 : Int32) (y2 : Int32) (y4 : Int32) (y5 : Int32) : Option (Int32 × (St2 × (Nat → Int64))) := f_X8_slips_55 N K16 σM y1 y2 y5 y4
def f_X8_slips_16 (N : Nat) : Nat → (St2 × (Nat → Int64)) → Int32 → Int32 → Int32 → Int32 → Option (Int32 × (St2 × (Nat → Int64)))
  | 0, _, _, _, _, _ => none
  | n + 1, σM, y1, y2, y3, y4 => if (σM.1 0 4) ≤ y4 then some (y3, σM) else (f_X8_differs N σM y1 y4 y2).bind fun o_2 => if o_2.1 = (-1) then f_X8_slips_55 N (f_X8_slips_16 N n) o_2.2 y1 y2 y3 y4 else if y3 = (-1) then f_X8_slips_52 N (f_X8_slips_16 N n) o_2.2 y1 y2 y4 o_2.1 else if y3 ≤ o_2.1 then f_X8_slips_55 N (f_X8_slips_16 N n) o_2.2 y1 y2 y3 y4 else f_X8_slips_52 N (f_X8_slips_16 N n) o_2.2 y1 y2 y4 o_2.1
def f_X8_slips (N : Nat) (σM : St2 × (Nat → Int64)) (x1 : Int32) (x2 : Int32) : Option (Int32 × (St2 × (Nat → Int64))) := (f_X8_isAsked N σM x1 x2).bind fun o_1 => if (bI o_1.1) = 0 then some ((-1), o_1.2) else f_X8_slips_16 N N o_1.2 x1 x2 (-1) 0
set_option maxHeartbeats 4000000 in
set_option maxRecDepth 100000 in
theorem b_X8_slips_55 {l : Launch} {D : va_G} {cy : Nat → ClassId} {g : Gs} {p : Program} {e : Env} {s : State} {m : MethodId} {args : Array Value} {below : List Frame} {meth : Method} {c : Code} {A : Nat → Prop} {aM : Nat → Nat} {N : Nat} {out : Int32 × (St2 × (Nat → Int64))} {K16 : (St2 × (Nat → Int64)) → Int32 → Int32 → Int32 → Int32 → Option (Int32 × (St2 × (Nat → Int64)))} (F : Fx p s m args meth c cX8_slips RX8 6 (some .int)) (hK : va_K D vwCl (tys cy) s) (hS : St g A s s.heap) (hA : ∀ q, s.heap.size ≤ q → A q) (hK16 : ∀ (σM : St2 × (Nat → Int64)) (y1 : Int32) (y2 : Int32) (y3 : Int32) (y4 : Int32), K16 σM y1 y2 y3 y4 = some out → J p l e { frames := 5, cells := 0, slots := 0, locals := 110 } s m args below meth c 6 (hW D A s (wM aM cy σM)) 0 0 (MQ below (QW D A (some (.int out.1)) (wM aM cy out.2)) args s 0 0 A) 16 [(0, .ref (aM 0)), (1, .int y1), (2, .int y2), (3, .int y3), (4, .int y4)] []) :
    ∀ (σM : St2 × (Nat → Int64)) (y1 : Int32) (y2 : Int32) (y3 : Int32) (y4 : Int32), f_X8_slips_55 N K16 σM y1 y2 y3 y4 = some out → J p l e { frames := 5, cells := 0, slots := 0, locals := 110 } s m args below meth c 6 (hW D A s (wM aM cy σM)) 0 0 (MQ below (QW D A (some (.int out.1)) (wM aM cy out.2)) args s 0 0 A) 55 [(0, .ref (aM 0)), (1, .int y1), (2, .int y2), (3, .int y3), (4, .int y4)] [] := by
  intro σM y1 y2 y3 y4 hf
  unfold f_X8_slips_55 at hf
  refine j_iinc (pc := 55) (v := y4 + 1) (lv' := [(4, .int (y4 + 1)), (0, .ref (aM 0)), (1, .int y1), (2, .int y2), (3, .int y3)]) F 4 dX8_slips_55 rfl rfl (by decide) rfl ?_
  refine j_goto (pc := 58) F (tgt := 16) dX8_slips_58 rfl ?_
  refine j_sub [1, 2, 3, 4, 0] rfl ?_
  exact hK16 σM y1 y2 y3 (y4 + 1) hf
set_option maxHeartbeats 4000000 in
set_option maxRecDepth 100000 in
theorem b_X8_slips_52 {l : Launch} {D : va_G} {cy : Nat → ClassId} {g : Gs} {p : Program} {e : Env} {s : State} {m : MethodId} {args : Array Value} {below : List Frame} {meth : Method} {c : Code} {A : Nat → Prop} {aM : Nat → Nat} {N : Nat} {out : Int32 × (St2 × (Nat → Int64))} {K16 : (St2 × (Nat → Int64)) → Int32 → Int32 → Int32 → Int32 → Option (Int32 × (St2 × (Nat → Int64)))} (F : Fx p s m args meth c cX8_slips RX8 6 (some .int)) (hK : va_K D vwCl (tys cy) s) (hS : St g A s s.heap) (hA : ∀ q, s.heap.size ≤ q → A q) (hK16 : ∀ (σM : St2 × (Nat → Int64)) (y1 : Int32) (y2 : Int32) (y3 : Int32) (y4 : Int32), K16 σM y1 y2 y3 y4 = some out → J p l e { frames := 5, cells := 0, slots := 0, locals := 110 } s m args below meth c 6 (hW D A s (wM aM cy σM)) 0 0 (MQ below (QW D A (some (.int out.1)) (wM aM cy out.2)) args s 0 0 A) 16 [(0, .ref (aM 0)), (1, .int y1), (2, .int y2), (3, .int y3), (4, .int y4)] []) :
    ∀ (σM : St2 × (Nat → Int64)) (y1 : Int32) (y2 : Int32) (y4 : Int32) (y5 : Int32), f_X8_slips_52 N K16 σM y1 y2 y4 y5 = some out → J p l e { frames := 5, cells := 0, slots := 0, locals := 110 } s m args below meth c 6 (hW D A s (wM aM cy σM)) 0 0 (MQ below (QW D A (some (.int out.1)) (wM aM cy out.2)) args s 0 0 A) 52 [(0, .ref (aM 0)), (1, .int y1), (2, .int y2), (4, .int y4), (5, .int y5)] [] := by
  intro σM y1 y2 y4 y5 hf
  unfold f_X8_slips_52 at hf
  refine j_iload (pc := 52) F 4 dX8_slips_52 rfl ?_
  refine j_istore_n (pc := 54) (lv' := [(3, .int y5), (0, .ref (aM 0)), (1, .int y1), (2, .int y2), (4, .int y4), (5, .int y5)]) F dX8_slips_54 rfl (by decide) rfl ?_
  refine j_sub [1, 2, 3, 0, 4] rfl ?_
  exact b_X8_slips_55 F hK hS hA hK16 σM y1 y2 y5 y4 hf
set_option maxHeartbeats 4000000 in
set_option maxRecDepth 100000 in
theorem b_X8_slips_16 {l : Launch} {D : va_G} {cy : Nat → ClassId} {g : Gs} {p : Program} {e : Env} {s : State} {m : MethodId} {args : Array Value} {below : List Frame} {meth : Method} {c : Code} {A : Nat → Prop} {aM : Nat → Nat} {N : Nat} {out : Int32 × (St2 × (Nat → Int64))} (F : Fx p s m args meth c cX8_slips RX8 6 (some .int)) (hK : va_K D vwCl (tys cy) s) (hS : St g A s s.heap) (hA : ∀ q, s.heap.size ≤ q → A q) :
    ∀ (n : Nat) (σM : St2 × (Nat → Int64)) (y1 : Int32) (y2 : Int32) (y3 : Int32) (y4 : Int32), f_X8_slips_16 N n σM y1 y2 y3 y4 = some out → J p l e { frames := 5, cells := 0, slots := 0, locals := 110 } s m args below meth c 6 (hW D A s (wM aM cy σM)) 0 0 (MQ below (QW D A (some (.int out.1)) (wM aM cy out.2)) args s 0 0 A) 16 [(0, .ref (aM 0)), (1, .int y1), (2, .int y2), (3, .int y3), (4, .int y4)] [] := by
  intro n
  induction n with
  | zero =>
    intro σM y1 y2 y3 y4 hf
    cases hf
  | succ n ih =>
    intro σM y1 y2 y3 y4 hf
    rw [f_X8_slips_16] at hf
    refine j_iload (pc := 16) F 4 dX8_slips_16 rfl ?_
    refine j_aload_n (pc := 18) F 0 dX8_slips_18 rfl rfl ?_
    refine jw_get (pc := 19) (v := .int (σM.1 0 4)) F hK ix_8 0 rfl rfl 4 (by decide) tm_819 rfl rfl dX8_slips_19 ?_
    refine j_icmp_ge (pc := 22) (tgt := 61) F dX8_slips_22 rfl (fun c_1 => ?_) (fun c_1 => ?_)
    · have hf := of_pos c_1 hf
      refine j_iload_n (pc := 61) F 3 dX8_slips_61 rfl rfl ?_
      have hf := (Option.some.inj hf)
      subst hf
      exact j_iretW (pc := 62) F dX8_slips_62 rfl rfl
    · have hf := of_neg c_1 hf
      refine j_aload_n (pc := 25) F 0 dX8_slips_25 rfl rfl ?_
      refine j_iload_n (pc := 26) F 1 dX8_slips_26 rfl rfl ?_
      refine j_iload (pc := 27) F 4 dX8_slips_27 rfl ?_
      refine j_iload_n (pc := 29) F 2 dX8_slips_29 rfl rfl ?_
      obtain ⟨o_2, ho_2, hf⟩ := of_bnd hf
      refine j_callWs (pc := 30) (st := []) (st1 := [.int o_2.1]) (w' := wM aM cy o_2.2) F hK hS hA (c_X8_differs (l := l) (D := D) (cy := cy) (g := g) (aM := aM) ho_2) tm_1156 cf_X8_differs (Nat.le_of_ble_eq_true rfl) (Nat.le_of_ble_eq_true rfl) ⟨Nat.zero_le _, Nat.zero_le _⟩ 0 rfl rfl rfl rfl rfl (Nat.le_of_ble_eq_true rfl) rfl dX8_slips_30 ?_
      refine j_istore (pc := 33) (lv' := [(5, .int o_2.1), (0, .ref (aM 0)), (1, .int y1), (2, .int y2), (3, .int y3), (4, .int y4)]) F dX8_slips_33 (by decide) rfl ?_
      refine j_iload (pc := 35) F 0 dX8_slips_35 rfl ?_
      refine j_iconst (pc := 37) F (v := (-1)) dX8_slips_37 rfl ?_
      refine j_icmp_eq (pc := 38) (tgt := 55) F dX8_slips_38 rfl (fun c_3 => ?_) (fun c_3 => ?_)
      · have hf := of_pos c_3 hf
        refine j_sub [1, 2, 3, 4, 5] rfl ?_
        exact b_X8_slips_55 F hK hS hA ih o_2.2 y1 y2 y3 y4 hf
      · have hf := of_neg c_3 hf
        refine j_iload_n (pc := 41) F 4 dX8_slips_41 rfl rfl ?_
        refine j_iconst (pc := 42) F (v := (-1)) dX8_slips_42 rfl ?_
        refine j_icmp_eq (pc := 43) (tgt := 52) F dX8_slips_43 rfl (fun c_4 => ?_) (fun c_4 => ?_)
        · have hf := of_pos c_4 hf
          refine j_sub [1, 2, 3, 5, 0] rfl ?_
          exact b_X8_slips_52 F hK hS hA ih o_2.2 y1 y2 y4 o_2.1 hf
        · have hf := of_neg c_4 hf
          refine j_iload (pc := 46) F 0 dX8_slips_46 rfl ?_
          refine j_iload_n (pc := 48) F 4 dX8_slips_48 rfl rfl ?_
          refine j_icmp_ge (pc := 49) (tgt := 55) F dX8_slips_49 rfl (fun c_5 => ?_) (fun c_5 => ?_)
          · have hf := of_pos c_5 hf
            refine j_sub [1, 2, 3, 4, 5] rfl ?_
            exact b_X8_slips_55 F hK hS hA ih o_2.2 y1 y2 y3 y4 hf
          · have hf := of_neg c_5 hf
            refine j_sub [1, 2, 3, 5, 0] rfl ?_
            exact b_X8_slips_52 F hK hS hA ih o_2.2 y1 y2 y4 o_2.1 hf
set_option maxHeartbeats 4000000 in
set_option maxRecDepth 100000 in
theorem c_X8_slips {l : Launch} {D : va_G} {cy : Nat → ClassId} {g : Gs} {aM : Nat → Nat} {σM : St2 × (Nat → Int64)} {N : Nat} {x1 : Int32} {x2 : Int32} {out : Int32 × (St2 × (Nat → Int64))} (hf : f_X8_slips N σM x1 x2 = some out) : CW l D cy g yX8_slips cX8_slips 6 (some .int) 5 110 (wM aM cy σM) [.ref (aM 0), .int x1, .int x2] (some (.int out.1)) (wM aM cy out.2) := by
  unfold f_X8_slips at hf
  refine met_W (lv := [(0, .ref (aM 0)), (1, .int x1), (2, .int x2)]) (by decide) (Nat.le_of_ble_eq_true rfl) rfl ?_
  intro p e s m args below meth c A F hK hS hA
  refine j_aload_n (pc := 0) F 0 dX8_slips_0 rfl rfl ?_
  refine j_iload_n (pc := 1) F 1 dX8_slips_1 rfl rfl ?_
  refine j_iload_n (pc := 2) F 2 dX8_slips_2 rfl rfl ?_
  obtain ⟨o_1, ho_1, hf⟩ := of_bnd hf
  refine j_callWs (pc := 3) (st := []) (st1 := [.int (bI o_1.1)]) (w' := wM aM cy o_1.2) F hK hS hA (c_X8_isAsked (l := l) (D := D) (cy := cy) (g := g) (aM := aM) ho_1) tm_1148 cf_X8_isAsked (Nat.le_of_ble_eq_true rfl) (Nat.le_of_ble_eq_true rfl) ⟨Nat.zero_le _, Nat.zero_le _⟩ 0 rfl rfl rfl rfl rfl (Nat.le_of_ble_eq_true rfl) rfl dX8_slips_3 ?_
  refine j_if_ne (pc := 6) (tgt := 11) F dX8_slips_6 rfl (fun c_2 => ?_) (fun c_2 => ?_)
  · have hf := of_neg c_2 hf
    refine j_iconst (pc := 11) F (v := (-1)) dX8_slips_11 rfl ?_
    refine j_istore_n (pc := 12) (lv' := [(3, .int (-1)), (0, .ref (aM 0)), (1, .int x1), (2, .int x2)]) F dX8_slips_12 rfl (by decide) rfl ?_
    refine j_iconst (pc := 13) F (v := 0) dX8_slips_13 rfl ?_
    refine j_istore (pc := 14) (lv' := [(4, .int 0), (3, .int (-1)), (0, .ref (aM 0)), (1, .int x1), (2, .int x2)]) F dX8_slips_14 (by decide) rfl ?_
    refine j_sub [2, 3, 4, 1, 0] rfl ?_
    exact b_X8_slips_16 F hK hS hA N o_1.2 x1 x2 (-1) 0 hf
  · have hf := of_pos c_2 hf
    refine j_iconst (pc := 9) F (v := (-1)) dX8_slips_9 rfl ?_
    have hf := (Option.some.inj hf)
    subst hf
    exact j_iretW (pc := 10) F dX8_slips_10 rfl rfl
theorem cf_X8_slips : cfV yX8_slips cX8_slips 6 (some .int) 2 := ⟨tm_1165, tm_1166, tm_60, tm_1167, by decide, by decide, by decide +kernel⟩

def f_X8_isLet_6 (N : Nat) : Nat → (St2 × (Nat → Int64)) → Int32 → Int32 → Int32 → Option (Bool × (St2 × (Nat → Int64)))
  | 0, _, _, _, _ => none
  | n + 1, σM, y1, y2, y3 => if (σM.1 0 4) ≤ y3 then some (false, σM) else (f_X8_differs N σM y1 y3 y2).bind fun o_2 => if o_2.1 = 0 then some (true, o_2.2) else f_X8_isLet_6 N n o_2.2 y1 y2 (y3 + 1)
def f_X8_isLet (N : Nat) (σM : St2 × (Nat → Int64)) (x1 : Int32) (x2 : Int32) : Option (Bool × (St2 × (Nat → Int64))) := (f_X8_notes N σM).bind fun o_1 => f_X8_isLet_6 N N o_1 x1 x2 0
set_option maxHeartbeats 4000000 in
set_option maxRecDepth 100000 in
theorem b_X8_isLet_6 {l : Launch} {D : va_G} {cy : Nat → ClassId} {g : Gs} {p : Program} {e : Env} {s : State} {m : MethodId} {args : Array Value} {below : List Frame} {meth : Method} {c : Code} {A : Nat → Prop} {aM : Nat → Nat} {N : Nat} {out : Bool × (St2 × (Nat → Int64))} (F : Fx p s m args meth c cX8_isLet RX8 4 (some .boolean)) (hK : va_K D vwCl (tys cy) s) (hS : St g A s s.heap) (hA : ∀ q, s.heap.size ≤ q → A q) :
    ∀ (n : Nat) (σM : St2 × (Nat → Int64)) (y1 : Int32) (y2 : Int32) (y3 : Int32), f_X8_isLet_6 N n σM y1 y2 y3 = some out → J p l e { frames := 4, cells := 0, slots := 0, locals := 99 } s m args below meth c 4 (hW D A s (wM aM cy σM)) 0 0 (MQ below (QW D A (some (.int (bI out.1))) (wM aM cy out.2)) args s 0 0 A) 6 [(0, .ref (aM 0)), (1, .int y1), (2, .int y2), (3, .int y3)] [] := by
  intro n
  induction n with
  | zero =>
    intro σM y1 y2 y3 hf
    cases hf
  | succ n ih =>
    intro σM y1 y2 y3 hf
    rw [f_X8_isLet_6] at hf
    refine j_iload_n (pc := 6) F 3 dX8_isLet_6 rfl rfl ?_
    refine j_aload_n (pc := 7) F 0 dX8_isLet_7 rfl rfl ?_
    refine jw_get (pc := 8) (v := .int (σM.1 0 4)) F hK ix_8 0 rfl rfl 4 (by decide) tm_819 rfl rfl dX8_isLet_8 ?_
    refine j_icmp_ge (pc := 11) (tgt := 32) F dX8_isLet_11 rfl (fun c_1 => ?_) (fun c_1 => ?_)
    · have hf := of_pos c_1 hf
      refine j_iconst (pc := 32) F (v := 0) dX8_isLet_32 rfl ?_
      have hf := (Option.some.inj hf)
      subst hf
      exact j_zretW (pc := 33) F dX8_isLet_33 rfl rfl
    · have hf := of_neg c_1 hf
      refine j_aload_n (pc := 14) F 0 dX8_isLet_14 rfl rfl ?_
      refine j_iload_n (pc := 15) F 1 dX8_isLet_15 rfl rfl ?_
      refine j_iload_n (pc := 16) F 3 dX8_isLet_16 rfl rfl ?_
      refine j_iload_n (pc := 17) F 2 dX8_isLet_17 rfl rfl ?_
      obtain ⟨o_2, ho_2, hf⟩ := of_bnd hf
      refine j_callWs (pc := 18) (st := []) (st1 := [.int o_2.1]) (w' := wM aM cy o_2.2) F hK hS hA (c_X8_differs (l := l) (D := D) (cy := cy) (g := g) (aM := aM) ho_2) tm_1156 cf_X8_differs (Nat.le_of_ble_eq_true rfl) (Nat.le_of_ble_eq_true rfl) ⟨Nat.zero_le _, Nat.zero_le _⟩ 0 rfl rfl rfl rfl rfl (Nat.le_of_ble_eq_true rfl) rfl dX8_isLet_18 ?_
      refine j_if_ne (pc := 21) (tgt := 26) F dX8_isLet_21 rfl (fun c_3 => ?_) (fun c_3 => ?_)
      · have hf := of_neg c_3 hf
        refine j_iinc (pc := 26) (v := y3 + 1) (lv' := [(3, .int (y3 + 1)), (0, .ref (aM 0)), (1, .int y1), (2, .int y2)]) F 3 dX8_isLet_26 rfl rfl (by decide) rfl ?_
        refine j_goto (pc := 29) F (tgt := 6) dX8_isLet_29 rfl ?_
        refine j_sub [1, 2, 3, 0] rfl ?_
        exact ih o_2.2 y1 y2 (y3 + 1) hf
      · have hf := of_pos c_3 hf
        refine j_iconst (pc := 24) F (v := 1) dX8_isLet_24 rfl ?_
        have hf := (Option.some.inj hf)
        subst hf
        exact j_zretW (pc := 25) F dX8_isLet_25 rfl rfl
set_option maxHeartbeats 4000000 in
set_option maxRecDepth 100000 in
theorem c_X8_isLet {l : Launch} {D : va_G} {cy : Nat → ClassId} {g : Gs} {aM : Nat → Nat} {σM : St2 × (Nat → Int64)} {N : Nat} {x1 : Int32} {x2 : Int32} {out : Bool × (St2 × (Nat → Int64))} (hf : f_X8_isLet N σM x1 x2 = some out) : CW l D cy g yX8_isLet cX8_isLet 4 (some .boolean) 4 99 (wM aM cy σM) [.ref (aM 0), .int x1, .int x2] (some (.int (bI out.1))) (wM aM cy out.2) := by
  unfold f_X8_isLet at hf
  refine met_W (lv := [(0, .ref (aM 0)), (1, .int x1), (2, .int x2)]) (by decide) (Nat.le_of_ble_eq_true rfl) rfl ?_
  intro p e s m args below meth c A F hK hS hA
  refine j_aload_n (pc := 0) F 0 dX8_isLet_0 rfl rfl ?_
  obtain ⟨o_1, ho_1, hf⟩ := of_bnd hf
  refine j_callWs (pc := 1) (st := []) (st1 := []) (w' := wM aM cy o_1) F hK hS hA (c_X8_notes (l := l) (D := D) (cy := cy) (g := g) (aM := aM) ho_1) tm_1028 cf_X8_notes (Nat.le_of_ble_eq_true rfl) (Nat.le_of_ble_eq_true rfl) ⟨Nat.zero_le _, Nat.zero_le _⟩ 0 rfl rfl rfl rfl rfl (Nat.le_of_ble_eq_true rfl) rfl dX8_isLet_1 ?_
  refine j_iconst (pc := 4) F (v := 0) dX8_isLet_4 rfl ?_
  refine j_istore_n (pc := 5) (lv' := [(3, .int 0), (0, .ref (aM 0)), (1, .int x1), (2, .int x2)]) F dX8_isLet_5 rfl (by decide) rfl ?_
  refine j_sub [1, 2, 3, 0] rfl ?_
  exact b_X8_isLet_6 F hK hS hA N o_1 x1 x2 0 hf
theorem cf_X8_isLet : cfV yX8_isLet cX8_isLet 4 (some .boolean) 2 := ⟨tm_1174, tm_51, tm_60, tm_1175, by decide, by decide, by decide +kernel⟩

def f_X8_lets_32 (N : Nat) (K14 : (St2 × (Nat → Int64)) → Int32 → Int32 → Int32 → Option (Int32 × (St2 × (Nat → Int64)))) (σM : St2 × (Nat → Int64)) (y1 : Int32) (y2 : Int32) (y3 : Int32) : Option (Int32 × (St2 × (Nat → Int64))) := K14 σM y1 y2 (y3 + 1)
def f_X8_lets_14 (N : Nat) : Nat → (St2 × (Nat → Int64)) → Int32 → Int32 → Int32 → Option (Int32 × (St2 × (Nat → Int64)))
  | 0, _, _, _, _ => none
  | n + 1, σM, y1, y2, y3 => if 60 < y3 then some (y2, σM) else (f_X8_isLet N σM y1 y3).bind fun o_2 => if (bI o_2.1) = 0 then f_X8_lets_32 N (f_X8_lets_14 N n) o_2.2 y1 y2 y3 else f_X8_lets_32 N (f_X8_lets_14 N n) o_2.2 y1 (y2 + 1) y3
def f_X8_lets (N : Nat) (σM : St2 × (Nat → Int64)) (x1 : Int32) : Option (Int32 × (St2 × (Nat → Int64))) := if (bI (f_X8_isRecord σM x1)) = 0 then some ((-1), σM) else f_X8_lets_14 N N σM x1 0 0
set_option maxHeartbeats 4000000 in
set_option maxRecDepth 100000 in
theorem b_X8_lets_32 {l : Launch} {D : va_G} {cy : Nat → ClassId} {g : Gs} {p : Program} {e : Env} {s : State} {m : MethodId} {args : Array Value} {below : List Frame} {meth : Method} {c : Code} {A : Nat → Prop} {aM : Nat → Nat} {N : Nat} {out : Int32 × (St2 × (Nat → Int64))} {K14 : (St2 × (Nat → Int64)) → Int32 → Int32 → Int32 → Option (Int32 × (St2 × (Nat → Int64)))} (F : Fx p s m args meth c cX8_lets RX8 4 (some .int)) (hK : va_K D vwCl (tys cy) s) (hS : St g A s s.heap) (hA : ∀ q, s.heap.size ≤ q → A q) (hK14 : ∀ (σM : St2 × (Nat → Int64)) (y1 : Int32) (y2 : Int32) (y3 : Int32), K14 σM y1 y2 y3 = some out → J p l e { frames := 5, cells := 0, slots := 0, locals := 122 } s m args below meth c 4 (hW D A s (wM aM cy σM)) 0 0 (MQ below (QW D A (some (.int out.1)) (wM aM cy out.2)) args s 0 0 A) 14 [(0, .ref (aM 0)), (1, .int y1), (2, .int y2), (3, .int y3)] []) :
    ∀ (σM : St2 × (Nat → Int64)) (y1 : Int32) (y2 : Int32) (y3 : Int32), f_X8_lets_32 N K14 σM y1 y2 y3 = some out → J p l e { frames := 5, cells := 0, slots := 0, locals := 122 } s m args below meth c 4 (hW D A s (wM aM cy σM)) 0 0 (MQ below (QW D A (some (.int out.1)) (wM aM cy out.2)) args s 0 0 A) 32 [(0, .ref (aM 0)), (1, .int y1), (2, .int y2), (3, .int y3)] [] := by
  intro σM y1 y2 y3 hf
  unfold f_X8_lets_32 at hf
  refine j_iinc (pc := 32) (v := y3 + 1) (lv' := [(3, .int (y3 + 1)), (0, .ref (aM 0)), (1, .int y1), (2, .int y2)]) F 3 dX8_lets_32 rfl rfl (by decide) rfl ?_
  refine j_goto (pc := 35) F (tgt := 14) dX8_lets_35 rfl ?_
  refine j_sub [1, 2, 3, 0] rfl ?_
  exact hK14 σM y1 y2 (y3 + 1) hf
set_option maxHeartbeats 4000000 in
set_option maxRecDepth 100000 in
theorem b_X8_lets_14 {l : Launch} {D : va_G} {cy : Nat → ClassId} {g : Gs} {p : Program} {e : Env} {s : State} {m : MethodId} {args : Array Value} {below : List Frame} {meth : Method} {c : Code} {A : Nat → Prop} {aM : Nat → Nat} {N : Nat} {out : Int32 × (St2 × (Nat → Int64))} (F : Fx p s m args meth c cX8_lets RX8 4 (some .int)) (hK : va_K D vwCl (tys cy) s) (hS : St g A s s.heap) (hA : ∀ q, s.heap.size ≤ q → A q) :
    ∀ (n : Nat) (σM : St2 × (Nat → Int64)) (y1 : Int32) (y2 : Int32) (y3 : Int32), f_X8_lets_14 N n σM y1 y2 y3 = some out → J p l e { frames := 5, cells := 0, slots := 0, locals := 122 } s m args below meth c 4 (hW D A s (wM aM cy σM)) 0 0 (MQ below (QW D A (some (.int out.1)) (wM aM cy out.2)) args s 0 0 A) 14 [(0, .ref (aM 0)), (1, .int y1), (2, .int y2), (3, .int y3)] [] := by
  intro n
  induction n with
  | zero =>
    intro σM y1 y2 y3 hf
    cases hf
  | succ n ih =>
    intro σM y1 y2 y3 hf
    rw [f_X8_lets_14] at hf
    refine j_iload_n (pc := 14) F 3 dX8_lets_14 rfl rfl ?_
    refine j_bipush (pc := 15) F (v := 60) dX8_lets_15 rfl ?_
    refine j_icmp_gt (pc := 17) (tgt := 38) F dX8_lets_17 rfl (fun c_1 => ?_) (fun c_1 => ?_)
    · have hf := of_pos c_1 hf
      refine j_iload_n (pc := 38) F 2 dX8_lets_38 rfl rfl ?_
      have hf := (Option.some.inj hf)
      subst hf
      exact j_iretW (pc := 39) F dX8_lets_39 rfl rfl
    · have hf := of_neg c_1 hf
      refine j_aload_n (pc := 20) F 0 dX8_lets_20 rfl rfl ?_
      refine j_iload_n (pc := 21) F 1 dX8_lets_21 rfl rfl ?_
      refine j_iload_n (pc := 22) F 3 dX8_lets_22 rfl rfl ?_
      obtain ⟨o_2, ho_2, hf⟩ := of_bnd hf
      refine j_callWs (pc := 23) (st := []) (st1 := [.int (bI o_2.1)]) (w' := wM aM cy o_2.2) F hK hS hA (c_X8_isLet (l := l) (D := D) (cy := cy) (g := g) (aM := aM) ho_2) tm_1172 cf_X8_isLet (Nat.le_of_ble_eq_true rfl) (Nat.le_of_ble_eq_true rfl) ⟨Nat.zero_le _, Nat.zero_le _⟩ 0 rfl rfl rfl rfl rfl (Nat.le_of_ble_eq_true rfl) rfl dX8_lets_23 ?_
      refine j_if_eq (pc := 26) (tgt := 32) F dX8_lets_26 rfl (fun c_3 => ?_) (fun c_3 => ?_)
      · have hf := of_pos c_3 hf
        exact b_X8_lets_32 F hK hS hA ih o_2.2 y1 y2 y3 hf
      · have hf := of_neg c_3 hf
        refine j_iinc (pc := 29) (v := y2 + 1) (lv' := [(2, .int (y2 + 1)), (0, .ref (aM 0)), (1, .int y1), (3, .int y3)]) F 2 dX8_lets_29 rfl rfl (by decide) rfl ?_
        refine j_sub [1, 2, 0, 3] rfl ?_
        exact b_X8_lets_32 F hK hS hA ih o_2.2 y1 (y2 + 1) y3 hf
set_option maxHeartbeats 4000000 in
set_option maxRecDepth 100000 in
theorem c_X8_lets {l : Launch} {D : va_G} {cy : Nat → ClassId} {g : Gs} {aM : Nat → Nat} {σM : St2 × (Nat → Int64)} {N : Nat} {x1 : Int32} {out : Int32 × (St2 × (Nat → Int64))} (hf : f_X8_lets N σM x1 = some out) : CW l D cy g yX8_lets cX8_lets 4 (some .int) 5 122 (wM aM cy σM) [.ref (aM 0), .int x1] (some (.int out.1)) (wM aM cy out.2) := by
  unfold f_X8_lets at hf
  refine met_W (lv := [(0, .ref (aM 0)), (1, .int x1)]) (by decide) (Nat.le_of_ble_eq_true rfl) rfl ?_
  intro p e s m args below meth c A F hK hS hA
  refine j_aload_n (pc := 0) F 0 dX8_lets_0 rfl rfl ?_
  refine j_iload_n (pc := 1) F 1 dX8_lets_1 rfl rfl ?_
  refine j_callRV (pc := 2) (st := []) (st1 := [.int (bI (f_X8_isRecord σM x1))]) F hK (hpW hS hp_id) (c_X8_isRecord (l := l) (D := D) (cy := cy) (g := g) (aM := aM) (rfl : f_X8_isRecord σM x1 = _)) tm_1152 cf_X8_isRecord (Nat.le_of_ble_eq_true rfl) (Nat.le_of_ble_eq_true rfl) ⟨Nat.zero_le _, Nat.zero_le _⟩ 0 rfl rfl rfl rfl rfl (Nat.le_of_ble_eq_true rfl) rfl dX8_lets_2 ?_
  refine j_if_ne (pc := 5) (tgt := 10) F dX8_lets_5 rfl (fun c_2 => ?_) (fun c_2 => ?_)
  · have hf := of_neg c_2 hf
    refine j_iconst (pc := 10) F (v := 0) dX8_lets_10 rfl ?_
    refine j_istore_n (pc := 11) (lv' := [(2, .int 0), (0, .ref (aM 0)), (1, .int x1)]) F dX8_lets_11 rfl (by decide) rfl ?_
    refine j_iconst (pc := 12) F (v := 0) dX8_lets_12 rfl ?_
    refine j_istore_n (pc := 13) (lv' := [(3, .int 0), (2, .int 0), (0, .ref (aM 0)), (1, .int x1)]) F dX8_lets_13 rfl (by decide) rfl ?_
    refine j_sub [2, 3, 1, 0] rfl ?_
    exact b_X8_lets_14 F hK hS hA N σM x1 0 0 hf
  · have hf := of_pos c_2 hf
    refine j_iconst (pc := 8) F (v := (-1)) dX8_lets_8 rfl ?_
    have hf := (Option.some.inj hf)
    subst hf
    exact j_iretW (pc := 9) F dX8_lets_9 rfl rfl
theorem cf_X8_lets : cfV yX8_lets cX8_lets 4 (some .int) 1 := ⟨tm_1169, tm_1170, tm_60, tm_1171, by decide, by decide, by decide +kernel⟩

def f_X8_slow_75 (N : Nat) (K10 : (St2 × (Nat → Int64)) → Int32 → Int32 → Int32 → Int32 → Int32 → Option (Int32 × (St2 × (Nat → Int64)))) (σM : St2 × (Nat → Int64)) (y1 : Int32) (y2 : Int32) (y3 : Int32) (y4 : Int32) (y5 : Int32) : Option (Int32 × (St2 × (Nat → Int64))) := K10 σM y1 y2 y3 y4 (y5 + 1)
def f_X8_slow_69 (N : Nat) (K10 : (St2 × (Nat → Int64)) → Int32 → Int32 → Int32 → Int32 → Int32 → Option (Int32 × (St2 × (Nat → Int64)))) (σM : St2 × (Nat → Int64)) (y1 : Int32) (y2 : Int32) (y4 : Int32) (y5 : Int32) : Option (Int32 × (St2 × (Nat → Int64))) := f_X8_slow_75 N K10 σM y1 y2 y5 (y4 + 1) y5
def f_X8_slow_53 (N : Nat) (K10 : (St2 × (Nat → Int64)) → Int32 → Int32 → Int32 → Int32 → Int32 → Option (Int32 × (St2 × (Nat → Int64)))) (σM : St2 × (Nat → Int64)) (y1 : Int32) (y2 : Int32) (y3 : Int32) (y4 : Int32) (y5 : Int32) (y6 : Int32) : Option (Int32 × (St2 × (Nat → Int64))) := if y6 = 0 then f_X8_slow_75 N K10 σM y1 y2 y3 y4 y5 else if y4 = 0 then f_X8_slow_69 N K10 σM y1 y5 y4 y5 else f_X8_slow_69 N K10 σM y1 y2 y4 y5
def f_X8_slow_23 (N : Nat) (K10 : (St2 × (Nat → Int64)) → Int32 → Int32 → Int32 → Int32 → Int32 → Option (Int32 × (St2 × (Nat → Int64)))) : Nat → (St2 × (Nat → Int64)) → Int32 → Int32 → Int32 → Int32 → Int32 → Int32 → Int32 → Option (Int32 × (St2 × (Nat → Int64)))
  | 0, _, _, _, _, _, _, _, _ => none
  | n + 1, σM, y1, y2, y3, y4, y5, y6, y7 => if (σM.1 0 26) ≤ y7 then f_X8_slow_53 N K10 σM y1 y2 y3 y4 y5 y6 else if y6 = 0 then f_X8_slow_53 N K10 σM y1 y2 y3 y4 y5 y6 else (f_X8_isLet N σM y7 y5).bind fun o_3 => f_X8_slow_23 N K10 n o_3.2 y1 y2 y3 y4 y5 (bI o_3.1) (y7 + 1)
def f_X8_slow_10 (N : Nat) : Nat → (St2 × (Nat → Int64)) → Int32 → Int32 → Int32 → Int32 → Int32 → Option (Int32 × (St2 × (Nat → Int64)))
  | 0, _, _, _, _, _, _ => none
  | n + 1, σM, y1, y2, y3, y4, y5 => if 60 < y5 then if y4 = 0 then some ((-1), σM) else if y1 = 0 then some (y2, σM) else if y1 = 1 then some (y3, σM) else if y1 = 2 then some (y4, σM) else some ((-1), σM) else f_X8_slow_23 N (f_X8_slow_10 N n) N σM y1 y2 y3 y4 y5 1 0
def f_X8_slow (N : Nat) (σM : St2 × (Nat → Int64)) (x1 : Int32) : Option (Int32 × (St2 × (Nat → Int64))) := f_X8_slow_10 N N σM x1 (-1) (-1) 0 0
set_option maxHeartbeats 4000000 in
set_option maxRecDepth 100000 in
theorem b_X8_slow_75 {l : Launch} {D : va_G} {cy : Nat → ClassId} {g : Gs} {p : Program} {e : Env} {s : State} {m : MethodId} {args : Array Value} {below : List Frame} {meth : Method} {c : Code} {A : Nat → Prop} {aM : Nat → Nat} {N : Nat} {out : Int32 × (St2 × (Nat → Int64))} {K10 : (St2 × (Nat → Int64)) → Int32 → Int32 → Int32 → Int32 → Int32 → Option (Int32 × (St2 × (Nat → Int64)))} (F : Fx p s m args meth c cX8_slow RX8 8 (some .int)) (hK : va_K D vwCl (tys cy) s) (hS : St g A s s.heap) (hA : ∀ q, s.heap.size ≤ q → A q) (hK10 : ∀ (σM : St2 × (Nat → Int64)) (y1 : Int32) (y2 : Int32) (y3 : Int32) (y4 : Int32) (y5 : Int32), K10 σM y1 y2 y3 y4 y5 = some out → J p l e { frames := 5, cells := 0, slots := 0, locals := 122 } s m args below meth c 8 (hW D A s (wM aM cy σM)) 0 0 (MQ below (QW D A (some (.int out.1)) (wM aM cy out.2)) args s 0 0 A) 10 [(0, .ref (aM 0)), (1, .int y1), (2, .int y2), (3, .int y3), (4, .int y4), (5, .int y5)] []) :
    ∀ (σM : St2 × (Nat → Int64)) (y1 : Int32) (y2 : Int32) (y3 : Int32) (y4 : Int32) (y5 : Int32), f_X8_slow_75 N K10 σM y1 y2 y3 y4 y5 = some out → J p l e { frames := 5, cells := 0, slots := 0, locals := 122 } s m args below meth c 8 (hW D A s (wM aM cy σM)) 0 0 (MQ below (QW D A (some (.int out.1)) (wM aM cy out.2)) args s 0 0 A) 75 [(0, .ref (aM 0)), (1, .int y1), (2, .int y2), (3, .int y3), (4, .int y4), (5, .int y5)] [] := by
  intro σM y1 y2 y3 y4 y5 hf
  unfold f_X8_slow_75 at hf
  refine j_iinc (pc := 75) (v := y5 + 1) (lv' := [(5, .int (y5 + 1)), (0, .ref (aM 0)), (1, .int y1), (2, .int y2), (3, .int y3), (4, .int y4)]) F 5 dX8_slow_75 rfl rfl (by decide) rfl ?_
  refine j_goto (pc := 78) F (tgt := 10) dX8_slow_78 rfl ?_
  refine j_sub [1, 2, 3, 4, 5, 0] rfl ?_
  exact hK10 σM y1 y2 y3 y4 (y5 + 1) hf
set_option maxHeartbeats 4000000 in
set_option maxRecDepth 100000 in
theorem b_X8_slow_69 {l : Launch} {D : va_G} {cy : Nat → ClassId} {g : Gs} {p : Program} {e : Env} {s : State} {m : MethodId} {args : Array Value} {below : List Frame} {meth : Method} {c : Code} {A : Nat → Prop} {aM : Nat → Nat} {N : Nat} {out : Int32 × (St2 × (Nat → Int64))} {K10 : (St2 × (Nat → Int64)) → Int32 → Int32 → Int32 → Int32 → Int32 → Option (Int32 × (St2 × (Nat → Int64)))} (F : Fx p s m args meth c cX8_slow RX8 8 (some .int)) (hK : va_K D vwCl (tys cy) s) (hS : St g A s s.heap) (hA : ∀ q, s.heap.size ≤ q → A q) (hK10 : ∀ (σM : St2 × (Nat → Int64)) (y1 : Int32) (y2 : Int32) (y3 : Int32) (y4 : Int32) (y5 : Int32), K10 σM y1 y2 y3 y4 y5 = some out → J p l e { frames := 5, cells := 0, slots := 0, locals := 122 } s m args below meth c 8 (hW D A s (wM aM cy σM)) 0 0 (MQ below (QW D A (some (.int out.1)) (wM aM cy out.2)) args s 0 0 A) 10 [(0, .ref (aM 0)), (1, .int y1), (2, .int y2), (3, .int y3), (4, .int y4), (5, .int y5)] []) :
    ∀ (σM : St2 × (Nat → Int64)) (y1 : Int32) (y2 : Int32) (y4 : Int32) (y5 : Int32), f_X8_slow_69 N K10 σM y1 y2 y4 y5 = some out → J p l e { frames := 5, cells := 0, slots := 0, locals := 122 } s m args below meth c 8 (hW D A s (wM aM cy σM)) 0 0 (MQ below (QW D A (some (.int out.1)) (wM aM cy out.2)) args s 0 0 A) 69 [(0, .ref (aM 0)), (1, .int y1), (2, .int y2), (4, .int y4), (5, .int y5)] [] := by
  intro σM y1 y2 y4 y5 hf
  unfold f_X8_slow_69 at hf
  refine j_iload (pc := 69) F 4 dX8_slow_69 rfl ?_
  refine j_istore_n (pc := 71) (lv' := [(3, .int y5), (0, .ref (aM 0)), (1, .int y1), (2, .int y2), (4, .int y4), (5, .int y5)]) F dX8_slow_71 rfl (by decide) rfl ?_
  refine j_iinc (pc := 72) (v := y4 + 1) (lv' := [(4, .int (y4 + 1)), (3, .int y5), (0, .ref (aM 0)), (1, .int y1), (2, .int y2), (5, .int y5)]) F 4 dX8_slow_72 rfl rfl (by decide) rfl ?_
  refine j_sub [2, 3, 4, 1, 0, 5] rfl ?_
  exact b_X8_slow_75 F hK hS hA hK10 σM y1 y2 y5 (y4 + 1) y5 hf
set_option maxHeartbeats 4000000 in
set_option maxRecDepth 100000 in
theorem b_X8_slow_53 {l : Launch} {D : va_G} {cy : Nat → ClassId} {g : Gs} {p : Program} {e : Env} {s : State} {m : MethodId} {args : Array Value} {below : List Frame} {meth : Method} {c : Code} {A : Nat → Prop} {aM : Nat → Nat} {N : Nat} {out : Int32 × (St2 × (Nat → Int64))} {K10 : (St2 × (Nat → Int64)) → Int32 → Int32 → Int32 → Int32 → Int32 → Option (Int32 × (St2 × (Nat → Int64)))} (F : Fx p s m args meth c cX8_slow RX8 8 (some .int)) (hK : va_K D vwCl (tys cy) s) (hS : St g A s s.heap) (hA : ∀ q, s.heap.size ≤ q → A q) (hK10 : ∀ (σM : St2 × (Nat → Int64)) (y1 : Int32) (y2 : Int32) (y3 : Int32) (y4 : Int32) (y5 : Int32), K10 σM y1 y2 y3 y4 y5 = some out → J p l e { frames := 5, cells := 0, slots := 0, locals := 122 } s m args below meth c 8 (hW D A s (wM aM cy σM)) 0 0 (MQ below (QW D A (some (.int out.1)) (wM aM cy out.2)) args s 0 0 A) 10 [(0, .ref (aM 0)), (1, .int y1), (2, .int y2), (3, .int y3), (4, .int y4), (5, .int y5)] []) :
    ∀ (σM : St2 × (Nat → Int64)) (y1 : Int32) (y2 : Int32) (y3 : Int32) (y4 : Int32) (y5 : Int32) (y6 : Int32), f_X8_slow_53 N K10 σM y1 y2 y3 y4 y5 y6 = some out → J p l e { frames := 5, cells := 0, slots := 0, locals := 122 } s m args below meth c 8 (hW D A s (wM aM cy σM)) 0 0 (MQ below (QW D A (some (.int out.1)) (wM aM cy out.2)) args s 0 0 A) 53 [(0, .ref (aM 0)), (1, .int y1), (2, .int y2), (3, .int y3), (4, .int y4), (5, .int y5), (6, .int y6)] [] := by
  intro σM y1 y2 y3 y4 y5 y6 hf
  unfold f_X8_slow_53 at hf
  refine j_iload (pc := 53) F 6 dX8_slow_53 rfl ?_
  refine j_if_ne (pc := 55) (tgt := 61) F dX8_slow_55 rfl (fun c_1 => ?_) (fun c_1 => ?_)
  · have hf := of_neg c_1 hf
    refine j_iload (pc := 61) F 4 dX8_slow_61 rfl ?_
    refine j_if_ne (pc := 63) (tgt := 69) F dX8_slow_63 rfl (fun c_2 => ?_) (fun c_2 => ?_)
    · have hf := of_neg c_2 hf
      refine j_sub [0, 1, 2, 4, 5] rfl ?_
      exact b_X8_slow_69 F hK hS hA hK10 σM y1 y2 y4 y5 hf
    · have hf := of_pos c_2 hf
      refine j_iload (pc := 66) F 5 dX8_slow_66 rfl ?_
      refine j_istore_n (pc := 68) (lv' := [(2, .int y5), (0, .ref (aM 0)), (1, .int y1), (3, .int y3), (4, .int y4), (5, .int y5), (6, .int y6)]) F dX8_slow_68 rfl (by decide) rfl ?_
      refine j_sub [1, 2, 0, 4, 5] rfl ?_
      exact b_X8_slow_69 F hK hS hA hK10 σM y1 y5 y4 y5 hf
  · have hf := of_pos c_1 hf
    refine j_goto (pc := 58) F (tgt := 75) dX8_slow_58 rfl ?_
    refine j_sub [0, 1, 2, 3, 4, 5] rfl ?_
    exact b_X8_slow_75 F hK hS hA hK10 σM y1 y2 y3 y4 y5 hf
set_option maxHeartbeats 4000000 in
set_option maxRecDepth 100000 in
theorem b_X8_slow_23 {l : Launch} {D : va_G} {cy : Nat → ClassId} {g : Gs} {p : Program} {e : Env} {s : State} {m : MethodId} {args : Array Value} {below : List Frame} {meth : Method} {c : Code} {A : Nat → Prop} {aM : Nat → Nat} {N : Nat} {out : Int32 × (St2 × (Nat → Int64))} {K10 : (St2 × (Nat → Int64)) → Int32 → Int32 → Int32 → Int32 → Int32 → Option (Int32 × (St2 × (Nat → Int64)))} (F : Fx p s m args meth c cX8_slow RX8 8 (some .int)) (hK : va_K D vwCl (tys cy) s) (hS : St g A s s.heap) (hA : ∀ q, s.heap.size ≤ q → A q) (hK10 : ∀ (σM : St2 × (Nat → Int64)) (y1 : Int32) (y2 : Int32) (y3 : Int32) (y4 : Int32) (y5 : Int32), K10 σM y1 y2 y3 y4 y5 = some out → J p l e { frames := 5, cells := 0, slots := 0, locals := 122 } s m args below meth c 8 (hW D A s (wM aM cy σM)) 0 0 (MQ below (QW D A (some (.int out.1)) (wM aM cy out.2)) args s 0 0 A) 10 [(0, .ref (aM 0)), (1, .int y1), (2, .int y2), (3, .int y3), (4, .int y4), (5, .int y5)] []) :
    ∀ (n : Nat) (σM : St2 × (Nat → Int64)) (y1 : Int32) (y2 : Int32) (y3 : Int32) (y4 : Int32) (y5 : Int32) (y6 : Int32) (y7 : Int32), f_X8_slow_23 N K10 n σM y1 y2 y3 y4 y5 y6 y7 = some out → J p l e { frames := 5, cells := 0, slots := 0, locals := 122 } s m args below meth c 8 (hW D A s (wM aM cy σM)) 0 0 (MQ below (QW D A (some (.int out.1)) (wM aM cy out.2)) args s 0 0 A) 23 [(0, .ref (aM 0)), (1, .int y1), (2, .int y2), (3, .int y3), (4, .int y4), (5, .int y5), (6, .int y6), (7, .int y7)] [] := by
  intro n
  induction n with
  | zero =>
    intro σM y1 y2 y3 y4 y5 y6 y7 hf
    cases hf
  | succ n ih =>
    intro σM y1 y2 y3 y4 y5 y6 y7 hf
    rw [f_X8_slow_23] at hf
    refine j_iload (pc := 23) F 7 dX8_slow_23 rfl ?_
    refine j_aload_n (pc := 25) F 0 dX8_slow_25 rfl rfl ?_
    refine jw_get (pc := 26) (v := .int (σM.1 0 26)) F hK ix_8 0 rfl rfl 26 (by decide) tm_841 rfl rfl dX8_slow_26 ?_
    refine j_icmp_ge (pc := 29) (tgt := 53) F dX8_slow_29 rfl (fun c_1 => ?_) (fun c_1 => ?_)
    · have hf := of_pos c_1 hf
      refine j_sub [0, 1, 2, 3, 4, 5, 6] rfl ?_
      exact b_X8_slow_53 F hK hS hA hK10 σM y1 y2 y3 y4 y5 y6 hf
    · have hf := of_neg c_1 hf
      refine j_iload (pc := 32) F 6 dX8_slow_32 rfl ?_
      refine j_if_eq (pc := 34) (tgt := 53) F dX8_slow_34 rfl (fun c_2 => ?_) (fun c_2 => ?_)
      · have hf := of_pos c_2 hf
        refine j_sub [0, 1, 2, 3, 4, 5, 6] rfl ?_
        exact b_X8_slow_53 F hK hS hA hK10 σM y1 y2 y3 y4 y5 y6 hf
      · have hf := of_neg c_2 hf
        refine j_aload_n (pc := 37) F 0 dX8_slow_37 rfl rfl ?_
        refine j_iload (pc := 38) F 7 dX8_slow_38 rfl ?_
        refine j_iload (pc := 40) F 5 dX8_slow_40 rfl ?_
        obtain ⟨o_3, ho_3, hf⟩ := of_bnd hf
        refine j_callWs (pc := 42) (st := []) (st1 := [.int (bI o_3.1)]) (w' := wM aM cy o_3.2) F hK hS hA (c_X8_isLet (l := l) (D := D) (cy := cy) (g := g) (aM := aM) ho_3) tm_1172 cf_X8_isLet (Nat.le_of_ble_eq_true rfl) (Nat.le_of_ble_eq_true rfl) ⟨Nat.zero_le _, Nat.zero_le _⟩ 0 rfl rfl rfl rfl rfl (Nat.le_of_ble_eq_true rfl) rfl dX8_slow_42 ?_
        refine j_istore (pc := 45) (lv' := [(6, .int (bI o_3.1)), (0, .ref (aM 0)), (1, .int y1), (2, .int y2), (3, .int y3), (4, .int y4), (5, .int y5), (7, .int y7)]) F dX8_slow_45 (by decide) rfl ?_
        refine j_iinc (pc := 47) (v := y7 + 1) (lv' := [(7, .int (y7 + 1)), (6, .int (bI o_3.1)), (0, .ref (aM 0)), (1, .int y1), (2, .int y2), (3, .int y3), (4, .int y4), (5, .int y5)]) F 7 dX8_slow_47 rfl rfl (by decide) rfl ?_
        refine j_goto (pc := 50) F (tgt := 23) dX8_slow_50 rfl ?_
        refine j_sub [2, 3, 4, 5, 6, 7, 1, 0] rfl ?_
        exact ih o_3.2 y1 y2 y3 y4 y5 (bI o_3.1) (y7 + 1) hf
set_option maxHeartbeats 4000000 in
set_option maxRecDepth 100000 in
theorem b_X8_slow_10 {l : Launch} {D : va_G} {cy : Nat → ClassId} {g : Gs} {p : Program} {e : Env} {s : State} {m : MethodId} {args : Array Value} {below : List Frame} {meth : Method} {c : Code} {A : Nat → Prop} {aM : Nat → Nat} {N : Nat} {out : Int32 × (St2 × (Nat → Int64))} (F : Fx p s m args meth c cX8_slow RX8 8 (some .int)) (hK : va_K D vwCl (tys cy) s) (hS : St g A s s.heap) (hA : ∀ q, s.heap.size ≤ q → A q) :
    ∀ (n : Nat) (σM : St2 × (Nat → Int64)) (y1 : Int32) (y2 : Int32) (y3 : Int32) (y4 : Int32) (y5 : Int32), f_X8_slow_10 N n σM y1 y2 y3 y4 y5 = some out → J p l e { frames := 5, cells := 0, slots := 0, locals := 122 } s m args below meth c 8 (hW D A s (wM aM cy σM)) 0 0 (MQ below (QW D A (some (.int out.1)) (wM aM cy out.2)) args s 0 0 A) 10 [(0, .ref (aM 0)), (1, .int y1), (2, .int y2), (3, .int y3), (4, .int y4), (5, .int y5)] [] := by
  intro n
  induction n with
  | zero =>
    intro σM y1 y2 y3 y4 y5 hf
    cases hf
  | succ n ih =>
    intro σM y1 y2 y3 y4 y5 hf
    rw [f_X8_slow_10] at hf
    refine j_iload (pc := 10) F 5 dX8_slow_10 rfl ?_
    refine j_bipush (pc := 12) F (v := 60) dX8_slow_12 rfl ?_
    refine j_icmp_gt (pc := 14) (tgt := 81) F dX8_slow_14 rfl (fun c_1 => ?_) (fun c_1 => ?_)
    · have hf := of_pos c_1 hf
      refine j_iload (pc := 81) F 4 dX8_slow_81 rfl ?_
      refine j_if_ne (pc := 83) (tgt := 88) F dX8_slow_83 rfl (fun c_2 => ?_) (fun c_2 => ?_)
      · have hf := of_neg c_2 hf
        refine j_iload_n (pc := 88) F 1 dX8_slow_88 rfl rfl ?_
        refine j_if_ne (pc := 89) (tgt := 96) F dX8_slow_89 rfl (fun c_3 => ?_) (fun c_3 => ?_)
        · have hf := of_neg c_3 hf
          refine j_iload_n (pc := 96) F 1 dX8_slow_96 rfl rfl ?_
          refine j_iconst (pc := 97) F (v := 1) dX8_slow_97 rfl ?_
          refine j_icmp_ne (pc := 98) (tgt := 105) F dX8_slow_98 rfl (fun c_4 => ?_) (fun c_4 => ?_)
          · have hf := of_neg c_4 hf
            refine j_iload_n (pc := 105) F 1 dX8_slow_105 rfl rfl ?_
            refine j_iconst (pc := 106) F (v := 2) dX8_slow_106 rfl ?_
            refine j_icmp_ne (pc := 107) (tgt := 115) F dX8_slow_107 rfl (fun c_5 => ?_) (fun c_5 => ?_)
            · have hf := of_neg c_5 hf
              refine j_iconst (pc := 115) F (v := (-1)) dX8_slow_115 rfl ?_
              have hf := (Option.some.inj hf)
              subst hf
              exact j_iretW (pc := 116) F dX8_slow_116 rfl rfl
            · have hf := of_pos c_5 hf
              refine j_iload (pc := 110) F 4 dX8_slow_110 rfl ?_
              refine j_goto (pc := 112) F (tgt := 116) dX8_slow_112 rfl ?_
              have hf := (Option.some.inj hf)
              subst hf
              exact j_iretW (pc := 116) F dX8_slow_116 rfl rfl
          · have hf := of_pos c_4 hf
            refine j_iload_n (pc := 101) F 3 dX8_slow_101 rfl rfl ?_
            refine j_goto (pc := 102) F (tgt := 116) dX8_slow_102 rfl ?_
            have hf := (Option.some.inj hf)
            subst hf
            exact j_iretW (pc := 116) F dX8_slow_116 rfl rfl
        · have hf := of_pos c_3 hf
          refine j_iload_n (pc := 92) F 2 dX8_slow_92 rfl rfl ?_
          refine j_goto (pc := 93) F (tgt := 116) dX8_slow_93 rfl ?_
          have hf := (Option.some.inj hf)
          subst hf
          exact j_iretW (pc := 116) F dX8_slow_116 rfl rfl
      · have hf := of_pos c_2 hf
        refine j_iconst (pc := 86) F (v := (-1)) dX8_slow_86 rfl ?_
        have hf := (Option.some.inj hf)
        subst hf
        exact j_iretW (pc := 87) F dX8_slow_87 rfl rfl
    · have hf := of_neg c_1 hf
      refine j_iconst (pc := 17) F (v := 1) dX8_slow_17 rfl ?_
      refine j_istore (pc := 18) (lv' := [(6, .int 1), (0, .ref (aM 0)), (1, .int y1), (2, .int y2), (3, .int y3), (4, .int y4), (5, .int y5)]) F dX8_slow_18 (by decide) rfl ?_
      refine j_iconst (pc := 20) F (v := 0) dX8_slow_20 rfl ?_
      refine j_istore (pc := 21) (lv' := [(7, .int 0), (6, .int 1), (0, .ref (aM 0)), (1, .int y1), (2, .int y2), (3, .int y3), (4, .int y4), (5, .int y5)]) F dX8_slow_21 (by decide) rfl ?_
      refine j_sub [2, 3, 4, 5, 6, 7, 1, 0] rfl ?_
      exact b_X8_slow_23 F hK hS hA ih N σM y1 y2 y3 y4 y5 1 0 hf
set_option maxHeartbeats 4000000 in
set_option maxRecDepth 100000 in
theorem c_X8_slow {l : Launch} {D : va_G} {cy : Nat → ClassId} {g : Gs} {aM : Nat → Nat} {σM : St2 × (Nat → Int64)} {N : Nat} {x1 : Int32} {out : Int32 × (St2 × (Nat → Int64))} (hf : f_X8_slow N σM x1 = some out) : CW l D cy g yX8_slow cX8_slow 8 (some .int) 5 122 (wM aM cy σM) [.ref (aM 0), .int x1] (some (.int out.1)) (wM aM cy out.2) := by
  unfold f_X8_slow at hf
  refine met_W (lv := [(0, .ref (aM 0)), (1, .int x1)]) (by decide) (Nat.le_of_ble_eq_true rfl) rfl ?_
  intro p e s m args below meth c A F hK hS hA
  refine j_iconst (pc := 0) F (v := (-1)) dX8_slow_0 rfl ?_
  refine j_istore_n (pc := 1) (lv' := [(2, .int (-1)), (0, .ref (aM 0)), (1, .int x1)]) F dX8_slow_1 rfl (by decide) rfl ?_
  refine j_iconst (pc := 2) F (v := (-1)) dX8_slow_2 rfl ?_
  refine j_istore_n (pc := 3) (lv' := [(3, .int (-1)), (2, .int (-1)), (0, .ref (aM 0)), (1, .int x1)]) F dX8_slow_3 rfl (by decide) rfl ?_
  refine j_iconst (pc := 4) F (v := 0) dX8_slow_4 rfl ?_
  refine j_istore (pc := 5) (lv' := [(4, .int 0), (3, .int (-1)), (2, .int (-1)), (0, .ref (aM 0)), (1, .int x1)]) F dX8_slow_5 (by decide) rfl ?_
  refine j_iconst (pc := 7) F (v := 0) dX8_slow_7 rfl ?_
  refine j_istore (pc := 8) (lv' := [(5, .int 0), (4, .int 0), (3, .int (-1)), (2, .int (-1)), (0, .ref (aM 0)), (1, .int x1)]) F dX8_slow_8 (by decide) rfl ?_
  refine j_sub [4, 5, 3, 2, 1, 0] rfl ?_
  exact b_X8_slow_10 F hK hS hA N σM x1 (-1) (-1) 0 0 hf
theorem cf_X8_slow : cfV yX8_slow cX8_slow 8 (some .int) 1 := ⟨tm_1177, tm_1178, tm_60, tm_1179, by decide, by decide, by decide +kernel⟩

def f_X8_drop_88 (N : Nat) (K22 : (St2 × (Nat → Int64)) → Int32 → Option (Int32 × (St2 × (Nat → Int64)))) : Nat → (St2 × (Nat → Int64)) → Int32 → Int32 → Option (Int32 × (St2 × (Nat → Int64)))
  | 0, _, _, _ => none
  | n + 1, σM, y2, y3 => if 4 ≤ y3 then K22 σM (y2 + 1) else if (((4 * y2) + 4) + y3) < 0 ∨ 36 ≤ Int32.toNatClampNeg (((4 * y2) + 4) + y3) then none else lt (σM.1 29 (Int32.toNatClampNeg (((4 * y2) + 4) + y3)) : Int32) fun z_3 => if ((4 * y2) + y3) < 0 ∨ 36 ≤ Int32.toNatClampNeg ((4 * y2) + y3) then none else f_X8_drop_88 N K22 n (up2 σM.1 29 (Int32.toNatClampNeg ((4 * y2) + y3)) z_3, σM.2) y2 (y3 + 1)
def f_X8_drop_22 (N : Nat) : Nat → (St2 × (Nat → Int64)) → Int32 → Option (Int32 × (St2 × (Nat → Int64)))
  | 0, _, _ => none
  | n + 1, σM, y2 => if (σM.1 0 26) ≤ y2 then some (σM.1 0 26, σM) else if (y2 + 1) < 0 ∨ 9 ≤ Int32.toNatClampNeg (y2 + 1) then none else lt (σM.1 28 (Int32.toNatClampNeg (y2 + 1)) : Int32) fun z_3 => if y2 < 0 ∨ 9 ≤ Int32.toNatClampNeg y2 then none else if (y2 + 1) < 0 ∨ 9 ≤ Int32.toNatClampNeg (y2 + 1) then none else lt (σM.1 30 (Int32.toNatClampNeg (y2 + 1)) : Int32) fun z_6 => if y2 < 0 ∨ 9 ≤ Int32.toNatClampNeg y2 then none else if (y2 + 1) < 0 ∨ 9 ≤ Int32.toNatClampNeg (y2 + 1) then none else lt (σM.1 31 (Int32.toNatClampNeg (y2 + 1)) : Int32) fun z_9 => if y2 < 0 ∨ 9 ≤ Int32.toNatClampNeg y2 then none else if (y2 + 1) < 0 ∨ 9 ≤ Int32.toNatClampNeg (y2 + 1) then none else lt (σM.1 32 (Int32.toNatClampNeg (y2 + 1)) : Int32) fun z_12 => if y2 < 0 ∨ 9 ≤ Int32.toNatClampNeg y2 then none else f_X8_drop_88 N (f_X8_drop_22 N n) N (up2 (up2 (up2 (up2 σM.1 28 (Int32.toNatClampNeg y2) z_3) 30 (Int32.toNatClampNeg y2) z_6) 31 (Int32.toNatClampNeg y2) z_9) 32 (Int32.toNatClampNeg y2) z_12, σM.2) y2 0
def f_X8_drop (N : Nat) (σM : St2 × (Nat → Int64)) (x1 : Int32) : Option (Int32 × (St2 × (Nat → Int64))) := if (bI (f_X8_isRecord σM x1)) = 0 then some ((-1), σM) else lt ((σM.1 0 26) - 1 : Int32) fun z_3 => f_X8_drop_22 N N (up2 σM.1 0 26 z_3, σM.2) x1
set_option maxHeartbeats 4000000 in
set_option maxRecDepth 100000 in
theorem b_X8_drop_88 {l : Launch} {D : va_G} {cy : Nat → ClassId} {g : Gs} {p : Program} {e : Env} {s : State} {m : MethodId} {args : Array Value} {below : List Frame} {meth : Method} {c : Code} {A : Nat → Prop} {aM : Nat → Nat} {N : Nat} {out : Int32 × (St2 × (Nat → Int64))} {K22 : (St2 × (Nat → Int64)) → Int32 → Option (Int32 × (St2 × (Nat → Int64)))} (F : Fx p s m args meth c cX8_drop RX8 4 (some .int)) (hK : va_K D vwCl (tys cy) s) (hS : St g A s s.heap) (hA : ∀ q, s.heap.size ≤ q → A q) (hK22 : ∀ (σM : St2 × (Nat → Int64)) (y2 : Int32), K22 σM y2 = some out → J p l e { frames := 1, cells := 0, slots := 0, locals := 21 } s m args below meth c 4 (hW D A s (wM aM cy σM)) 0 0 (MQ below (QW D A (some (.int out.1)) (wM aM cy out.2)) args s 0 0 A) 22 [(0, .ref (aM 0)), (2, .int y2)] []) :
    ∀ (n : Nat) (σM : St2 × (Nat → Int64)) (y2 : Int32) (y3 : Int32), f_X8_drop_88 N K22 n σM y2 y3 = some out → J p l e { frames := 1, cells := 0, slots := 0, locals := 21 } s m args below meth c 4 (hW D A s (wM aM cy σM)) 0 0 (MQ below (QW D A (some (.int out.1)) (wM aM cy out.2)) args s 0 0 A) 88 [(0, .ref (aM 0)), (2, .int y2), (3, .int y3)] [] := by
  intro n
  induction n with
  | zero =>
    intro σM y2 y3 hf
    cases hf
  | succ n ih =>
    intro σM y2 y3 hf
    rw [f_X8_drop_88] at hf
    refine j_iload_n (pc := 88) F 2 dX8_drop_88 rfl rfl ?_
    refine j_iconst (pc := 89) F (v := 4) dX8_drop_89 rfl ?_
    refine j_icmp_ge (pc := 90) (tgt := 121) F dX8_drop_90 rfl (fun c_1 => ?_) (fun c_1 => ?_)
    · have hf := of_pos c_1 hf
      refine j_iinc (pc := 121) (v := y2 + 1) (lv' := [(2, .int (y2 + 1)), (0, .ref (aM 0)), (3, .int y3)]) F 1 dX8_drop_121 rfl rfl (by decide) rfl ?_
      refine j_goto (pc := 124) F (tgt := 22) dX8_drop_124 rfl ?_
      refine j_sub [1, 0] rfl ?_
      exact hK22 σM (y2 + 1) hf
    · have hf := of_neg c_1 hf
      refine j_aload_n (pc := 93) F 0 dX8_drop_93 rfl rfl ?_
      refine jw_get (pc := 94) (v := .ref (aM 29)) F hK ix_8 0 rfl rfl 28 (by decide) tm_843 rfl rfl dX8_drop_94 ?_
      refine j_iconst (pc := 97) F (v := 4) dX8_drop_97 rfl ?_
      refine j_iload_n (pc := 98) F 1 dX8_drop_98 rfl rfl ?_
      refine j_imul (pc := 99) F dX8_drop_99 ?_
      refine j_iload_n (pc := 100) F 2 dX8_drop_100 rfl rfl ?_
      refine j_iadd (pc := 101) F dX8_drop_101 ?_
      refine j_aload_n (pc := 102) F 0 dX8_drop_102 rfl rfl ?_
      refine jw_get (pc := 103) (v := .ref (aM 29)) F hK ix_8 0 rfl rfl 28 (by decide) tm_843 rfl rfl dX8_drop_103 ?_
      refine j_iconst (pc := 106) F (v := 4) dX8_drop_106 rfl ?_
      refine j_iload_n (pc := 107) F 1 dX8_drop_107 rfl rfl ?_
      refine j_imul (pc := 108) F dX8_drop_108 ?_
      refine j_iconst (pc := 109) F (v := 4) dX8_drop_109 rfl ?_
      refine j_iadd (pc := 110) F dX8_drop_110 ?_
      refine j_iload_n (pc := 111) F 2 dX8_drop_111 rfl rfl ?_
      refine j_iadd (pc := 112) F dX8_drop_112 ?_
      have c_2 : ¬ ((((4 * y2) + 4) + y3) < 0 ∨ 36 ≤ Int32.toNatClampNeg (((4 * y2) + 4) + y3)) := fun z => by rw [if_pos z] at hf; cases hf
      have hf := of_neg c_2 hf
      refine jw_iald (pc := 113) F hK 11 rfl c_2 dX8_drop_113 ?_
      obtain ⟨z_3, ez_3, hf⟩ := of_lt hf
      refine j_topi ez_3 ?_
      have c_4 : ¬ (((4 * y2) + y3) < 0 ∨ 36 ≤ Int32.toNatClampNeg ((4 * y2) + y3)) := fun z => by rw [if_pos z] at hf; cases hf
      have hf := of_neg c_4 hf
      refine jw_iast (pc := 114) (w' := wM aM cy (up2 σM.1 29 (Int32.toNatClampNeg ((4 * y2) + y3)) z_3, σM.2)) F hK 11 rfl c_4 (wM_row_29 _ _ _ _ _) dX8_drop_114 ?_
      refine j_iinc (pc := 115) (v := y3 + 1) (lv' := [(3, .int (y3 + 1)), (0, .ref (aM 0)), (2, .int y2)]) F 2 dX8_drop_115 rfl rfl (by decide) rfl ?_
      refine j_goto (pc := 118) F (tgt := 88) dX8_drop_118 rfl ?_
      refine j_sub [1, 2, 0] rfl ?_
      exact ih (up2 σM.1 29 (Int32.toNatClampNeg ((4 * y2) + y3)) z_3, σM.2) y2 (y3 + 1) hf
set_option maxHeartbeats 4000000 in
set_option maxRecDepth 100000 in
theorem b_X8_drop_22 {l : Launch} {D : va_G} {cy : Nat → ClassId} {g : Gs} {p : Program} {e : Env} {s : State} {m : MethodId} {args : Array Value} {below : List Frame} {meth : Method} {c : Code} {A : Nat → Prop} {aM : Nat → Nat} {N : Nat} {out : Int32 × (St2 × (Nat → Int64))} (F : Fx p s m args meth c cX8_drop RX8 4 (some .int)) (hK : va_K D vwCl (tys cy) s) (hS : St g A s s.heap) (hA : ∀ q, s.heap.size ≤ q → A q) :
    ∀ (n : Nat) (σM : St2 × (Nat → Int64)) (y2 : Int32), f_X8_drop_22 N n σM y2 = some out → J p l e { frames := 1, cells := 0, slots := 0, locals := 21 } s m args below meth c 4 (hW D A s (wM aM cy σM)) 0 0 (MQ below (QW D A (some (.int out.1)) (wM aM cy out.2)) args s 0 0 A) 22 [(0, .ref (aM 0)), (2, .int y2)] [] := by
  intro n
  induction n with
  | zero =>
    intro σM y2 hf
    cases hf
  | succ n ih =>
    intro σM y2 hf
    rw [f_X8_drop_22] at hf
    refine j_iload_n (pc := 22) F 1 dX8_drop_22 rfl rfl ?_
    refine j_aload_n (pc := 23) F 0 dX8_drop_23 rfl rfl ?_
    refine jw_get (pc := 24) (v := .int (σM.1 0 26)) F hK ix_8 0 rfl rfl 26 (by decide) tm_841 rfl rfl dX8_drop_24 ?_
    refine j_icmp_ge (pc := 27) (tgt := 127) F dX8_drop_27 rfl (fun c_1 => ?_) (fun c_1 => ?_)
    · have hf := of_pos c_1 hf
      refine j_aload_n (pc := 127) F 0 dX8_drop_127 rfl rfl ?_
      refine jw_get (pc := 128) (v := .int (σM.1 0 26)) F hK ix_8 0 rfl rfl 26 (by decide) tm_841 rfl rfl dX8_drop_128 ?_
      have hf := (Option.some.inj hf)
      subst hf
      exact j_iretW (pc := 131) F dX8_drop_131 rfl rfl
    · have hf := of_neg c_1 hf
      refine j_aload_n (pc := 30) F 0 dX8_drop_30 rfl rfl ?_
      refine jw_get (pc := 31) (v := .ref (aM 28)) F hK ix_8 0 rfl rfl 27 (by decide) tm_842 rfl rfl dX8_drop_31 ?_
      refine j_iload_n (pc := 34) F 1 dX8_drop_34 rfl rfl ?_
      refine j_aload_n (pc := 35) F 0 dX8_drop_35 rfl rfl ?_
      refine jw_get (pc := 36) (v := .ref (aM 28)) F hK ix_8 0 rfl rfl 27 (by decide) tm_842 rfl rfl dX8_drop_36 ?_
      refine j_iload_n (pc := 39) F 1 dX8_drop_39 rfl rfl ?_
      refine j_iconst (pc := 40) F (v := 1) dX8_drop_40 rfl ?_
      refine j_iadd (pc := 41) F dX8_drop_41 ?_
      have c_2 : ¬ ((y2 + 1) < 0 ∨ 9 ≤ Int32.toNatClampNeg (y2 + 1)) := fun z => by rw [if_pos z] at hf; cases hf
      have hf := of_neg c_2 hf
      refine jw_iald (pc := 42) F hK 10 rfl c_2 dX8_drop_42 ?_
      obtain ⟨z_3, ez_3, hf⟩ := of_lt hf
      refine j_topi ez_3 ?_
      have c_4 : ¬ (y2 < 0 ∨ 9 ≤ Int32.toNatClampNeg y2) := fun z => by rw [if_pos z] at hf; cases hf
      have hf := of_neg c_4 hf
      refine jw_iast (pc := 43) (w' := wM aM cy (up2 σM.1 28 (Int32.toNatClampNeg y2) z_3, σM.2)) F hK 10 rfl c_4 (wM_row_28 _ _ _ _ _) dX8_drop_43 ?_
      refine j_aload_n (pc := 44) F 0 dX8_drop_44 rfl rfl ?_
      refine jw_get (pc := 45) (v := .ref (aM 30)) F hK ix_8 0 rfl rfl 29 (by decide) tm_844 rfl rfl dX8_drop_45 ?_
      refine j_iload_n (pc := 48) F 1 dX8_drop_48 rfl rfl ?_
      refine j_aload_n (pc := 49) F 0 dX8_drop_49 rfl rfl ?_
      refine jw_get (pc := 50) (v := .ref (aM 30)) F hK ix_8 0 rfl rfl 29 (by decide) tm_844 rfl rfl dX8_drop_50 ?_
      refine j_iload_n (pc := 53) F 1 dX8_drop_53 rfl rfl ?_
      refine j_iconst (pc := 54) F (v := 1) dX8_drop_54 rfl ?_
      refine j_iadd (pc := 55) F dX8_drop_55 ?_
      have c_5 : ¬ ((y2 + 1) < 0 ∨ 9 ≤ Int32.toNatClampNeg (y2 + 1)) := fun z => by rw [if_pos z] at hf; cases hf
      have hf := of_neg c_5 hf
      refine jw_iald (pc := 56) F hK 12 rfl c_5 dX8_drop_56 ?_
      refine j_topi (y := σM.1 30 (Int32.toNatClampNeg (y2 + 1))) rfl ?_
      obtain ⟨z_6, ez_6, hf⟩ := of_lt hf
      refine j_topi ez_6 ?_
      have c_7 : ¬ (y2 < 0 ∨ 9 ≤ Int32.toNatClampNeg y2) := fun z => by rw [if_pos z] at hf; cases hf
      have hf := of_neg c_7 hf
      refine jw_iast (pc := 57) (w' := wM aM cy (up2 (up2 σM.1 28 (Int32.toNatClampNeg y2) z_3) 30 (Int32.toNatClampNeg y2) z_6, σM.2)) F hK 12 rfl c_7 (wM_row_30 _ _ _ _ _) dX8_drop_57 ?_
      refine j_aload_n (pc := 58) F 0 dX8_drop_58 rfl rfl ?_
      refine jw_get (pc := 59) (v := .ref (aM 31)) F hK ix_8 0 rfl rfl 30 (by decide) tm_845 rfl rfl dX8_drop_59 ?_
      refine j_iload_n (pc := 62) F 1 dX8_drop_62 rfl rfl ?_
      refine j_aload_n (pc := 63) F 0 dX8_drop_63 rfl rfl ?_
      refine jw_get (pc := 64) (v := .ref (aM 31)) F hK ix_8 0 rfl rfl 30 (by decide) tm_845 rfl rfl dX8_drop_64 ?_
      refine j_iload_n (pc := 67) F 1 dX8_drop_67 rfl rfl ?_
      refine j_iconst (pc := 68) F (v := 1) dX8_drop_68 rfl ?_
      refine j_iadd (pc := 69) F dX8_drop_69 ?_
      have c_8 : ¬ ((y2 + 1) < 0 ∨ 9 ≤ Int32.toNatClampNeg (y2 + 1)) := fun z => by rw [if_pos z] at hf; cases hf
      have hf := of_neg c_8 hf
      refine jw_iald (pc := 70) F hK 13 rfl c_8 dX8_drop_70 ?_
      refine j_topi (y := σM.1 31 (Int32.toNatClampNeg (y2 + 1))) rfl ?_
      obtain ⟨z_9, ez_9, hf⟩ := of_lt hf
      refine j_topi ez_9 ?_
      have c_10 : ¬ (y2 < 0 ∨ 9 ≤ Int32.toNatClampNeg y2) := fun z => by rw [if_pos z] at hf; cases hf
      have hf := of_neg c_10 hf
      refine jw_iast (pc := 71) (w' := wM aM cy (up2 (up2 (up2 σM.1 28 (Int32.toNatClampNeg y2) z_3) 30 (Int32.toNatClampNeg y2) z_6) 31 (Int32.toNatClampNeg y2) z_9, σM.2)) F hK 13 rfl c_10 (wM_row_31 _ _ _ _ _) dX8_drop_71 ?_
      refine j_aload_n (pc := 72) F 0 dX8_drop_72 rfl rfl ?_
      refine jw_get (pc := 73) (v := .ref (aM 32)) F hK ix_8 0 rfl rfl 31 (by decide) tm_846 rfl rfl dX8_drop_73 ?_
      refine j_iload_n (pc := 76) F 1 dX8_drop_76 rfl rfl ?_
      refine j_aload_n (pc := 77) F 0 dX8_drop_77 rfl rfl ?_
      refine jw_get (pc := 78) (v := .ref (aM 32)) F hK ix_8 0 rfl rfl 31 (by decide) tm_846 rfl rfl dX8_drop_78 ?_
      refine j_iload_n (pc := 81) F 1 dX8_drop_81 rfl rfl ?_
      refine j_iconst (pc := 82) F (v := 1) dX8_drop_82 rfl ?_
      refine j_iadd (pc := 83) F dX8_drop_83 ?_
      have c_11 : ¬ ((y2 + 1) < 0 ∨ 9 ≤ Int32.toNatClampNeg (y2 + 1)) := fun z => by rw [if_pos z] at hf; cases hf
      have hf := of_neg c_11 hf
      refine jw_iald (pc := 84) F hK 14 rfl c_11 dX8_drop_84 ?_
      refine j_topi (y := σM.1 32 (Int32.toNatClampNeg (y2 + 1))) rfl ?_
      obtain ⟨z_12, ez_12, hf⟩ := of_lt hf
      refine j_topi ez_12 ?_
      have c_13 : ¬ (y2 < 0 ∨ 9 ≤ Int32.toNatClampNeg y2) := fun z => by rw [if_pos z] at hf; cases hf
      have hf := of_neg c_13 hf
      refine jw_iast (pc := 85) (w' := wM aM cy (up2 (up2 (up2 (up2 σM.1 28 (Int32.toNatClampNeg y2) z_3) 30 (Int32.toNatClampNeg y2) z_6) 31 (Int32.toNatClampNeg y2) z_9) 32 (Int32.toNatClampNeg y2) z_12, σM.2)) F hK 14 rfl c_13 (wM_row_32 _ _ _ _ _) dX8_drop_85 ?_
      refine j_iconst (pc := 86) F (v := 0) dX8_drop_86 rfl ?_
      refine j_istore_n (pc := 87) (lv' := [(3, .int 0), (0, .ref (aM 0)), (2, .int y2)]) F dX8_drop_87 rfl (by decide) rfl ?_
      refine j_sub [1, 2, 0] rfl ?_
      exact b_X8_drop_88 F hK hS hA ih N (up2 (up2 (up2 (up2 σM.1 28 (Int32.toNatClampNeg y2) z_3) 30 (Int32.toNatClampNeg y2) z_6) 31 (Int32.toNatClampNeg y2) z_9) 32 (Int32.toNatClampNeg y2) z_12, σM.2) y2 0 hf
set_option maxHeartbeats 4000000 in
set_option maxRecDepth 100000 in
theorem c_X8_drop {l : Launch} {D : va_G} {cy : Nat → ClassId} {g : Gs} {aM : Nat → Nat} {σM : St2 × (Nat → Int64)} {N : Nat} {x1 : Int32} {out : Int32 × (St2 × (Nat → Int64))} (hf : f_X8_drop N σM x1 = some out) : CW l D cy g yX8_drop cX8_drop 4 (some .int) 1 21 (wM aM cy σM) [.ref (aM 0), .int x1] (some (.int out.1)) (wM aM cy out.2) := by
  unfold f_X8_drop at hf
  refine met_W (lv := [(0, .ref (aM 0)), (1, .int x1)]) (by decide) (Nat.le_of_ble_eq_true rfl) rfl ?_
  intro p e s m args below meth c A F hK hS hA
  refine j_aload_n (pc := 0) F 0 dX8_drop_0 rfl rfl ?_
  refine j_iload_n (pc := 1) F 1 dX8_drop_1 rfl rfl ?_
  refine j_callRV (pc := 2) (st := []) (st1 := [.int (bI (f_X8_isRecord σM x1))]) F hK (hpW hS hp_id) (c_X8_isRecord (l := l) (D := D) (cy := cy) (g := g) (aM := aM) (rfl : f_X8_isRecord σM x1 = _)) tm_1152 cf_X8_isRecord (Nat.le_of_ble_eq_true rfl) (Nat.le_of_ble_eq_true rfl) ⟨Nat.zero_le _, Nat.zero_le _⟩ 0 rfl rfl rfl rfl rfl (Nat.le_of_ble_eq_true rfl) rfl dX8_drop_2 ?_
  refine j_if_ne (pc := 5) (tgt := 10) F dX8_drop_5 rfl (fun c_2 => ?_) (fun c_2 => ?_)
  · have hf := of_neg c_2 hf
    refine j_aload_n (pc := 10) F 0 dX8_drop_10 rfl rfl ?_
    refine j_dup (pc := 11) F dX8_drop_11 rfl ?_
    refine jw_get (pc := 12) (v := .int (σM.1 0 26)) F hK ix_8 0 rfl rfl 26 (by decide) tm_841 rfl rfl dX8_drop_12 ?_
    refine j_iconst (pc := 15) F (v := 1) dX8_drop_15 rfl ?_
    refine j_isub (pc := 16) F dX8_drop_16 ?_
    obtain ⟨z_3, ez_3, hf⟩ := of_lt hf
    refine j_topi ez_3 ?_
    refine jw_put (pc := 17) (w' := wM aM cy (up2 σM.1 0 26 z_3, σM.2)) F hK ix_8 tyX8 tyX8_ok nmX8 0 rfl rfl 26 (by decide) tm_841 rfl rfl rfl rfl rfl (Nat.le_of_ble_eq_true rfl) (wM_put_26 _ _ _ _) dX8_drop_17 ?_
    refine j_iload_n (pc := 20) F 1 dX8_drop_20 rfl rfl ?_
    refine j_istore_n (pc := 21) (lv' := [(2, .int x1), (0, .ref (aM 0)), (1, .int x1)]) F dX8_drop_21 rfl (by decide) rfl ?_
    refine j_sub [1, 0] rfl ?_
    exact b_X8_drop_22 F hK hS hA N (up2 σM.1 0 26 z_3, σM.2) x1 hf
  · have hf := of_pos c_2 hf
    refine j_iconst (pc := 8) F (v := (-1)) dX8_drop_8 rfl ?_
    have hf := (Option.some.inj hf)
    subst hf
    exact j_iretW (pc := 9) F dX8_drop_9 rfl rfl
theorem cf_X8_drop : cfV yX8_drop cX8_drop 4 (some .int) 1 := ⟨tm_1181, tm_1182, tm_60, tm_1183, by decide, by decide, by decide +kernel⟩
