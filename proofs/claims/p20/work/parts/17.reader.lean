def f_X3_faultKind (σD : St2) : Int32 := σD 0 9
set_option maxHeartbeats 4000000 in
set_option maxRecDepth 100000 in
theorem c_X3_faultKind {l : Launch} {D : va_G} {cy : Nat → ClassId} {g : Gs} {aD : Nat → Nat} {aT : Nat → Nat} {aR : Nat → Nat} {ra : Value} {σD : St2} {out : Int32} (hf : f_X3_faultKind σD = out) : CR l D cy g yX3_faultKind cX3_faultKind 1 (some .int) 0 0 (wD aD aT aR ra σD) [.ref (aD 0)] (some (.int out)) := by
  unfold f_X3_faultKind at hf
  refine met_R (lv := [(0, .ref (aD 0))]) (by decide) (Nat.le_of_ble_eq_true rfl) rfl ?_
  intro p e s m args below meth c F hP hK hS
  refine j_aload_n (pc := 0) F 0 dX3_faultKind_0 rfl rfl ?_
  refine jr_get (pc := 1) (v := .int (σD 0 9)) F hK hP ix_3 0 rfl rfl 9 (by decide) tm_201 rfl rfl dX3_faultKind_1 ?_
  exact j_iretR (pc := 4) F dX3_faultKind_4 hf
theorem cf_X3_faultKind : cfV yX3_faultKind cX3_faultKind 1 (some .int) 0 := ⟨tm_655, tm_656, tm_59, tm_657, by decide, by decide, by decide +kernel⟩

def f_X3_faultPlace (σD : St2) : Int32 := σD 0 10
set_option maxHeartbeats 4000000 in
set_option maxRecDepth 100000 in
theorem c_X3_faultPlace {l : Launch} {D : va_G} {cy : Nat → ClassId} {g : Gs} {aD : Nat → Nat} {aT : Nat → Nat} {aR : Nat → Nat} {ra : Value} {σD : St2} {out : Int32} (hf : f_X3_faultPlace σD = out) : CR l D cy g yX3_faultPlace cX3_faultPlace 1 (some .int) 0 0 (wD aD aT aR ra σD) [.ref (aD 0)] (some (.int out)) := by
  unfold f_X3_faultPlace at hf
  refine met_R (lv := [(0, .ref (aD 0))]) (by decide) (Nat.le_of_ble_eq_true rfl) rfl ?_
  intro p e s m args below meth c F hP hK hS
  refine j_aload_n (pc := 0) F 0 dX3_faultPlace_0 rfl rfl ?_
  refine jr_get (pc := 1) (v := .int (σD 0 10)) F hK hP ix_3 0 rfl rfl 10 (by decide) tm_202 rfl rfl dX3_faultPlace_1 ?_
  exact j_iretR (pc := 4) F dX3_faultPlace_4 hf
theorem cf_X3_faultPlace : cfV yX3_faultPlace cX3_faultPlace 1 (some .int) 0 := ⟨tm_659, tm_660, tm_59, tm_661, by decide, by decide, by decide +kernel⟩

def f_X3_refuse (σD : St2) (x1 : Int32) (x2 : Int32) : Bool × St2 := (false, up2 (up2 σD 0 9 x1) 0 10 x2)
set_option maxHeartbeats 4000000 in
set_option maxRecDepth 100000 in
theorem c_X3_refuse {l : Launch} {D : va_G} {cy : Nat → ClassId} {g : Gs} {aD : Nat → Nat} {aT : Nat → Nat} {aR : Nat → Nat} {ra : Value} {σD : St2} {x1 : Int32} {x2 : Int32} {out : Bool × St2} (hf : f_X3_refuse σD x1 x2 = out) : CW l D cy g yX3_refuse cX3_refuse 3 (some .boolean) 0 0 (wD aD aT aR ra σD) [.ref (aD 0), .int x1, .int x2] (some (.int (bI out.1))) (wD aD aT aR ra out.2) := by
  unfold f_X3_refuse at hf
  refine met_W (lv := [(0, .ref (aD 0)), (1, .int x1), (2, .int x2)]) (by decide) (Nat.le_of_ble_eq_true rfl) rfl ?_
  intro p e s m args below meth c A F hK hS hA
  refine j_aload_n (pc := 0) F 0 dX3_refuse_0 rfl rfl ?_
  refine j_iload_n (pc := 1) F 1 dX3_refuse_1 rfl rfl ?_
  refine jw_put (pc := 2) (w' := wD aD aT aR ra (up2 σD 0 9 x1)) F hK ix_3 tyX3 tyX3_ok nmX3 0 rfl rfl 9 (by decide) tm_201 rfl rfl rfl rfl rfl (Nat.le_of_ble_eq_true rfl) rfl dX3_refuse_2 ?_
  refine j_aload_n (pc := 5) F 0 dX3_refuse_5 rfl rfl ?_
  refine j_iload_n (pc := 6) F 2 dX3_refuse_6 rfl rfl ?_
  refine jw_put (pc := 7) (w' := wD aD aT aR ra (up2 (up2 σD 0 9 x1) 0 10 x2)) F hK ix_3 tyX3 tyX3_ok nmX3 0 rfl rfl 10 (by decide) tm_202 rfl rfl rfl rfl rfl (Nat.le_of_ble_eq_true rfl) rfl dX3_refuse_7 ?_
  refine j_iconst (pc := 10) F (v := 0) dX3_refuse_10 rfl ?_
  have hf := hf
  subst hf
  exact j_zretW (pc := 11) F dX3_refuse_11 rfl rfl
theorem cf_X3_refuse : cfV yX3_refuse cX3_refuse 3 (some .boolean) 2 := ⟨tm_551, tm_6, tm_59, tm_552, by decide, by decide, by decide +kernel⟩

def f_X3_takeSign_54 (N : Nat) : Nat → St2 → St2 → Option (St2)
  | 0, _, _ => none
  | n + 1, σD, σT => if (f_X6_size σT) ≤ (σD 0 5) then some σD else (f_X6_byteAt σT (σD 0 5)).bind fun o_3 => if (bI (f_X6_isLetter o_3)) = 0 then some σD else lt ((σD 0 5) + 1 : Int32) fun z_6 => f_X3_takeSign_54 N n (up2 σD 0 5 z_6) σT
def f_X3_takeSign_110 (N : Nat) : Nat → St2 → St2 → Option (St2)
  | 0, _, _ => none
  | n + 1, σD, σT => if (f_X6_size σT) ≤ (σD 0 5) then some σD else (f_X6_byteAt σT (σD 0 5)).bind fun o_3 => if (bI (f_X6_isDigit o_3)) = 0 then some σD else lt ((σD 0 5) + 1 : Int32) fun z_6 => f_X3_takeSign_110 N n (up2 σD 0 5 z_6) σT
def f_X3_takeSign (N : Nat) (σD : St2) (σT : St2) : Option (St2) := (f_X6_byteAt σT (σD 0 4)).bind fun o_1 => lt (σD 0 4 : Int32) fun z_2 => if (σD 0 4) < (f_X6_size σT) then if (bI (f_X6_isLetter o_1)) = 0 then if (bI (f_X6_isDigit o_1)) = 0 then lt ((σD 0 4) + 1 : Int32) fun z_9 => some (up2 (up2 (up2 σD 0 5 z_2) 0 3 3) 0 5 z_9) else f_X3_takeSign_110 N N (up2 (up2 σD 0 5 z_2) 0 3 2) σT else f_X3_takeSign_54 N N (up2 (up2 σD 0 5 z_2) 0 3 1) σT else some (up2 (up2 σD 0 5 z_2) 0 3 0)
set_option maxHeartbeats 4000000 in
set_option maxRecDepth 100000 in
theorem b_X3_takeSign_54 {l : Launch} {D : va_G} {cy : Nat → ClassId} {g : Gs} {p : Program} {e : Env} {s : State} {m : MethodId} {args : Array Value} {below : List Frame} {meth : Method} {c : Code} {A : Nat → Prop} {aD : Nat → Nat} {aT : Nat → Nat} {aR : Nat → Nat} {ra : Value} {σT : St2} {N : Nat} {out : St2} (F : Fx p s m args meth c cX3_takeSign RX3 2 none) (hK : va_K D vwCl (tys cy) s) (hS : St g A s s.heap) (hA : ∀ q, s.heap.size ≤ q → A q) :
    ∀ (n : Nat) (σD : St2), f_X3_takeSign_54 N n σD σT = some out → J p l e { frames := 1, cells := 0, slots := 0, locals := 21 } s m args below meth c 2 (hW D A s (wD aD aT aR ra σD ++ wT aT cy σT)) 0 0 (MQ below (QW D A none (wD aD aT aR ra out ++ wT aT cy σT)) args s 0 0 A) 54 [(0, .ref (aD 0))] [] := by
  intro n
  induction n with
  | zero =>
    intro σD hf
    cases hf
  | succ n ih =>
    intro σD hf
    rw [f_X3_takeSign_54] at hf
    refine j_aload_n (pc := 54) F 0 dX3_takeSign_54 rfl rfl ?_
    refine jw_get (pc := 55) (v := .int (σD 0 5)) F hK ix_3 0 rfl rfl 5 (by decide) tm_197 rfl rfl dX3_takeSign_55 ?_
    refine j_aload_n (pc := 58) F 0 dX3_takeSign_58 rfl rfl ?_
    refine jw_get (pc := 59) (v := .ref (aT 0)) F hK ix_3 0 rfl rfl 0 (by decide) tm_192 rfl rfl dX3_takeSign_59 ?_
    refine j_callRV (pc := 62) (st := [.int (σD 0 5)]) (st1 := [.int (f_X6_size σT), .int (σD 0 5)]) F hK (hpW hS (hp_sub [1, 2] rfl)) (c_X6_size (l := l) (D := D) (cy := cy) (g := g) (aT := aT) (rfl : f_X6_size σT = _)) tm_478 cf_X6_size (Nat.le_of_ble_eq_true rfl) (Nat.le_of_ble_eq_true rfl) ⟨Nat.zero_le _, Nat.zero_le _⟩ 0 rfl rfl rfl rfl rfl (Nat.le_of_ble_eq_true rfl) rfl dX3_takeSign_62 ?_
    refine j_icmp_ge (pc := 65) (tgt := 169) F dX3_takeSign_65 rfl (fun c_2 => ?_) (fun c_2 => ?_)
    · have hf := of_pos c_2 hf
      have hf := (Option.some.inj hf)
      subst hf
      exact j_vretW (pc := 169) F dX3_takeSign_169 rfl
    · have hf := of_neg c_2 hf
      refine j_aload_n (pc := 68) F 0 dX3_takeSign_68 rfl rfl ?_
      refine jw_get (pc := 69) (v := .ref (aT 0)) F hK ix_3 0 rfl rfl 0 (by decide) tm_192 rfl rfl dX3_takeSign_69 ?_
      refine j_aload_n (pc := 72) F 0 dX3_takeSign_72 rfl rfl ?_
      refine jw_get (pc := 73) (v := .int (σD 0 5)) F hK ix_3 0 rfl rfl 5 (by decide) tm_197 rfl rfl dX3_takeSign_73 ?_
      obtain ⟨o_3, ho_3, hf⟩ := of_bnd hf
      refine j_callRV (pc := 76) (st := []) (st1 := [.int o_3]) F hK (hpW hS (hp_sub [1, 2] rfl)) (c_X6_byteAt (l := l) (D := D) (cy := cy) (g := g) (aT := aT) ho_3) tm_479 cf_X6_byteAt (Nat.le_of_ble_eq_true rfl) (Nat.le_of_ble_eq_true rfl) ⟨Nat.zero_le _, Nat.zero_le _⟩ 0 rfl rfl rfl rfl rfl (Nat.le_of_ble_eq_true rfl) rfl dX3_takeSign_76 ?_
      refine j_callRS (pc := 79) (st := []) (st1 := [.int (bI (f_X6_isLetter o_3))]) F hK (hpW hS hp_nil) (c_X6_isLetter (l := l) (D := D) (cy := cy) (g := g) (rfl : f_X6_isLetter o_3 = _)) tm_487 cf_X6_isLetter (Nat.le_of_ble_eq_true rfl) (Nat.le_of_ble_eq_true rfl) ⟨Nat.zero_le _, Nat.zero_le _⟩ rfl rfl (Nat.le_of_ble_eq_true rfl) rfl dX3_takeSign_79 ?_
      refine j_if_eq (pc := 82) (tgt := 169) F dX3_takeSign_82 rfl (fun c_5 => ?_) (fun c_5 => ?_)
      · have hf := of_pos c_5 hf
        have hf := (Option.some.inj hf)
        subst hf
        exact j_vretW (pc := 169) F dX3_takeSign_169 rfl
      · have hf := of_neg c_5 hf
        refine j_aload_n (pc := 85) F 0 dX3_takeSign_85 rfl rfl ?_
        refine j_dup (pc := 86) F dX3_takeSign_86 rfl ?_
        refine jw_get (pc := 87) (v := .int (σD 0 5)) F hK ix_3 0 rfl rfl 5 (by decide) tm_197 rfl rfl dX3_takeSign_87 ?_
        refine j_iconst (pc := 90) F (v := 1) dX3_takeSign_90 rfl ?_
        refine j_iadd (pc := 91) F dX3_takeSign_91 ?_
        obtain ⟨z_6, ez_6, hf⟩ := of_lt hf
        refine j_topi ez_6 ?_
        refine jw_put (pc := 92) (w' := wD aD aT aR ra (up2 σD 0 5 z_6) ++ wT aT cy σT) F hK ix_3 tyX3 tyX3_ok nmX3 0 rfl rfl 5 (by decide) tm_197 rfl rfl rfl rfl rfl (Nat.le_of_ble_eq_true rfl) rfl dX3_takeSign_92 ?_
        refine j_goto (pc := 95) F (tgt := 54) dX3_takeSign_95 rfl ?_
        exact ih (up2 σD 0 5 z_6) hf
set_option maxHeartbeats 4000000 in
set_option maxRecDepth 100000 in
theorem b_X3_takeSign_110 {l : Launch} {D : va_G} {cy : Nat → ClassId} {g : Gs} {p : Program} {e : Env} {s : State} {m : MethodId} {args : Array Value} {below : List Frame} {meth : Method} {c : Code} {A : Nat → Prop} {aD : Nat → Nat} {aT : Nat → Nat} {aR : Nat → Nat} {ra : Value} {σT : St2} {N : Nat} {out : St2} (F : Fx p s m args meth c cX3_takeSign RX3 2 none) (hK : va_K D vwCl (tys cy) s) (hS : St g A s s.heap) (hA : ∀ q, s.heap.size ≤ q → A q) :
    ∀ (n : Nat) (σD : St2), f_X3_takeSign_110 N n σD σT = some out → J p l e { frames := 1, cells := 0, slots := 0, locals := 21 } s m args below meth c 2 (hW D A s (wD aD aT aR ra σD ++ wT aT cy σT)) 0 0 (MQ below (QW D A none (wD aD aT aR ra out ++ wT aT cy σT)) args s 0 0 A) 110 [(0, .ref (aD 0))] [] := by
  intro n
  induction n with
  | zero =>
    intro σD hf
    cases hf
  | succ n ih =>
    intro σD hf
    rw [f_X3_takeSign_110] at hf
    refine j_aload_n (pc := 110) F 0 dX3_takeSign_110 rfl rfl ?_
    refine jw_get (pc := 111) (v := .int (σD 0 5)) F hK ix_3 0 rfl rfl 5 (by decide) tm_197 rfl rfl dX3_takeSign_111 ?_
    refine j_aload_n (pc := 114) F 0 dX3_takeSign_114 rfl rfl ?_
    refine jw_get (pc := 115) (v := .ref (aT 0)) F hK ix_3 0 rfl rfl 0 (by decide) tm_192 rfl rfl dX3_takeSign_115 ?_
    refine j_callRV (pc := 118) (st := [.int (σD 0 5)]) (st1 := [.int (f_X6_size σT), .int (σD 0 5)]) F hK (hpW hS (hp_sub [1, 2] rfl)) (c_X6_size (l := l) (D := D) (cy := cy) (g := g) (aT := aT) (rfl : f_X6_size σT = _)) tm_478 cf_X6_size (Nat.le_of_ble_eq_true rfl) (Nat.le_of_ble_eq_true rfl) ⟨Nat.zero_le _, Nat.zero_le _⟩ 0 rfl rfl rfl rfl rfl (Nat.le_of_ble_eq_true rfl) rfl dX3_takeSign_118 ?_
    refine j_icmp_ge (pc := 121) (tgt := 169) F dX3_takeSign_121 rfl (fun c_2 => ?_) (fun c_2 => ?_)
    · have hf := of_pos c_2 hf
      have hf := (Option.some.inj hf)
      subst hf
      exact j_vretW (pc := 169) F dX3_takeSign_169 rfl
    · have hf := of_neg c_2 hf
      refine j_aload_n (pc := 124) F 0 dX3_takeSign_124 rfl rfl ?_
      refine jw_get (pc := 125) (v := .ref (aT 0)) F hK ix_3 0 rfl rfl 0 (by decide) tm_192 rfl rfl dX3_takeSign_125 ?_
      refine j_aload_n (pc := 128) F 0 dX3_takeSign_128 rfl rfl ?_
      refine jw_get (pc := 129) (v := .int (σD 0 5)) F hK ix_3 0 rfl rfl 5 (by decide) tm_197 rfl rfl dX3_takeSign_129 ?_
      obtain ⟨o_3, ho_3, hf⟩ := of_bnd hf
      refine j_callRV (pc := 132) (st := []) (st1 := [.int o_3]) F hK (hpW hS (hp_sub [1, 2] rfl)) (c_X6_byteAt (l := l) (D := D) (cy := cy) (g := g) (aT := aT) ho_3) tm_479 cf_X6_byteAt (Nat.le_of_ble_eq_true rfl) (Nat.le_of_ble_eq_true rfl) ⟨Nat.zero_le _, Nat.zero_le _⟩ 0 rfl rfl rfl rfl rfl (Nat.le_of_ble_eq_true rfl) rfl dX3_takeSign_132 ?_
      refine j_callRS (pc := 135) (st := []) (st1 := [.int (bI (f_X6_isDigit o_3))]) F hK (hpW hS hp_nil) (c_X6_isDigit (l := l) (D := D) (cy := cy) (g := g) (rfl : f_X6_isDigit o_3 = _)) tm_488 cf_X6_isDigit (Nat.le_of_ble_eq_true rfl) (Nat.le_of_ble_eq_true rfl) ⟨Nat.zero_le _, Nat.zero_le _⟩ rfl rfl (Nat.le_of_ble_eq_true rfl) rfl dX3_takeSign_135 ?_
      refine j_if_eq (pc := 138) (tgt := 169) F dX3_takeSign_138 rfl (fun c_5 => ?_) (fun c_5 => ?_)
      · have hf := of_pos c_5 hf
        have hf := (Option.some.inj hf)
        subst hf
        exact j_vretW (pc := 169) F dX3_takeSign_169 rfl
      · have hf := of_neg c_5 hf
        refine j_aload_n (pc := 141) F 0 dX3_takeSign_141 rfl rfl ?_
        refine j_dup (pc := 142) F dX3_takeSign_142 rfl ?_
        refine jw_get (pc := 143) (v := .int (σD 0 5)) F hK ix_3 0 rfl rfl 5 (by decide) tm_197 rfl rfl dX3_takeSign_143 ?_
        refine j_iconst (pc := 146) F (v := 1) dX3_takeSign_146 rfl ?_
        refine j_iadd (pc := 147) F dX3_takeSign_147 ?_
        obtain ⟨z_6, ez_6, hf⟩ := of_lt hf
        refine j_topi ez_6 ?_
        refine jw_put (pc := 148) (w' := wD aD aT aR ra (up2 σD 0 5 z_6) ++ wT aT cy σT) F hK ix_3 tyX3 tyX3_ok nmX3 0 rfl rfl 5 (by decide) tm_197 rfl rfl rfl rfl rfl (Nat.le_of_ble_eq_true rfl) rfl dX3_takeSign_148 ?_
        refine j_goto (pc := 151) F (tgt := 110) dX3_takeSign_151 rfl ?_
        exact ih (up2 σD 0 5 z_6) hf
set_option maxHeartbeats 4000000 in
set_option maxRecDepth 100000 in
theorem c_X3_takeSign {l : Launch} {D : va_G} {cy : Nat → ClassId} {g : Gs} {aD : Nat → Nat} {aT : Nat → Nat} {aR : Nat → Nat} {ra : Value} {σD : St2} {σT : St2} {N : Nat} {out : St2} (hf : f_X3_takeSign N σD σT = some out) : CW l D cy g yX3_takeSign cX3_takeSign 2 none 1 21 (wD aD aT aR ra σD ++ wT aT cy σT) [.ref (aD 0)] none (wD aD aT aR ra out ++ wT aT cy σT) := by
  unfold f_X3_takeSign at hf
  refine met_W (lv := [(0, .ref (aD 0))]) (by decide) (Nat.le_of_ble_eq_true rfl) rfl ?_
  intro p e s m args below meth c A F hK hS hA
  refine j_aload_n (pc := 0) F 0 dX3_takeSign_0 rfl rfl ?_
  refine jw_get (pc := 1) (v := .ref (aT 0)) F hK ix_3 0 rfl rfl 0 (by decide) tm_192 rfl rfl dX3_takeSign_1 ?_
  refine j_aload_n (pc := 4) F 0 dX3_takeSign_4 rfl rfl ?_
  refine jw_get (pc := 5) (v := .int (σD 0 4)) F hK ix_3 0 rfl rfl 4 (by decide) tm_196 rfl rfl dX3_takeSign_5 ?_
  obtain ⟨o_1, ho_1, hf⟩ := of_bnd hf
  refine j_callRV (pc := 8) (st := []) (st1 := [.int o_1]) F hK (hpW hS (hp_sub [1, 2] rfl)) (c_X6_byteAt (l := l) (D := D) (cy := cy) (g := g) (aT := aT) ho_1) tm_479 cf_X6_byteAt (Nat.le_of_ble_eq_true rfl) (Nat.le_of_ble_eq_true rfl) ⟨Nat.zero_le _, Nat.zero_le _⟩ 0 rfl rfl rfl rfl rfl (Nat.le_of_ble_eq_true rfl) rfl dX3_takeSign_8 ?_
  refine j_istore_n (pc := 11) (lv' := [(1, .int o_1), (0, .ref (aD 0))]) F dX3_takeSign_11 rfl (by decide) rfl ?_
  refine j_aload_n (pc := 12) F 1 dX3_takeSign_12 rfl rfl ?_
  refine j_aload_n (pc := 13) F 1 dX3_takeSign_13 rfl rfl ?_
  refine jw_get (pc := 14) (v := .int (σD 0 4)) F hK ix_3 0 rfl rfl 4 (by decide) tm_196 rfl rfl dX3_takeSign_14 ?_
  obtain ⟨z_2, ez_2, hf⟩ := of_lt hf
  refine j_topi ez_2 ?_
  refine jw_put (pc := 17) (w' := wD aD aT aR ra (up2 σD 0 5 z_2) ++ wT aT cy σT) F hK ix_3 tyX3 tyX3_ok nmX3 0 rfl rfl 5 (by decide) tm_197 rfl rfl rfl rfl rfl (Nat.le_of_ble_eq_true rfl) rfl dX3_takeSign_17 ?_
  refine j_aload_n (pc := 20) F 1 dX3_takeSign_20 rfl rfl ?_
  refine jw_get (pc := 21) (v := .int (σD 0 4)) F hK ix_3 0 rfl rfl 4 (by decide) tm_196 rfl rfl dX3_takeSign_21 ?_
  refine j_aload_n (pc := 24) F 1 dX3_takeSign_24 rfl rfl ?_
  refine jw_get (pc := 25) (v := .ref (aT 0)) F hK ix_3 0 rfl rfl 0 (by decide) tm_192 rfl rfl dX3_takeSign_25 ?_
  refine j_callRV (pc := 28) (st := [.int (σD 0 4)]) (st1 := [.int (f_X6_size σT), .int (σD 0 4)]) F hK (hpW hS (hp_sub [1, 2] rfl)) (c_X6_size (l := l) (D := D) (cy := cy) (g := g) (aT := aT) (rfl : f_X6_size σT = _)) tm_478 cf_X6_size (Nat.le_of_ble_eq_true rfl) (Nat.le_of_ble_eq_true rfl) ⟨Nat.zero_le _, Nat.zero_le _⟩ 0 rfl rfl rfl rfl rfl (Nat.le_of_ble_eq_true rfl) rfl dX3_takeSign_28 ?_
  refine j_icmp_lt (pc := 31) (tgt := 42) F dX3_takeSign_31 rfl (fun c_4 => ?_) (fun c_4 => ?_)
  · have hf := of_pos c_4 hf
    refine j_iload_n (pc := 42) F 0 dX3_takeSign_42 rfl rfl ?_
    refine j_callRS (pc := 43) (st := []) (st1 := [.int (bI (f_X6_isLetter o_1))]) F hK (hpW hS hp_nil) (c_X6_isLetter (l := l) (D := D) (cy := cy) (g := g) (rfl : f_X6_isLetter o_1 = _)) tm_487 cf_X6_isLetter (Nat.le_of_ble_eq_true rfl) (Nat.le_of_ble_eq_true rfl) ⟨Nat.zero_le _, Nat.zero_le _⟩ rfl rfl (Nat.le_of_ble_eq_true rfl) rfl dX3_takeSign_43 ?_
    refine j_if_eq (pc := 46) (tgt := 98) F dX3_takeSign_46 rfl (fun c_6 => ?_) (fun c_6 => ?_)
    · have hf := of_pos c_6 hf
      refine j_iload_n (pc := 98) F 0 dX3_takeSign_98 rfl rfl ?_
      refine j_callRS (pc := 99) (st := []) (st1 := [.int (bI (f_X6_isDigit o_1))]) F hK (hpW hS hp_nil) (c_X6_isDigit (l := l) (D := D) (cy := cy) (g := g) (rfl : f_X6_isDigit o_1 = _)) tm_488 cf_X6_isDigit (Nat.le_of_ble_eq_true rfl) (Nat.le_of_ble_eq_true rfl) ⟨Nat.zero_le _, Nat.zero_le _⟩ rfl rfl (Nat.le_of_ble_eq_true rfl) rfl dX3_takeSign_99 ?_
      refine j_if_eq (pc := 102) (tgt := 154) F dX3_takeSign_102 rfl (fun c_8 => ?_) (fun c_8 => ?_)
      · have hf := of_pos c_8 hf
        refine j_aload_n (pc := 154) F 1 dX3_takeSign_154 rfl rfl ?_
        refine j_iconst (pc := 155) F (v := 3) dX3_takeSign_155 rfl ?_
        refine jw_put (pc := 156) (w' := wD aD aT aR ra (up2 (up2 σD 0 5 z_2) 0 3 3) ++ wT aT cy σT) F hK ix_3 tyX3 tyX3_ok nmX3 0 rfl rfl 3 (by decide) tm_195 rfl rfl rfl rfl rfl (Nat.le_of_ble_eq_true rfl) rfl dX3_takeSign_156 ?_
        refine j_aload_n (pc := 159) F 1 dX3_takeSign_159 rfl rfl ?_
        refine j_aload_n (pc := 160) F 1 dX3_takeSign_160 rfl rfl ?_
        refine jw_get (pc := 161) (v := .int (σD 0 4)) F hK ix_3 0 rfl rfl 4 (by decide) tm_196 rfl rfl dX3_takeSign_161 ?_
        refine j_iconst (pc := 164) F (v := 1) dX3_takeSign_164 rfl ?_
        refine j_iadd (pc := 165) F dX3_takeSign_165 ?_
        obtain ⟨z_9, ez_9, hf⟩ := of_lt hf
        refine j_topi ez_9 ?_
        refine jw_put (pc := 166) (w' := wD aD aT aR ra (up2 (up2 (up2 σD 0 5 z_2) 0 3 3) 0 5 z_9) ++ wT aT cy σT) F hK ix_3 tyX3 tyX3_ok nmX3 0 rfl rfl 5 (by decide) tm_197 rfl rfl rfl rfl rfl (Nat.le_of_ble_eq_true rfl) rfl dX3_takeSign_166 ?_
        have hf := (Option.some.inj hf)
        subst hf
        exact j_vretW (pc := 169) F dX3_takeSign_169 rfl
      · have hf := of_neg c_8 hf
        refine j_aload_n (pc := 105) F 1 dX3_takeSign_105 rfl rfl ?_
        refine j_iconst (pc := 106) F (v := 2) dX3_takeSign_106 rfl ?_
        refine jw_put (pc := 107) (w' := wD aD aT aR ra (up2 (up2 σD 0 5 z_2) 0 3 2) ++ wT aT cy σT) F hK ix_3 tyX3 tyX3_ok nmX3 0 rfl rfl 3 (by decide) tm_195 rfl rfl rfl rfl rfl (Nat.le_of_ble_eq_true rfl) rfl dX3_takeSign_107 ?_
        refine j_sub [1] rfl ?_
        exact b_X3_takeSign_110 F hK hS hA N (up2 (up2 σD 0 5 z_2) 0 3 2) hf
    · have hf := of_neg c_6 hf
      refine j_aload_n (pc := 49) F 1 dX3_takeSign_49 rfl rfl ?_
      refine j_iconst (pc := 50) F (v := 1) dX3_takeSign_50 rfl ?_
      refine jw_put (pc := 51) (w' := wD aD aT aR ra (up2 (up2 σD 0 5 z_2) 0 3 1) ++ wT aT cy σT) F hK ix_3 tyX3 tyX3_ok nmX3 0 rfl rfl 3 (by decide) tm_195 rfl rfl rfl rfl rfl (Nat.le_of_ble_eq_true rfl) rfl dX3_takeSign_51 ?_
      refine j_sub [1] rfl ?_
      exact b_X3_takeSign_54 F hK hS hA N (up2 (up2 σD 0 5 z_2) 0 3 1) hf
  · have hf := of_neg c_4 hf
    refine j_aload_n (pc := 34) F 1 dX3_takeSign_34 rfl rfl ?_
    refine j_iconst (pc := 35) F (v := 0) dX3_takeSign_35 rfl ?_
    refine jw_put (pc := 36) (w' := wD aD aT aR ra (up2 (up2 σD 0 5 z_2) 0 3 0) ++ wT aT cy σT) F hK ix_3 tyX3 tyX3_ok nmX3 0 rfl rfl 3 (by decide) tm_195 rfl rfl rfl rfl rfl (Nat.le_of_ble_eq_true rfl) rfl dX3_takeSign_36 ?_
    refine j_goto (pc := 39) F (tgt := 169) dX3_takeSign_39 rfl ?_
    have hf := (Option.some.inj hf)
    subst hf
    exact j_vretW (pc := 169) F dX3_takeSign_169 rfl
theorem cf_X3_takeSign : cfV yX3_takeSign cX3_takeSign 2 none 0 := ⟨tm_485, tm_3, tm_59, tm_486, by decide, by decide, by decide +kernel⟩

def f_X3_advance_76 (N : Nat) (σD : St2) (σT : St2) (y1 : Int32) (y2 : Int32) : Option (St2) := (f_X3_takeSign N σD σT).bind fun o_1 => if y1 = 0 then some o_1 else if (o_1 0 4) = y2 then if (o_1 0 3) = 1 then some (up2 o_1 0 3 3) else if (o_1 0 3) = 2 then some (up2 o_1 0 3 3) else some o_1 else some o_1
def f_X3_advance_32 (N : Nat) : Nat → St2 → St2 → Int32 → Int32 → Option (St2)
  | 0, _, _, _, _ => none
  | n + 1, σD, σT, y1, y2 => if (f_X6_size σT) ≤ (σD 0 4) then f_X3_advance_76 N σD σT y1 y2 else (f_X6_byteAt σT (σD 0 4)).bind fun o_3 => if (bI (f_X6_isBlank o_3)) = 0 then f_X3_advance_76 N σD σT y1 y2 else lt ((σD 0 4) + 1 : Int32) fun z_6 => f_X3_advance_32 N n (up2 σD 0 4 z_6) σT y1 y2
def f_X3_advance_21 (N : Nat) (σD : St2) (σT : St2) (t0 : Int32) : Option (St2) := lt (σD 0 5 : Int32) fun z_1 => f_X3_advance_32 N N (up2 σD 0 4 z_1) σT t0 (σD 0 5)
def f_X3_advance_16 (N : Nat) (σD : St2) (σT : St2) : Option (St2) := f_X3_advance_21 N σD σT 1
def f_X3_advance (N : Nat) (σD : St2) (σT : St2) : Option (St2) := if (σD 0 3) = 1 then f_X3_advance_16 N σD σT else if (σD 0 3) = 2 then f_X3_advance_16 N σD σT else f_X3_advance_21 N σD σT 0
set_option maxHeartbeats 4000000 in
set_option maxRecDepth 100000 in
theorem b_X3_advance_76 {l : Launch} {D : va_G} {cy : Nat → ClassId} {g : Gs} {p : Program} {e : Env} {s : State} {m : MethodId} {args : Array Value} {below : List Frame} {meth : Method} {c : Code} {A : Nat → Prop} {aD : Nat → Nat} {aT : Nat → Nat} {aR : Nat → Nat} {ra : Value} {σT : St2} {N : Nat} {out : St2} (F : Fx p s m args meth c cX3_advance RX3 3 none) (hK : va_K D vwCl (tys cy) s) (hS : St g A s s.heap) (hA : ∀ q, s.heap.size ≤ q → A q) :
    ∀ (σD : St2) (y1 : Int32) (y2 : Int32), f_X3_advance_76 N σD σT y1 y2 = some out → J p l e { frames := 2, cells := 0, slots := 0, locals := 42 } s m args below meth c 3 (hW D A s (wD aD aT aR ra σD ++ wT aT cy σT)) 0 0 (MQ below (QW D A none (wD aD aT aR ra out ++ wT aT cy σT)) args s 0 0 A) 76 [(0, .ref (aD 0)), (1, .int y1), (2, .int y2)] [] := by
  intro σD y1 y2 hf
  unfold f_X3_advance_76 at hf
  refine j_aload_n (pc := 76) F 0 dX3_advance_76 rfl rfl ?_
  obtain ⟨o_1, ho_1, hf⟩ := of_bnd hf
  refine j_callWs (pc := 77) (st := []) (st1 := []) (w' := wD aD aT aR ra o_1 ++ wT aT cy σT) F hK hS hA (c_X3_takeSign (l := l) (D := D) (cy := cy) (g := g) (aD := aD) (aT := aT) (aR := aR) (ra := ra) ho_1) tm_483 cf_X3_takeSign (Nat.le_of_ble_eq_true rfl) (Nat.le_of_ble_eq_true rfl) ⟨Nat.zero_le _, Nat.zero_le _⟩ 0 rfl rfl rfl rfl rfl (Nat.le_of_ble_eq_true rfl) rfl dX3_advance_77 ?_
  refine j_iload_n (pc := 80) F 1 dX3_advance_80 rfl rfl ?_
  refine j_if_eq (pc := 81) (tgt := 113) F dX3_advance_81 rfl (fun c_2 => ?_) (fun c_2 => ?_)
  · have hf := of_pos c_2 hf
    have hf := (Option.some.inj hf)
    subst hf
    exact j_vretW (pc := 113) F dX3_advance_113 rfl
  · have hf := of_neg c_2 hf
    refine j_aload_n (pc := 84) F 0 dX3_advance_84 rfl rfl ?_
    refine jw_get (pc := 85) (v := .int (o_1 0 4)) F hK ix_3 0 rfl rfl 4 (by decide) tm_196 rfl rfl dX3_advance_85 ?_
    refine j_iload_n (pc := 88) F 2 dX3_advance_88 rfl rfl ?_
    refine j_icmp_ne (pc := 89) (tgt := 113) F dX3_advance_89 rfl (fun c_3 => ?_) (fun c_3 => ?_)
    · have hf := of_neg c_3 hf
      have hf := (Option.some.inj hf)
      subst hf
      exact j_vretW (pc := 113) F dX3_advance_113 rfl
    · have hf := of_pos c_3 hf
      refine j_aload_n (pc := 92) F 0 dX3_advance_92 rfl rfl ?_
      refine jw_get (pc := 93) (v := .int (o_1 0 3)) F hK ix_3 0 rfl rfl 3 (by decide) tm_195 rfl rfl dX3_advance_93 ?_
      refine j_iconst (pc := 96) F (v := 1) dX3_advance_96 rfl ?_
      refine j_icmp_eq (pc := 97) (tgt := 108) F dX3_advance_97 rfl (fun c_4 => ?_) (fun c_4 => ?_)
      · have hf := of_pos c_4 hf
        refine j_aload_n (pc := 108) F 0 dX3_advance_108 rfl rfl ?_
        refine j_iconst (pc := 109) F (v := 3) dX3_advance_109 rfl ?_
        refine jw_put (pc := 110) (w' := wD aD aT aR ra (up2 o_1 0 3 3) ++ wT aT cy σT) F hK ix_3 tyX3 tyX3_ok nmX3 0 rfl rfl 3 (by decide) tm_195 rfl rfl rfl rfl rfl (Nat.le_of_ble_eq_true rfl) rfl dX3_advance_110 ?_
        have hf := (Option.some.inj hf)
        subst hf
        exact j_vretW (pc := 113) F dX3_advance_113 rfl
      · have hf := of_neg c_4 hf
        refine j_aload_n (pc := 100) F 0 dX3_advance_100 rfl rfl ?_
        refine jw_get (pc := 101) (v := .int (o_1 0 3)) F hK ix_3 0 rfl rfl 3 (by decide) tm_195 rfl rfl dX3_advance_101 ?_
        refine j_iconst (pc := 104) F (v := 2) dX3_advance_104 rfl ?_
        refine j_icmp_ne (pc := 105) (tgt := 113) F dX3_advance_105 rfl (fun c_5 => ?_) (fun c_5 => ?_)
        · have hf := of_neg c_5 hf
          have hf := (Option.some.inj hf)
          subst hf
          exact j_vretW (pc := 113) F dX3_advance_113 rfl
        · have hf := of_pos c_5 hf
          refine j_aload_n (pc := 108) F 0 dX3_advance_108 rfl rfl ?_
          refine j_iconst (pc := 109) F (v := 3) dX3_advance_109 rfl ?_
          refine jw_put (pc := 110) (w' := wD aD aT aR ra (up2 o_1 0 3 3) ++ wT aT cy σT) F hK ix_3 tyX3 tyX3_ok nmX3 0 rfl rfl 3 (by decide) tm_195 rfl rfl rfl rfl rfl (Nat.le_of_ble_eq_true rfl) rfl dX3_advance_110 ?_
          have hf := (Option.some.inj hf)
          subst hf
          exact j_vretW (pc := 113) F dX3_advance_113 rfl
set_option maxHeartbeats 4000000 in
set_option maxRecDepth 100000 in
theorem b_X3_advance_32 {l : Launch} {D : va_G} {cy : Nat → ClassId} {g : Gs} {p : Program} {e : Env} {s : State} {m : MethodId} {args : Array Value} {below : List Frame} {meth : Method} {c : Code} {A : Nat → Prop} {aD : Nat → Nat} {aT : Nat → Nat} {aR : Nat → Nat} {ra : Value} {σT : St2} {N : Nat} {out : St2} (F : Fx p s m args meth c cX3_advance RX3 3 none) (hK : va_K D vwCl (tys cy) s) (hS : St g A s s.heap) (hA : ∀ q, s.heap.size ≤ q → A q) :
    ∀ (n : Nat) (σD : St2) (y1 : Int32) (y2 : Int32), f_X3_advance_32 N n σD σT y1 y2 = some out → J p l e { frames := 2, cells := 0, slots := 0, locals := 42 } s m args below meth c 3 (hW D A s (wD aD aT aR ra σD ++ wT aT cy σT)) 0 0 (MQ below (QW D A none (wD aD aT aR ra out ++ wT aT cy σT)) args s 0 0 A) 32 [(0, .ref (aD 0)), (1, .int y1), (2, .int y2)] [] := by
  intro n
  induction n with
  | zero =>
    intro σD y1 y2 hf
    cases hf
  | succ n ih =>
    intro σD y1 y2 hf
    rw [f_X3_advance_32] at hf
    refine j_aload_n (pc := 32) F 0 dX3_advance_32 rfl rfl ?_
    refine jw_get (pc := 33) (v := .int (σD 0 4)) F hK ix_3 0 rfl rfl 4 (by decide) tm_196 rfl rfl dX3_advance_33 ?_
    refine j_aload_n (pc := 36) F 0 dX3_advance_36 rfl rfl ?_
    refine jw_get (pc := 37) (v := .ref (aT 0)) F hK ix_3 0 rfl rfl 0 (by decide) tm_192 rfl rfl dX3_advance_37 ?_
    refine j_callRV (pc := 40) (st := [.int (σD 0 4)]) (st1 := [.int (f_X6_size σT), .int (σD 0 4)]) F hK (hpW hS (hp_sub [1, 2] rfl)) (c_X6_size (l := l) (D := D) (cy := cy) (g := g) (aT := aT) (rfl : f_X6_size σT = _)) tm_478 cf_X6_size (Nat.le_of_ble_eq_true rfl) (Nat.le_of_ble_eq_true rfl) ⟨Nat.zero_le _, Nat.zero_le _⟩ 0 rfl rfl rfl rfl rfl (Nat.le_of_ble_eq_true rfl) rfl dX3_advance_40 ?_
    refine j_icmp_ge (pc := 43) (tgt := 76) F dX3_advance_43 rfl (fun c_2 => ?_) (fun c_2 => ?_)
    · have hf := of_pos c_2 hf
      exact b_X3_advance_76 F hK hS hA σD y1 y2 hf
    · have hf := of_neg c_2 hf
      refine j_aload_n (pc := 46) F 0 dX3_advance_46 rfl rfl ?_
      refine jw_get (pc := 47) (v := .ref (aT 0)) F hK ix_3 0 rfl rfl 0 (by decide) tm_192 rfl rfl dX3_advance_47 ?_
      refine j_aload_n (pc := 50) F 0 dX3_advance_50 rfl rfl ?_
      refine jw_get (pc := 51) (v := .int (σD 0 4)) F hK ix_3 0 rfl rfl 4 (by decide) tm_196 rfl rfl dX3_advance_51 ?_
      obtain ⟨o_3, ho_3, hf⟩ := of_bnd hf
      refine j_callRV (pc := 54) (st := []) (st1 := [.int o_3]) F hK (hpW hS (hp_sub [1, 2] rfl)) (c_X6_byteAt (l := l) (D := D) (cy := cy) (g := g) (aT := aT) ho_3) tm_479 cf_X6_byteAt (Nat.le_of_ble_eq_true rfl) (Nat.le_of_ble_eq_true rfl) ⟨Nat.zero_le _, Nat.zero_le _⟩ 0 rfl rfl rfl rfl rfl (Nat.le_of_ble_eq_true rfl) rfl dX3_advance_54 ?_
      refine j_callRS (pc := 57) (st := []) (st1 := [.int (bI (f_X6_isBlank o_3))]) F hK (hpW hS hp_nil) (c_X6_isBlank (l := l) (D := D) (cy := cy) (g := g) (rfl : f_X6_isBlank o_3 = _)) tm_480 cf_X6_isBlank (Nat.le_of_ble_eq_true rfl) (Nat.le_of_ble_eq_true rfl) ⟨Nat.zero_le _, Nat.zero_le _⟩ rfl rfl (Nat.le_of_ble_eq_true rfl) rfl dX3_advance_57 ?_
      refine j_if_eq (pc := 60) (tgt := 76) F dX3_advance_60 rfl (fun c_5 => ?_) (fun c_5 => ?_)
      · have hf := of_pos c_5 hf
        exact b_X3_advance_76 F hK hS hA σD y1 y2 hf
      · have hf := of_neg c_5 hf
        refine j_aload_n (pc := 63) F 0 dX3_advance_63 rfl rfl ?_
        refine j_dup (pc := 64) F dX3_advance_64 rfl ?_
        refine jw_get (pc := 65) (v := .int (σD 0 4)) F hK ix_3 0 rfl rfl 4 (by decide) tm_196 rfl rfl dX3_advance_65 ?_
        refine j_iconst (pc := 68) F (v := 1) dX3_advance_68 rfl ?_
        refine j_iadd (pc := 69) F dX3_advance_69 ?_
        obtain ⟨z_6, ez_6, hf⟩ := of_lt hf
        refine j_topi ez_6 ?_
        refine jw_put (pc := 70) (w' := wD aD aT aR ra (up2 σD 0 4 z_6) ++ wT aT cy σT) F hK ix_3 tyX3 tyX3_ok nmX3 0 rfl rfl 4 (by decide) tm_196 rfl rfl rfl rfl rfl (Nat.le_of_ble_eq_true rfl) rfl dX3_advance_70 ?_
        refine j_goto (pc := 73) F (tgt := 32) dX3_advance_73 rfl ?_
        exact ih (up2 σD 0 4 z_6) y1 y2 hf
set_option maxHeartbeats 4000000 in
set_option maxRecDepth 100000 in
theorem b_X3_advance_21 {l : Launch} {D : va_G} {cy : Nat → ClassId} {g : Gs} {p : Program} {e : Env} {s : State} {m : MethodId} {args : Array Value} {below : List Frame} {meth : Method} {c : Code} {A : Nat → Prop} {aD : Nat → Nat} {aT : Nat → Nat} {aR : Nat → Nat} {ra : Value} {σT : St2} {N : Nat} {out : St2} (F : Fx p s m args meth c cX3_advance RX3 3 none) (hK : va_K D vwCl (tys cy) s) (hS : St g A s s.heap) (hA : ∀ q, s.heap.size ≤ q → A q) :
    ∀ (σD : St2) (t0 : Int32), f_X3_advance_21 N σD σT t0 = some out → J p l e { frames := 2, cells := 0, slots := 0, locals := 42 } s m args below meth c 3 (hW D A s (wD aD aT aR ra σD ++ wT aT cy σT)) 0 0 (MQ below (QW D A none (wD aD aT aR ra out ++ wT aT cy σT)) args s 0 0 A) 21 [(0, .ref (aD 0))] [.int t0] := by
  intro σD t0 hf
  unfold f_X3_advance_21 at hf
  refine j_istore_n (pc := 21) (lv' := [(1, .int t0), (0, .ref (aD 0))]) F dX3_advance_21 rfl (by decide) rfl ?_
  refine j_aload_n (pc := 22) F 1 dX3_advance_22 rfl rfl ?_
  refine jw_get (pc := 23) (v := .int (σD 0 5)) F hK ix_3 0 rfl rfl 5 (by decide) tm_197 rfl rfl dX3_advance_23 ?_
  refine j_istore_n (pc := 26) (lv' := [(2, .int (σD 0 5)), (1, .int t0), (0, .ref (aD 0))]) F dX3_advance_26 rfl (by decide) rfl ?_
  refine j_aload_n (pc := 27) F 2 dX3_advance_27 rfl rfl ?_
  refine j_iload_n (pc := 28) F 0 dX3_advance_28 rfl rfl ?_
  obtain ⟨z_1, ez_1, hf⟩ := of_lt hf
  refine j_topi ez_1 ?_
  refine jw_put (pc := 29) (w' := wD aD aT aR ra (up2 σD 0 4 z_1) ++ wT aT cy σT) F hK ix_3 tyX3 tyX3_ok nmX3 0 rfl rfl 4 (by decide) tm_196 rfl rfl rfl rfl rfl (Nat.le_of_ble_eq_true rfl) rfl dX3_advance_29 ?_
  refine j_sub [2, 1, 0] rfl ?_
  exact b_X3_advance_32 F hK hS hA N (up2 σD 0 4 z_1) t0 (σD 0 5) hf
set_option maxHeartbeats 4000000 in
set_option maxRecDepth 100000 in
theorem b_X3_advance_16 {l : Launch} {D : va_G} {cy : Nat → ClassId} {g : Gs} {p : Program} {e : Env} {s : State} {m : MethodId} {args : Array Value} {below : List Frame} {meth : Method} {c : Code} {A : Nat → Prop} {aD : Nat → Nat} {aT : Nat → Nat} {aR : Nat → Nat} {ra : Value} {σT : St2} {N : Nat} {out : St2} (F : Fx p s m args meth c cX3_advance RX3 3 none) (hK : va_K D vwCl (tys cy) s) (hS : St g A s s.heap) (hA : ∀ q, s.heap.size ≤ q → A q) :
    ∀ (σD : St2), f_X3_advance_16 N σD σT = some out → J p l e { frames := 2, cells := 0, slots := 0, locals := 42 } s m args below meth c 3 (hW D A s (wD aD aT aR ra σD ++ wT aT cy σT)) 0 0 (MQ below (QW D A none (wD aD aT aR ra out ++ wT aT cy σT)) args s 0 0 A) 16 [(0, .ref (aD 0))] [] := by
  intro σD hf
  unfold f_X3_advance_16 at hf
  refine j_iconst (pc := 16) F (v := 1) dX3_advance_16 rfl ?_
  refine j_goto (pc := 17) F (tgt := 21) dX3_advance_17 rfl ?_
  exact b_X3_advance_21 F hK hS hA σD 1 hf
set_option maxHeartbeats 4000000 in
set_option maxRecDepth 100000 in
theorem c_X3_advance {l : Launch} {D : va_G} {cy : Nat → ClassId} {g : Gs} {aD : Nat → Nat} {aT : Nat → Nat} {aR : Nat → Nat} {ra : Value} {σD : St2} {σT : St2} {N : Nat} {out : St2} (hf : f_X3_advance N σD σT = some out) : CW l D cy g yX3_advance cX3_advance 3 none 2 42 (wD aD aT aR ra σD ++ wT aT cy σT) [.ref (aD 0)] none (wD aD aT aR ra out ++ wT aT cy σT) := by
  unfold f_X3_advance at hf
  refine met_W (lv := [(0, .ref (aD 0))]) (by decide) (Nat.le_of_ble_eq_true rfl) rfl ?_
  intro p e s m args below meth c A F hK hS hA
  refine j_aload_n (pc := 0) F 0 dX3_advance_0 rfl rfl ?_
  refine jw_get (pc := 1) (v := .int (σD 0 3)) F hK ix_3 0 rfl rfl 3 (by decide) tm_195 rfl rfl dX3_advance_1 ?_
  refine j_iconst (pc := 4) F (v := 1) dX3_advance_4 rfl ?_
  refine j_icmp_eq (pc := 5) (tgt := 16) F dX3_advance_5 rfl (fun c_1 => ?_) (fun c_1 => ?_)
  · have hf := of_pos c_1 hf
    exact b_X3_advance_16 F hK hS hA σD hf
  · have hf := of_neg c_1 hf
    refine j_aload_n (pc := 8) F 0 dX3_advance_8 rfl rfl ?_
    refine jw_get (pc := 9) (v := .int (σD 0 3)) F hK ix_3 0 rfl rfl 3 (by decide) tm_195 rfl rfl dX3_advance_9 ?_
    refine j_iconst (pc := 12) F (v := 2) dX3_advance_12 rfl ?_
    refine j_icmp_ne (pc := 13) (tgt := 20) F dX3_advance_13 rfl (fun c_2 => ?_) (fun c_2 => ?_)
    · have hf := of_neg c_2 hf
      refine j_iconst (pc := 20) F (v := 0) dX3_advance_20 rfl ?_
      exact b_X3_advance_21 F hK hS hA σD 0 hf
    · have hf := of_pos c_2 hf
      exact b_X3_advance_16 F hK hS hA σD hf
theorem cf_X3_advance : cfV yX3_advance cX3_advance 3 none 0 := ⟨tm_476, tm_2, tm_59, tm_477, by decide, by decide, by decide +kernel⟩

def f_X3_isWord_28 (kw : Nat) (N : Nat) : Nat → St2 → St2 → Int32 → Option (Bool)
  | 0, _, _, _ => none
  | n + 1, σD, σT, y2 => if (nI (lenS.getD kw 0)) ≤ y2 then some true else (f_X6_byteAt σT ((σD 0 4) + y2)).bind fun o_2 => if y2 < 0 ∨ lenS.getD kw 0 ≤ Int32.toNatClampNeg y2 then none else if o_2 = (sCh kw (Int32.toNatClampNeg y2)) then f_X3_isWord_28 kw N n σD σT (y2 + 1) else some false
def f_X3_isWord (N : Nat) (σD : St2) (σT : St2) (kw : Nat) : Option (Bool) := if (σD 0 3) = 1 then if ((σD 0 5) - (σD 0 4)) = (nI (lenS.getD kw 0)) then f_X3_isWord_28 kw N N σD σT 0 else some false else some false
set_option maxHeartbeats 4000000 in
set_option maxRecDepth 100000 in
theorem b_X3_isWord_28 {l : Launch} {D : va_G} {cy : Nat → ClassId} {g : Gs} {p : Program} {e : Env} {s : State} {m : MethodId} {args : Array Value} {below : List Frame} {meth : Method} {c : Code} {aD : Nat → Nat} {aT : Nat → Nat} {aR : Nat → Nat} {ra : Value}  {σD : St2} {σT : St2} {N : Nat} {out : Bool} {kw : Nat} (hkw : kw < 16) (F : Fx p s m args meth c cX3_isWord RX3 3 (some .boolean)) (hP : va_P D vwCl (wD aD aT aR ra σD ++ wT aT cy σT) s.heap) (hK : va_K D vwCl (tys cy) s) (hS : St g nA s s.heap) :
    ∀ (n : Nat) (y2 : Int32), f_X3_isWord_28 kw N n σD σT y2 = some out → J p l e { frames := 4, cells := 0, slots := 0, locals := 85 } s m args below meth c 3 (hR s) 0 0 (MQ below (QR (some (.int (bI out)))) args s 0 0 nA) 28 [(0, .ref (aD 0)), (1, .ref (g.2.1 kw)), (2, .int y2)] [] := by
  intro n
  induction n with
  | zero =>
    intro y2 hf
    cases hf
  | succ n ih =>
    intro y2 hf
    rw [f_X3_isWord_28] at hf
    refine j_iload_n (pc := 28) F 2 dX3_isWord_28 rfl rfl ?_
    refine j_aload_n (pc := 29) F 1 dX3_isWord_29 rfl rfl ?_
    refine j_callRVq (pc := 30) (st := [.int y2]) (st1 := [.int (nI (lenS.getD kw 0)), .int y2]) F hK (hpR hP hS hp_nil) (c_J0_length (l := l) (D := D) (cy := cy) (g := g) hkw) tm_500 cf_J0_length (Nat.le_of_ble_eq_true rfl) (Nat.le_of_ble_eq_true rfl) ⟨Nat.zero_le _, Nat.zero_le _⟩ (rcS hkw hS) rfl rfl (Nat.le_of_ble_eq_true rfl) rfl dX3_isWord_30 ?_
    refine j_icmp_ge (pc := 33) (tgt := 65) F dX3_isWord_33 rfl (fun c_1 => ?_) (fun c_1 => ?_)
    · have hf := of_pos c_1 hf
      refine j_iconst (pc := 65) F (v := 1) dX3_isWord_65 rfl ?_
      exact j_zretR (pc := 66) F dX3_isWord_66 (congrArg bI (Option.some.inj hf))
    · have hf := of_neg c_1 hf
      refine j_aload_n (pc := 36) F 0 dX3_isWord_36 rfl rfl ?_
      refine jr_get (pc := 37) (v := .ref (aT 0)) F hK hP ix_3 0 rfl rfl 0 (by decide) tm_192 rfl rfl dX3_isWord_37 ?_
      refine j_aload_n (pc := 40) F 0 dX3_isWord_40 rfl rfl ?_
      refine jr_get (pc := 41) (v := .int (σD 0 4)) F hK hP ix_3 0 rfl rfl 4 (by decide) tm_196 rfl rfl dX3_isWord_41 ?_
      refine j_iload_n (pc := 44) F 2 dX3_isWord_44 rfl rfl ?_
      refine j_iadd (pc := 45) F dX3_isWord_45 ?_
      obtain ⟨o_2, ho_2, hf⟩ := of_bnd hf
      refine j_callRV (pc := 46) (st := []) (st1 := [.int o_2]) F hK (hpR hP hS (hp_sub [1, 2] rfl)) (c_X6_byteAt (l := l) (D := D) (cy := cy) (g := g) (aT := aT) ho_2) tm_479 cf_X6_byteAt (Nat.le_of_ble_eq_true rfl) (Nat.le_of_ble_eq_true rfl) ⟨Nat.zero_le _, Nat.zero_le _⟩ 0 rfl rfl rfl rfl rfl (Nat.le_of_ble_eq_true rfl) rfl dX3_isWord_46 ?_
      refine j_aload_n (pc := 49) F 1 dX3_isWord_49 rfl rfl ?_
      refine j_iload_n (pc := 50) F 2 dX3_isWord_50 rfl rfl ?_
      have c_3 : ¬ (y2 < 0 ∨ lenS.getD kw 0 ≤ Int32.toNatClampNeg y2) := fun z => by rw [if_pos z] at hf; cases hf
      have hf := of_neg c_3 hf
      refine j_callRVq (pc := 51) (st := [.int o_2]) (st1 := [.int (sCh kw (Int32.toNatClampNeg y2)), .int o_2]) F hK (hpR hP hS hp_nil) (c_J0_charAt (l := l) (D := D) (cy := cy) (g := g) hkw c_3) tm_510 cf_J0_charAt (Nat.le_of_ble_eq_true rfl) (Nat.le_of_ble_eq_true rfl) ⟨Nat.zero_le _, Nat.zero_le _⟩ (rcS hkw hS) rfl rfl (Nat.le_of_ble_eq_true rfl) rfl dX3_isWord_51 ?_
      refine j_icmp_eq (pc := 54) (tgt := 59) F dX3_isWord_54 rfl (fun c_4 => ?_) (fun c_4 => ?_)
      · have hf := of_pos c_4 hf
        refine j_iinc (pc := 59) (v := y2 + 1) (lv' := [(2, .int (y2 + 1)), (0, .ref (aD 0)), (1, .ref (g.2.1 kw))]) F 2 dX3_isWord_59 rfl rfl (by decide) rfl ?_
        refine j_goto (pc := 62) F (tgt := 28) dX3_isWord_62 rfl ?_
        refine j_sub [1, 2, 0] rfl ?_
        exact ih (y2 + 1) hf
      · have hf := of_neg c_4 hf
        refine j_iconst (pc := 57) F (v := 0) dX3_isWord_57 rfl ?_
        exact j_zretR (pc := 58) F dX3_isWord_58 (congrArg bI (Option.some.inj hf))
set_option maxHeartbeats 4000000 in
set_option maxRecDepth 100000 in
theorem c_X3_isWord {l : Launch} {D : va_G} {cy : Nat → ClassId} {g : Gs} {aD : Nat → Nat} {aT : Nat → Nat} {aR : Nat → Nat} {ra : Value}  {σD : St2} {σT : St2} {N : Nat} {out : Bool} {kw : Nat} (hkw : kw < 16) (hf : f_X3_isWord N σD σT kw = some out) : CR l D cy g yX3_isWord cX3_isWord 3 (some .boolean) 4 85 (wD aD aT aR ra σD ++ wT aT cy σT) [.ref (aD 0), .ref (g.2.1 kw)] (some (.int (bI out))) := by
  unfold f_X3_isWord at hf
  refine met_R (lv := [(0, .ref (aD 0)), (1, .ref (g.2.1 kw))]) (by decide) (Nat.le_of_ble_eq_true rfl) rfl ?_
  intro p e s m args below meth c F hP hK hS
  refine j_aload_n (pc := 0) F 0 dX3_isWord_0 rfl rfl ?_
  refine jr_get (pc := 1) (v := .int (σD 0 3)) F hK hP ix_3 0 rfl rfl 3 (by decide) tm_195 rfl rfl dX3_isWord_1 ?_
  refine j_iconst (pc := 4) F (v := 1) dX3_isWord_4 rfl ?_
  refine j_icmp_ne (pc := 5) (tgt := 24) F dX3_isWord_5 rfl (fun c_1 => ?_) (fun c_1 => ?_)
  · have hf := of_neg c_1 hf
    refine j_iconst (pc := 24) F (v := 0) dX3_isWord_24 rfl ?_
    exact j_zretR (pc := 25) F dX3_isWord_25 (congrArg bI (Option.some.inj hf))
  · have hf := of_pos c_1 hf
    refine j_aload_n (pc := 8) F 0 dX3_isWord_8 rfl rfl ?_
    refine jr_get (pc := 9) (v := .int (σD 0 5)) F hK hP ix_3 0 rfl rfl 5 (by decide) tm_197 rfl rfl dX3_isWord_9 ?_
    refine j_aload_n (pc := 12) F 0 dX3_isWord_12 rfl rfl ?_
    refine jr_get (pc := 13) (v := .int (σD 0 4)) F hK hP ix_3 0 rfl rfl 4 (by decide) tm_196 rfl rfl dX3_isWord_13 ?_
    refine j_isub (pc := 16) F dX3_isWord_16 ?_
    refine j_aload_n (pc := 17) F 1 dX3_isWord_17 rfl rfl ?_
    refine j_callRVq (pc := 18) (st := [.int ((σD 0 5) - (σD 0 4))]) (st1 := [.int (nI (lenS.getD kw 0)), .int ((σD 0 5) - (σD 0 4))]) F hK (hpR hP hS hp_nil) (c_J0_length (l := l) (D := D) (cy := cy) (g := g) hkw) tm_500 cf_J0_length (Nat.le_of_ble_eq_true rfl) (Nat.le_of_ble_eq_true rfl) ⟨Nat.zero_le _, Nat.zero_le _⟩ (rcS hkw hS) rfl rfl (Nat.le_of_ble_eq_true rfl) rfl dX3_isWord_18 ?_
    refine j_icmp_eq (pc := 21) (tgt := 26) F dX3_isWord_21 rfl (fun c_2 => ?_) (fun c_2 => ?_)
    · have hf := of_pos c_2 hf
      refine j_iconst (pc := 26) F (v := 0) dX3_isWord_26 rfl ?_
      refine j_istore_n (pc := 27) (lv' := [(2, .int 0), (0, .ref (aD 0)), (1, .ref (g.2.1 kw))]) F dX3_isWord_27 rfl (by decide) rfl ?_
      refine j_sub [1, 2, 0] rfl ?_
      exact b_X3_isWord_28 hkw F hP hK hS N 0 hf
    · have hf := of_neg c_2 hf
      refine j_iconst (pc := 24) F (v := 0) dX3_isWord_24 rfl ?_
      exact j_zretR (pc := 25) F dX3_isWord_25 (congrArg bI (Option.some.inj hf))
theorem cf_X3_isWord : cfV yX3_isWord cX3_isWord 3 (some .boolean) 1 := ⟨tm_498, tm_5, tm_59, tm_499, by decide, by decide, by decide +kernel⟩

def f_X3_sunKind (N : Nat) (σD : St2) (σT : St2) : Option (Int32) := (f_X3_isWord N σD σT 2).bind fun o_1 => if (bI o_1) = 0 then (f_X3_isWord N σD σT 3).bind fun o_3 => if (bI o_3) = 0 then (f_X3_isWord N σD σT 4).bind fun o_5 => if (bI o_5) = 0 then some 0 else some 3 else some 2 else some 1
set_option maxHeartbeats 4000000 in
set_option maxRecDepth 100000 in
theorem c_X3_sunKind {l : Launch} {D : va_G} {cy : Nat → ClassId} {g : Gs} {aD : Nat → Nat} {aT : Nat → Nat} {aR : Nat → Nat} {ra : Value} {σD : St2} {σT : St2} {N : Nat} {out : Int32} (hf : f_X3_sunKind N σD σT = some out) : CR l D cy g yX3_sunKind cX3_sunKind 1 (some .int) 5 107 (wD aD aT aR ra σD ++ wT aT cy σT) [.ref (aD 0)] (some (.int out)) := by
  unfold f_X3_sunKind at hf
  refine met_R (lv := [(0, .ref (aD 0))]) (by decide) (Nat.le_of_ble_eq_true rfl) rfl ?_
  intro p e s m args below meth c F hP hK hS
  refine j_aload_n (pc := 0) F 0 dX3_sunKind_0 rfl rfl ?_
  refine jr_ldcS (pc := 1) F hS 2 (by decide) rfl dX3_sunKind_1 ?_
  obtain ⟨o_1, ho_1, hf⟩ := of_bnd hf
  refine j_callRV (pc := 3) (st := []) (st1 := [.int (bI o_1)]) F hK (hpR hP hS hp_id) (c_X3_isWord (l := l) (D := D) (cy := cy) (g := g) (aD := aD) (aT := aT) (aR := aR) (ra := ra) (hkw := by decide) ho_1) tm_496 cf_X3_isWord (Nat.le_of_ble_eq_true rfl) (Nat.le_of_ble_eq_true rfl) ⟨Nat.zero_le _, Nat.zero_le _⟩ 0 rfl rfl rfl rfl rfl (Nat.le_of_ble_eq_true rfl) rfl dX3_sunKind_3 ?_
  refine j_if_eq (pc := 6) (tgt := 11) F dX3_sunKind_6 rfl (fun c_2 => ?_) (fun c_2 => ?_)
  · have hf := of_pos c_2 hf
    refine j_aload_n (pc := 11) F 0 dX3_sunKind_11 rfl rfl ?_
    refine jr_ldcS (pc := 12) F hS 3 (by decide) rfl dX3_sunKind_12 ?_
    obtain ⟨o_3, ho_3, hf⟩ := of_bnd hf
    refine j_callRV (pc := 14) (st := []) (st1 := [.int (bI o_3)]) F hK (hpR hP hS hp_id) (c_X3_isWord (l := l) (D := D) (cy := cy) (g := g) (aD := aD) (aT := aT) (aR := aR) (ra := ra) (hkw := by decide) ho_3) tm_496 cf_X3_isWord (Nat.le_of_ble_eq_true rfl) (Nat.le_of_ble_eq_true rfl) ⟨Nat.zero_le _, Nat.zero_le _⟩ 0 rfl rfl rfl rfl rfl (Nat.le_of_ble_eq_true rfl) rfl dX3_sunKind_14 ?_
    refine j_if_eq (pc := 17) (tgt := 22) F dX3_sunKind_17 rfl (fun c_4 => ?_) (fun c_4 => ?_)
    · have hf := of_pos c_4 hf
      refine j_aload_n (pc := 22) F 0 dX3_sunKind_22 rfl rfl ?_
      refine jr_ldcS (pc := 23) F hS 4 (by decide) rfl dX3_sunKind_23 ?_
      obtain ⟨o_5, ho_5, hf⟩ := of_bnd hf
      refine j_callRV (pc := 25) (st := []) (st1 := [.int (bI o_5)]) F hK (hpR hP hS hp_id) (c_X3_isWord (l := l) (D := D) (cy := cy) (g := g) (aD := aD) (aT := aT) (aR := aR) (ra := ra) (hkw := by decide) ho_5) tm_496 cf_X3_isWord (Nat.le_of_ble_eq_true rfl) (Nat.le_of_ble_eq_true rfl) ⟨Nat.zero_le _, Nat.zero_le _⟩ 0 rfl rfl rfl rfl rfl (Nat.le_of_ble_eq_true rfl) rfl dX3_sunKind_25 ?_
      refine j_if_eq (pc := 28) (tgt := 35) F dX3_sunKind_28 rfl (fun c_6 => ?_) (fun c_6 => ?_)
      · have hf := of_pos c_6 hf
        refine j_iconst (pc := 35) F (v := 0) dX3_sunKind_35 rfl ?_
        exact j_iretR (pc := 36) F dX3_sunKind_36 (Option.some.inj hf)
      · have hf := of_neg c_6 hf
        refine j_iconst (pc := 31) F (v := 3) dX3_sunKind_31 rfl ?_
        refine j_goto (pc := 32) F (tgt := 36) dX3_sunKind_32 rfl ?_
        exact j_iretR (pc := 36) F dX3_sunKind_36 (Option.some.inj hf)
    · have hf := of_neg c_4 hf
      refine j_iconst (pc := 20) F (v := 2) dX3_sunKind_20 rfl ?_
      exact j_iretR (pc := 21) F dX3_sunKind_21 (Option.some.inj hf)
  · have hf := of_neg c_2 hf
    refine j_iconst (pc := 9) F (v := 1) dX3_sunKind_9 rfl ?_
    exact j_iretR (pc := 10) F dX3_sunKind_10 (Option.some.inj hf)
theorem cf_X3_sunKind : cfV yX3_sunKind cX3_sunKind 1 (some .int) 0 := ⟨tm_555, tm_7, tm_59, tm_556, by decide, by decide, by decide +kernel⟩

def f_X3_moonKind (N : Nat) (σD : St2) (σT : St2) : Option (Int32) := (f_X3_isWord N σD σT 5).bind fun o_1 => if (bI o_1) = 0 then (f_X3_isWord N σD σT 6).bind fun o_3 => if (bI o_3) = 0 then some 0 else some 5 else some 4
set_option maxHeartbeats 4000000 in
set_option maxRecDepth 100000 in
theorem c_X3_moonKind {l : Launch} {D : va_G} {cy : Nat → ClassId} {g : Gs} {aD : Nat → Nat} {aT : Nat → Nat} {aR : Nat → Nat} {ra : Value} {σD : St2} {σT : St2} {N : Nat} {out : Int32} (hf : f_X3_moonKind N σD σT = some out) : CR l D cy g yX3_moonKind cX3_moonKind 1 (some .int) 5 107 (wD aD aT aR ra σD ++ wT aT cy σT) [.ref (aD 0)] (some (.int out)) := by
  unfold f_X3_moonKind at hf
  refine met_R (lv := [(0, .ref (aD 0))]) (by decide) (Nat.le_of_ble_eq_true rfl) rfl ?_
  intro p e s m args below meth c F hP hK hS
  refine j_aload_n (pc := 0) F 0 dX3_moonKind_0 rfl rfl ?_
  refine jr_ldcS (pc := 1) F hS 5 (by decide) rfl dX3_moonKind_1 ?_
  obtain ⟨o_1, ho_1, hf⟩ := of_bnd hf
  refine j_callRV (pc := 3) (st := []) (st1 := [.int (bI o_1)]) F hK (hpR hP hS hp_id) (c_X3_isWord (l := l) (D := D) (cy := cy) (g := g) (aD := aD) (aT := aT) (aR := aR) (ra := ra) (hkw := by decide) ho_1) tm_496 cf_X3_isWord (Nat.le_of_ble_eq_true rfl) (Nat.le_of_ble_eq_true rfl) ⟨Nat.zero_le _, Nat.zero_le _⟩ 0 rfl rfl rfl rfl rfl (Nat.le_of_ble_eq_true rfl) rfl dX3_moonKind_3 ?_
  refine j_if_eq (pc := 6) (tgt := 11) F dX3_moonKind_6 rfl (fun c_2 => ?_) (fun c_2 => ?_)
  · have hf := of_pos c_2 hf
    refine j_aload_n (pc := 11) F 0 dX3_moonKind_11 rfl rfl ?_
    refine jr_ldcS (pc := 12) F hS 6 (by decide) rfl dX3_moonKind_12 ?_
    obtain ⟨o_3, ho_3, hf⟩ := of_bnd hf
    refine j_callRV (pc := 14) (st := []) (st1 := [.int (bI o_3)]) F hK (hpR hP hS hp_id) (c_X3_isWord (l := l) (D := D) (cy := cy) (g := g) (aD := aD) (aT := aT) (aR := aR) (ra := ra) (hkw := by decide) ho_3) tm_496 cf_X3_isWord (Nat.le_of_ble_eq_true rfl) (Nat.le_of_ble_eq_true rfl) ⟨Nat.zero_le _, Nat.zero_le _⟩ 0 rfl rfl rfl rfl rfl (Nat.le_of_ble_eq_true rfl) rfl dX3_moonKind_14 ?_
    refine j_if_eq (pc := 17) (tgt := 24) F dX3_moonKind_17 rfl (fun c_4 => ?_) (fun c_4 => ?_)
    · have hf := of_pos c_4 hf
      refine j_iconst (pc := 24) F (v := 0) dX3_moonKind_24 rfl ?_
      exact j_iretR (pc := 25) F dX3_moonKind_25 (Option.some.inj hf)
    · have hf := of_neg c_4 hf
      refine j_iconst (pc := 20) F (v := 5) dX3_moonKind_20 rfl ?_
      refine j_goto (pc := 21) F (tgt := 25) dX3_moonKind_21 rfl ?_
      exact j_iretR (pc := 25) F dX3_moonKind_25 (Option.some.inj hf)
  · have hf := of_neg c_2 hf
    refine j_iconst (pc := 9) F (v := 4) dX3_moonKind_9 rfl ?_
    exact j_iretR (pc := 10) F dX3_moonKind_10 (Option.some.inj hf)
theorem cf_X3_moonKind : cfV yX3_moonKind cX3_moonKind 1 (some .int) 0 := ⟨tm_562, tm_8, tm_59, tm_563, by decide, by decide, by decide +kernel⟩

def f_X3_partHere (N : Nat) (σD : St2) (σT : St2) : Option (Int32) := (f_X3_isWord N σD σT 8).bind fun o_1 => if (bI o_1) = 0 then (f_X3_isWord N σD σT 9).bind fun o_3 => if (bI o_3) = 0 then (f_X3_isWord N σD σT 10).bind fun o_5 => if (bI o_5) = 0 then (f_X3_isWord N σD σT 11).bind fun o_7 => if (bI o_7) = 0 then some (-1) else some 3 else some 2 else some 1 else some 0
set_option maxHeartbeats 4000000 in
set_option maxRecDepth 100000 in
theorem c_X3_partHere {l : Launch} {D : va_G} {cy : Nat → ClassId} {g : Gs} {aD : Nat → Nat} {aT : Nat → Nat} {aR : Nat → Nat} {ra : Value} {σD : St2} {σT : St2} {N : Nat} {out : Int32} (hf : f_X3_partHere N σD σT = some out) : CR l D cy g yX3_partHere cX3_partHere 1 (some .int) 5 107 (wD aD aT aR ra σD ++ wT aT cy σT) [.ref (aD 0)] (some (.int out)) := by
  unfold f_X3_partHere at hf
  refine met_R (lv := [(0, .ref (aD 0))]) (by decide) (Nat.le_of_ble_eq_true rfl) rfl ?_
  intro p e s m args below meth c F hP hK hS
  refine j_aload_n (pc := 0) F 0 dX3_partHere_0 rfl rfl ?_
  refine jr_ldcS (pc := 1) F hS 8 (by decide) rfl dX3_partHere_1 ?_
  obtain ⟨o_1, ho_1, hf⟩ := of_bnd hf
  refine j_callRV (pc := 3) (st := []) (st1 := [.int (bI o_1)]) F hK (hpR hP hS hp_id) (c_X3_isWord (l := l) (D := D) (cy := cy) (g := g) (aD := aD) (aT := aT) (aR := aR) (ra := ra) (hkw := by decide) ho_1) tm_496 cf_X3_isWord (Nat.le_of_ble_eq_true rfl) (Nat.le_of_ble_eq_true rfl) ⟨Nat.zero_le _, Nat.zero_le _⟩ 0 rfl rfl rfl rfl rfl (Nat.le_of_ble_eq_true rfl) rfl dX3_partHere_3 ?_
  refine j_if_eq (pc := 6) (tgt := 11) F dX3_partHere_6 rfl (fun c_2 => ?_) (fun c_2 => ?_)
  · have hf := of_pos c_2 hf
    refine j_aload_n (pc := 11) F 0 dX3_partHere_11 rfl rfl ?_
    refine jr_ldcS (pc := 12) F hS 9 (by decide) rfl dX3_partHere_12 ?_
    obtain ⟨o_3, ho_3, hf⟩ := of_bnd hf
    refine j_callRV (pc := 14) (st := []) (st1 := [.int (bI o_3)]) F hK (hpR hP hS hp_id) (c_X3_isWord (l := l) (D := D) (cy := cy) (g := g) (aD := aD) (aT := aT) (aR := aR) (ra := ra) (hkw := by decide) ho_3) tm_496 cf_X3_isWord (Nat.le_of_ble_eq_true rfl) (Nat.le_of_ble_eq_true rfl) ⟨Nat.zero_le _, Nat.zero_le _⟩ 0 rfl rfl rfl rfl rfl (Nat.le_of_ble_eq_true rfl) rfl dX3_partHere_14 ?_
    refine j_if_eq (pc := 17) (tgt := 22) F dX3_partHere_17 rfl (fun c_4 => ?_) (fun c_4 => ?_)
    · have hf := of_pos c_4 hf
      refine j_aload_n (pc := 22) F 0 dX3_partHere_22 rfl rfl ?_
      refine jr_ldcS (pc := 23) F hS 10 (by decide) rfl dX3_partHere_23 ?_
      obtain ⟨o_5, ho_5, hf⟩ := of_bnd hf
      refine j_callRV (pc := 25) (st := []) (st1 := [.int (bI o_5)]) F hK (hpR hP hS hp_id) (c_X3_isWord (l := l) (D := D) (cy := cy) (g := g) (aD := aD) (aT := aT) (aR := aR) (ra := ra) (hkw := by decide) ho_5) tm_496 cf_X3_isWord (Nat.le_of_ble_eq_true rfl) (Nat.le_of_ble_eq_true rfl) ⟨Nat.zero_le _, Nat.zero_le _⟩ 0 rfl rfl rfl rfl rfl (Nat.le_of_ble_eq_true rfl) rfl dX3_partHere_25 ?_
      refine j_if_eq (pc := 28) (tgt := 33) F dX3_partHere_28 rfl (fun c_6 => ?_) (fun c_6 => ?_)
      · have hf := of_pos c_6 hf
        refine j_aload_n (pc := 33) F 0 dX3_partHere_33 rfl rfl ?_
        refine jr_ldcS (pc := 34) F hS 11 (by decide) rfl dX3_partHere_34 ?_
        obtain ⟨o_7, ho_7, hf⟩ := of_bnd hf
        refine j_callRV (pc := 36) (st := []) (st1 := [.int (bI o_7)]) F hK (hpR hP hS hp_id) (c_X3_isWord (l := l) (D := D) (cy := cy) (g := g) (aD := aD) (aT := aT) (aR := aR) (ra := ra) (hkw := by decide) ho_7) tm_496 cf_X3_isWord (Nat.le_of_ble_eq_true rfl) (Nat.le_of_ble_eq_true rfl) ⟨Nat.zero_le _, Nat.zero_le _⟩ 0 rfl rfl rfl rfl rfl (Nat.le_of_ble_eq_true rfl) rfl dX3_partHere_36 ?_
        refine j_if_eq (pc := 39) (tgt := 46) F dX3_partHere_39 rfl (fun c_8 => ?_) (fun c_8 => ?_)
        · have hf := of_pos c_8 hf
          refine j_iconst (pc := 46) F (v := (-1)) dX3_partHere_46 rfl ?_
          exact j_iretR (pc := 47) F dX3_partHere_47 (Option.some.inj hf)
        · have hf := of_neg c_8 hf
          refine j_iconst (pc := 42) F (v := 3) dX3_partHere_42 rfl ?_
          refine j_goto (pc := 43) F (tgt := 47) dX3_partHere_43 rfl ?_
          exact j_iretR (pc := 47) F dX3_partHere_47 (Option.some.inj hf)
      · have hf := of_neg c_6 hf
        refine j_iconst (pc := 31) F (v := 2) dX3_partHere_31 rfl ?_
        exact j_iretR (pc := 32) F dX3_partHere_32 (Option.some.inj hf)
    · have hf := of_neg c_4 hf
      refine j_iconst (pc := 20) F (v := 1) dX3_partHere_20 rfl ?_
      exact j_iretR (pc := 21) F dX3_partHere_21 (Option.some.inj hf)
  · have hf := of_neg c_2 hf
    refine j_iconst (pc := 9) F (v := 0) dX3_partHere_9 rfl ?_
    exact j_iretR (pc := 10) F dX3_partHere_10 (Option.some.inj hf)
theorem cf_X3_partHere : cfV yX3_partHere cX3_partHere 1 (some .int) 0 := ⟨tm_581, tm_11, tm_59, tm_582, by decide, by decide, by decide +kernel⟩

def f_X3_readWhat_49 (N : Nat) (σD : St2) (σT : St2) (σA : St2 × (Int64)) (y1 : Int32) (t0 : Int32) : Option (Bool × St2 × (St2 × (Int64))) := if t0 = 0 then if y1 = 0 then some (true, σD, (f_X0_setKinds σA 48)) else some (true, σD, (f_X0_setKinds σA 14)) else (f_X3_advance N σD σT).bind fun o_3 => some (true, o_3, (f_X0_setKinds σA (1 <<< (t0 &&& 31))))
def f_X3_readWhat_30 (N : Nat) (σD : St2) (σT : St2) (σA : St2 × (Int64)) (y1 : Int32) : Option (Bool × St2 × (St2 × (Int64))) := (f_X3_advance N σD σT).bind fun o_1 => if y1 = 0 then (f_X3_moonKind N o_1 σT).bind fun o_3 => f_X3_readWhat_49 N o_1 σT σA y1 o_3 else (f_X3_sunKind N o_1 σT).bind fun o_4 => f_X3_readWhat_49 N o_1 σT σA y1 o_4
def f_X3_readWhat (N : Nat) (σD : St2) (σT : St2) (σA : St2 × (Int64)) : Option (Bool × St2 × (St2 × (Int64))) := (f_X3_isWord N σD σT 0).bind fun o_1 => if (bI o_1) = 0 then (f_X3_isWord N σD σT 1).bind fun o_3 => if (bI o_3) = 0 then some (((f_X3_refuse σD 1 (σD 0 4)).1), (f_X3_refuse σD 1 (σD 0 4)).2, σA) else f_X3_readWhat_30 N σD σT σA (bI o_1) else f_X3_readWhat_30 N σD σT σA (bI o_1)
set_option maxHeartbeats 4000000 in
set_option maxRecDepth 100000 in
theorem b_X3_readWhat_49 {l : Launch} {D : va_G} {cy : Nat → ClassId} {g : Gs} {p : Program} {e : Env} {s : State} {m : MethodId} {args : Array Value} {below : List Frame} {meth : Method} {c : Code} {A : Nat → Prop} {aD : Nat → Nat} {aT : Nat → Nat} {aA : Nat → Nat} {aR : Nat → Nat} {σT : St2} {N : Nat} {out : Bool × St2 × (St2 × (Int64))} (F : Fx p s m args meth c cX3_readWhat RX3 3 (some .boolean)) (hK : va_K D vwCl (tys cy) s) (hS : St g A s s.heap) (hA : ∀ q, s.heap.size ≤ q → A q) :
    ∀ (σD : St2) (σA : St2 × (Int64)) (y1 : Int32) (t0 : Int32), f_X3_readWhat_49 N σD σT σA y1 t0 = some out → J p l e { frames := 6, cells := 0, slots := 0, locals := 127 } s m args below meth c 3 (hW D A s (wD aD aT aR (.ref (aA 0)) σD ++ wT aT cy σT ++ wA aA cy σA)) 0 0 (MQ below (QW D A (some (.int (bI out.1))) (wD aD aT aR (.ref (aA 0)) out.2.1 ++ wT aT cy σT ++ wA aA cy out.2.2)) args s 0 0 A) 49 [(0, .ref (aD 0)), (1, .int y1)] [.int t0] := by
  intro σD σA y1 t0 hf
  unfold f_X3_readWhat_49 at hf
  refine j_istore_n (pc := 49) (lv' := [(2, .int t0), (0, .ref (aD 0)), (1, .int y1)]) F dX3_readWhat_49 rfl (by decide) rfl ?_
  refine j_iload_n (pc := 50) F 0 dX3_readWhat_50 rfl rfl ?_
  refine j_if_ne (pc := 51) (tgt := 74) F dX3_readWhat_51 rfl (fun c_1 => ?_) (fun c_1 => ?_)
  · have hf := of_neg c_1 hf
    refine j_aload_n (pc := 74) F 1 dX3_readWhat_74 rfl rfl ?_
    refine jw_get (pc := 75) (v := .ref (aA 0)) F hK ix_3 0 rfl rfl 2 (by decide) tm_194 rfl rfl dX3_readWhat_75 ?_
    refine j_iconst (pc := 78) F (v := 1) dX3_readWhat_78 rfl ?_
    refine j_iload_n (pc := 79) F 0 dX3_readWhat_79 rfl rfl ?_
    refine j_ishl (pc := 80) F dX3_readWhat_80 ?_
    refine j_callWV (pc := 81) (st := []) (st1 := []) (wr := wD aD aT aR (.ref (aA 0)) σD ++ wT aT cy σT) (w' := wD aD aT aR (.ref (aA 0)) σD ++ wT aT cy σT ++ wA aA cy (f_X0_setKinds σA (1 <<< (t0 &&& 31)))) F hK hS hA (c_X0_setKinds (l := l) (D := D) (cy := cy) (g := g) (aA := aA) (rfl : f_X0_setKinds σA (1 <<< (t0 &&& 31)) = _)) tm_566 cf_X0_setKinds (Nat.le_of_ble_eq_true rfl) (Nat.le_of_ble_eq_true rfl) ⟨Nat.zero_le _, Nat.zero_le _⟩ 0 rfl rfl rfl rfl rfl (Nat.le_of_ble_eq_true rfl) [3, 4] [0, 1, 2] [0, 1, 2, 3, 4] rfl rfl rfl rfl (by decide) rfl rfl rfl dX3_readWhat_81 ?_
    refine j_aload_n (pc := 84) F 1 dX3_readWhat_84 rfl rfl ?_
    obtain ⟨o_3, ho_3, hf⟩ := of_bnd hf
    refine j_callWV (pc := 85) (st := []) (st1 := []) (wr := wA aA cy (f_X0_setKinds σA (1 <<< (t0 &&& 31)))) (w' := wD aD aT aR (.ref (aA 0)) o_3 ++ wT aT cy σT ++ wA aA cy (f_X0_setKinds σA (1 <<< (t0 &&& 31)))) F hK hS hA (c_X3_advance (l := l) (D := D) (cy := cy) (g := g) (aD := aD) (aT := aT) (aR := aR) (ra := (.ref (aA 0))) ho_3) tm_474 cf_X3_advance (Nat.le_of_ble_eq_true rfl) (Nat.le_of_ble_eq_true rfl) ⟨Nat.zero_le _, Nat.zero_le _⟩ 0 rfl rfl rfl rfl rfl (Nat.le_of_ble_eq_true rfl) [0, 1, 2] [3, 4] [2, 3, 4, 0, 1] rfl rfl rfl rfl (by decide) rfl rfl rfl dX3_readWhat_85 ?_
    refine j_iconst (pc := 88) F (v := 1) dX3_readWhat_88 rfl ?_
    have hf := (Option.some.inj hf)
    subst hf
    exact j_zretW (pc := 89) F dX3_readWhat_89 rfl rfl
  · have hf := of_pos c_1 hf
    refine j_aload_n (pc := 54) F 1 dX3_readWhat_54 rfl rfl ?_
    refine jw_get (pc := 55) (v := .ref (aA 0)) F hK ix_3 0 rfl rfl 2 (by decide) tm_194 rfl rfl dX3_readWhat_55 ?_
    refine j_iload_n (pc := 58) F 2 dX3_readWhat_58 rfl rfl ?_
    refine j_if_eq (pc := 59) (tgt := 67) F dX3_readWhat_59 rfl (fun c_4 => ?_) (fun c_4 => ?_)
    · have hf := of_pos c_4 hf
      refine j_bipush (pc := 67) F (v := 48) dX3_readWhat_67 rfl ?_
      refine j_callWV (pc := 69) (st := []) (st1 := []) (wr := wD aD aT aR (.ref (aA 0)) σD ++ wT aT cy σT) (w' := wD aD aT aR (.ref (aA 0)) σD ++ wT aT cy σT ++ wA aA cy (f_X0_setKinds σA 48)) F hK hS hA (c_X0_setKinds (l := l) (D := D) (cy := cy) (g := g) (aA := aA) (rfl : f_X0_setKinds σA 48 = _)) tm_566 cf_X0_setKinds (Nat.le_of_ble_eq_true rfl) (Nat.le_of_ble_eq_true rfl) ⟨Nat.zero_le _, Nat.zero_le _⟩ 0 rfl rfl rfl rfl rfl (Nat.le_of_ble_eq_true rfl) [3, 4] [0, 1, 2] [0, 1, 2, 3, 4] rfl rfl rfl rfl (by decide) rfl rfl rfl dX3_readWhat_69 ?_
      refine j_iconst (pc := 72) F (v := 1) dX3_readWhat_72 rfl ?_
      have hf := (Option.some.inj hf)
      subst hf
      exact j_zretW (pc := 73) F dX3_readWhat_73 rfl rfl
    · have hf := of_neg c_4 hf
      refine j_bipush (pc := 62) F (v := 14) dX3_readWhat_62 rfl ?_
      refine j_goto (pc := 64) F (tgt := 69) dX3_readWhat_64 rfl ?_
      refine j_callWV (pc := 69) (st := []) (st1 := []) (wr := wD aD aT aR (.ref (aA 0)) σD ++ wT aT cy σT) (w' := wD aD aT aR (.ref (aA 0)) σD ++ wT aT cy σT ++ wA aA cy (f_X0_setKinds σA 14)) F hK hS hA (c_X0_setKinds (l := l) (D := D) (cy := cy) (g := g) (aA := aA) (rfl : f_X0_setKinds σA 14 = _)) tm_566 cf_X0_setKinds (Nat.le_of_ble_eq_true rfl) (Nat.le_of_ble_eq_true rfl) ⟨Nat.zero_le _, Nat.zero_le _⟩ 0 rfl rfl rfl rfl rfl (Nat.le_of_ble_eq_true rfl) [3, 4] [0, 1, 2] [0, 1, 2, 3, 4] rfl rfl rfl rfl (by decide) rfl rfl rfl dX3_readWhat_69 ?_
      refine j_iconst (pc := 72) F (v := 1) dX3_readWhat_72 rfl ?_
      have hf := (Option.some.inj hf)
      subst hf
      exact j_zretW (pc := 73) F dX3_readWhat_73 rfl rfl
set_option maxHeartbeats 4000000 in
set_option maxRecDepth 100000 in
theorem b_X3_readWhat_30 {l : Launch} {D : va_G} {cy : Nat → ClassId} {g : Gs} {p : Program} {e : Env} {s : State} {m : MethodId} {args : Array Value} {below : List Frame} {meth : Method} {c : Code} {A : Nat → Prop} {aD : Nat → Nat} {aT : Nat → Nat} {aA : Nat → Nat} {aR : Nat → Nat} {σT : St2} {N : Nat} {out : Bool × St2 × (St2 × (Int64))} (F : Fx p s m args meth c cX3_readWhat RX3 3 (some .boolean)) (hK : va_K D vwCl (tys cy) s) (hS : St g A s s.heap) (hA : ∀ q, s.heap.size ≤ q → A q) :
    ∀ (σD : St2) (σA : St2 × (Int64)) (y1 : Int32), f_X3_readWhat_30 N σD σT σA y1 = some out → J p l e { frames := 6, cells := 0, slots := 0, locals := 127 } s m args below meth c 3 (hW D A s (wD aD aT aR (.ref (aA 0)) σD ++ wT aT cy σT ++ wA aA cy σA)) 0 0 (MQ below (QW D A (some (.int (bI out.1))) (wD aD aT aR (.ref (aA 0)) out.2.1 ++ wT aT cy σT ++ wA aA cy out.2.2)) args s 0 0 A) 30 [(0, .ref (aD 0)), (1, .int y1)] [] := by
  intro σD σA y1 hf
  unfold f_X3_readWhat_30 at hf
  refine j_aload_n (pc := 30) F 0 dX3_readWhat_30 rfl rfl ?_
  obtain ⟨o_1, ho_1, hf⟩ := of_bnd hf
  refine j_callWV (pc := 31) (st := []) (st1 := []) (wr := wA aA cy σA) (w' := wD aD aT aR (.ref (aA 0)) o_1 ++ wT aT cy σT ++ wA aA cy σA) F hK hS hA (c_X3_advance (l := l) (D := D) (cy := cy) (g := g) (aD := aD) (aT := aT) (aR := aR) (ra := (.ref (aA 0))) ho_1) tm_474 cf_X3_advance (Nat.le_of_ble_eq_true rfl) (Nat.le_of_ble_eq_true rfl) ⟨Nat.zero_le _, Nat.zero_le _⟩ 0 rfl rfl rfl rfl rfl (Nat.le_of_ble_eq_true rfl) [0, 1, 2] [3, 4] [2, 3, 4, 0, 1] rfl rfl rfl rfl (by decide) rfl rfl rfl dX3_readWhat_31 ?_
  refine j_iload_n (pc := 34) F 1 dX3_readWhat_34 rfl rfl ?_
  refine j_if_eq (pc := 35) (tgt := 45) F dX3_readWhat_35 rfl (fun c_2 => ?_) (fun c_2 => ?_)
  · have hf := of_pos c_2 hf
    refine j_aload_n (pc := 45) F 0 dX3_readWhat_45 rfl rfl ?_
    obtain ⟨o_3, ho_3, hf⟩ := of_bnd hf
    refine j_callRV (pc := 46) (st := []) (st1 := [.int o_3]) F hK (hpW hS (hp_sub [0, 1, 2] rfl)) (c_X3_moonKind (l := l) (D := D) (cy := cy) (g := g) (aD := aD) (aT := aT) (aR := aR) (ra := (.ref (aA 0))) ho_3) tm_560 cf_X3_moonKind (Nat.le_of_ble_eq_true rfl) (Nat.le_of_ble_eq_true rfl) ⟨Nat.zero_le _, Nat.zero_le _⟩ 0 rfl rfl rfl rfl rfl (Nat.le_of_ble_eq_true rfl) rfl dX3_readWhat_46 ?_
    exact b_X3_readWhat_49 F hK hS hA o_1 σA y1 o_3 hf
  · have hf := of_neg c_2 hf
    refine j_aload_n (pc := 38) F 0 dX3_readWhat_38 rfl rfl ?_
    obtain ⟨o_4, ho_4, hf⟩ := of_bnd hf
    refine j_callRV (pc := 39) (st := []) (st1 := [.int o_4]) F hK (hpW hS (hp_sub [0, 1, 2] rfl)) (c_X3_sunKind (l := l) (D := D) (cy := cy) (g := g) (aD := aD) (aT := aT) (aR := aR) (ra := (.ref (aA 0))) ho_4) tm_553 cf_X3_sunKind (Nat.le_of_ble_eq_true rfl) (Nat.le_of_ble_eq_true rfl) ⟨Nat.zero_le _, Nat.zero_le _⟩ 0 rfl rfl rfl rfl rfl (Nat.le_of_ble_eq_true rfl) rfl dX3_readWhat_39 ?_
    refine j_goto (pc := 42) F (tgt := 49) dX3_readWhat_42 rfl ?_
    exact b_X3_readWhat_49 F hK hS hA o_1 σA y1 o_4 hf
set_option maxHeartbeats 4000000 in
set_option maxRecDepth 100000 in
theorem c_X3_readWhat {l : Launch} {D : va_G} {cy : Nat → ClassId} {g : Gs} {aD : Nat → Nat} {aT : Nat → Nat} {aA : Nat → Nat} {aR : Nat → Nat} {σD : St2} {σT : St2} {σA : St2 × (Int64)} {N : Nat} {out : Bool × St2 × (St2 × (Int64))} (hf : f_X3_readWhat N σD σT σA = some out) : CW l D cy g yX3_readWhat cX3_readWhat 3 (some .boolean) 6 127 (wD aD aT aR (.ref (aA 0)) σD ++ wT aT cy σT ++ wA aA cy σA) [.ref (aD 0)] (some (.int (bI out.1))) (wD aD aT aR (.ref (aA 0)) out.2.1 ++ wT aT cy σT ++ wA aA cy out.2.2) := by
  unfold f_X3_readWhat at hf
  refine met_W (lv := [(0, .ref (aD 0))]) (by decide) (Nat.le_of_ble_eq_true rfl) rfl ?_
  intro p e s m args below meth c A F hK hS hA
  refine j_aload_n (pc := 0) F 0 dX3_readWhat_0 rfl rfl ?_
  refine jw_ldcS (pc := 1) F hS 0 (by decide) rfl dX3_readWhat_1 ?_
  obtain ⟨o_1, ho_1, hf⟩ := of_bnd hf
  refine j_callRV (pc := 3) (st := []) (st1 := [.int (bI o_1)]) F hK (hpW hS (hp_sub [0, 1, 2] rfl)) (c_X3_isWord (l := l) (D := D) (cy := cy) (g := g) (aD := aD) (aT := aT) (aR := aR) (ra := (.ref (aA 0))) (hkw := by decide) ho_1) tm_496 cf_X3_isWord (Nat.le_of_ble_eq_true rfl) (Nat.le_of_ble_eq_true rfl) ⟨Nat.zero_le _, Nat.zero_le _⟩ 0 rfl rfl rfl rfl rfl (Nat.le_of_ble_eq_true rfl) rfl dX3_readWhat_3 ?_
  refine j_istore_n (pc := 6) (lv' := [(1, .int (bI o_1)), (0, .ref (aD 0))]) F dX3_readWhat_6 rfl (by decide) rfl ?_
  refine j_iload_n (pc := 7) F 0 dX3_readWhat_7 rfl rfl ?_
  refine j_if_ne (pc := 8) (tgt := 30) F dX3_readWhat_8 rfl (fun c_2 => ?_) (fun c_2 => ?_)
  · have hf := of_neg c_2 hf
    refine j_sub [1, 0] rfl ?_
    exact b_X3_readWhat_30 F hK hS hA σD σA (bI o_1) hf
  · have hf := of_pos c_2 hf
    refine j_aload_n (pc := 11) F 1 dX3_readWhat_11 rfl rfl ?_
    refine jw_ldcS (pc := 12) F hS 1 (by decide) rfl dX3_readWhat_12 ?_
    obtain ⟨o_3, ho_3, hf⟩ := of_bnd hf
    refine j_callRV (pc := 14) (st := []) (st1 := [.int (bI o_3)]) F hK (hpW hS (hp_sub [0, 1, 2] rfl)) (c_X3_isWord (l := l) (D := D) (cy := cy) (g := g) (aD := aD) (aT := aT) (aR := aR) (ra := (.ref (aA 0))) (hkw := by decide) ho_3) tm_496 cf_X3_isWord (Nat.le_of_ble_eq_true rfl) (Nat.le_of_ble_eq_true rfl) ⟨Nat.zero_le _, Nat.zero_le _⟩ 0 rfl rfl rfl rfl rfl (Nat.le_of_ble_eq_true rfl) rfl dX3_readWhat_14 ?_
    refine j_if_ne (pc := 17) (tgt := 30) F dX3_readWhat_17 rfl (fun c_4 => ?_) (fun c_4 => ?_)
    · have hf := of_neg c_4 hf
      refine j_sub [1, 0] rfl ?_
      exact b_X3_readWhat_30 F hK hS hA σD σA (bI o_1) hf
    · have hf := of_pos c_4 hf
      refine j_aload_n (pc := 20) F 1 dX3_readWhat_20 rfl rfl ?_
      refine j_iconst (pc := 21) F (v := 1) dX3_readWhat_21 rfl ?_
      refine j_aload_n (pc := 22) F 1 dX3_readWhat_22 rfl rfl ?_
      refine jw_get (pc := 23) (v := .int (σD 0 4)) F hK ix_3 0 rfl rfl 4 (by decide) tm_196 rfl rfl dX3_readWhat_23 ?_
      refine j_callWV (pc := 26) (st := []) (st1 := [.int (bI ((f_X3_refuse σD 1 (σD 0 4)).1))]) (wr := wT aT cy σT ++ wA aA cy σA) (w' := wD aD aT aR (.ref (aA 0)) ((f_X3_refuse σD 1 (σD 0 4)).2) ++ wT aT cy σT ++ wA aA cy σA) F hK hS hA (c_X3_refuse (l := l) (D := D) (cy := cy) (g := g) (aD := aD) (aT := aT) (aR := aR) (ra := (.ref (aA 0))) (rfl : f_X3_refuse σD 1 (σD 0 4) = _)) tm_549 cf_X3_refuse (Nat.le_of_ble_eq_true rfl) (Nat.le_of_ble_eq_true rfl) ⟨Nat.zero_le _, Nat.zero_le _⟩ 0 rfl rfl rfl rfl rfl (Nat.le_of_ble_eq_true rfl) [0] [1, 2, 3, 4] [4, 0, 1, 2, 3] rfl rfl rfl rfl (by decide) rfl rfl rfl dX3_readWhat_26 ?_
      have hf := (Option.some.inj hf)
      subst hf
      exact j_zretW (pc := 29) F dX3_readWhat_29 rfl rfl
theorem cf_X3_readWhat : cfV yX3_readWhat cX3_readWhat 3 (some .boolean) 0 := ⟨tm_493, tm_4, tm_59, tm_494, by decide, by decide, by decide +kernel⟩

def f_X3_readNumber_50 (N : Nat) : Nat → St2 → St2 → (St2 × (Int64)) → Int32 → Int32 → Int32 → Option (Bool × St2 × (St2 × (Int64)))
  | 0, _, _, _, _, _, _ => none
  | n + 1, σD, σT, σA, y1, y2, y3 => if (σD 0 5) ≤ y3 then if y1 < 0 then some (((f_X3_refuse σD 4 (σD 0 4)).1), (f_X3_refuse σD 4 (σD 0 4)).2, σA) else if 4 ≤ y1 then some (((f_X3_refuse σD 4 (σD 0 4)).1), (f_X3_refuse σD 4 (σD 0 4)).2, σA) else if y1 < 0 ∨ 4 ≤ Int32.toNatClampNeg y1 then none else if y2 < (sF 2 (Int32.toNatClampNeg y1)) then some (((f_X3_refuse σD 4 (σD 0 4)).1), (f_X3_refuse σD 4 (σD 0 4)).2, σA) else if y1 < 0 ∨ 4 ≤ Int32.toNatClampNeg y1 then none else if y2 ≤ (sF 3 (Int32.toNatClampNeg y1)) then (f_X0_setNumber σA y1 y2).bind fun o_11 => some (true, σD, o_11) else some (((f_X3_refuse σD 4 (σD 0 4)).1), (f_X3_refuse σD 4 (σD 0 4)).2, σA) else (f_X6_byteAt σT y3).bind fun o_13 => f_X3_readNumber_50 N n σD σT σA y1 (((y2 * 10) + o_13) - 48) (y3 + 1)
def f_X3_readNumber (N : Nat) (σD : St2) (σT : St2) (σA : St2 × (Int64)) (x1 : Int32) : Option (Bool × St2 × (St2 × (Int64))) := if (σD 0 3) = 2 then if ((σD 0 5) - (σD 0 4)) ≤ 3 then f_X3_readNumber_50 N N σD σT σA x1 0 (σD 0 4) else some (((f_X3_refuse σD 1 ((σD 0 4) + 3)).1), (f_X3_refuse σD 1 ((σD 0 4) + 3)).2, σA) else some (((f_X3_refuse σD 1 (σD 0 4)).1), (f_X3_refuse σD 1 (σD 0 4)).2, σA)
set_option maxHeartbeats 4000000 in
set_option maxRecDepth 100000 in
theorem b_X3_readNumber_50 {l : Launch} {D : va_G} {cy : Nat → ClassId} {g : Gs} {p : Program} {e : Env} {s : State} {m : MethodId} {args : Array Value} {below : List Frame} {meth : Method} {c : Code} {A : Nat → Prop} {aD : Nat → Nat} {aT : Nat → Nat} {aA : Nat → Nat} {aR : Nat → Nat} {σT : St2} {N : Nat} {out : Bool × St2 × (St2 × (Int64))} (F : Fx p s m args meth c cX3_readNumber RX3 4 (some .boolean)) (hK : va_K D vwCl (tys cy) s) (hS : St g A s s.heap) (hA : ∀ q, s.heap.size ≤ q → A q) :
    ∀ (n : Nat) (σD : St2) (σA : St2 × (Int64)) (y1 : Int32) (y2 : Int32) (y3 : Int32), f_X3_readNumber_50 N n σD σT σA y1 y2 y3 = some out → J p l e { frames := 1, cells := 0, slots := 0, locals := 22 } s m args below meth c 4 (hW D A s (wD aD aT aR (.ref (aA 0)) σD ++ wT aT cy σT ++ wA aA cy σA)) 0 0 (MQ below (QW D A (some (.int (bI out.1))) (wD aD aT aR (.ref (aA 0)) out.2.1 ++ wT aT cy σT ++ wA aA cy out.2.2)) args s 0 0 A) 50 [(0, .ref (aD 0)), (1, .int y1), (2, .int y2), (3, .int y3)] [] := by
  intro n
  induction n with
  | zero =>
    intro σD σA y1 y2 y3 hf
    cases hf
  | succ n ih =>
    intro σD σA y1 y2 y3 hf
    rw [f_X3_readNumber_50] at hf
    refine j_iload_n (pc := 50) F 3 dX3_readNumber_50 rfl rfl ?_
    refine j_aload_n (pc := 51) F 0 dX3_readNumber_51 rfl rfl ?_
    refine jw_get (pc := 52) (v := .int (σD 0 5)) F hK ix_3 0 rfl rfl 5 (by decide) tm_197 rfl rfl dX3_readNumber_52 ?_
    refine j_icmp_ge (pc := 55) (tgt := 81) F dX3_readNumber_55 rfl (fun c_1 => ?_) (fun c_1 => ?_)
    · have hf := of_pos c_1 hf
      refine j_iload_n (pc := 81) F 1 dX3_readNumber_81 rfl rfl ?_
      refine j_if_lt (pc := 82) (tgt := 108) F dX3_readNumber_82 rfl (fun c_2 => ?_) (fun c_2 => ?_)
      · have hf := of_pos c_2 hf
        refine j_aload_n (pc := 108) F 0 dX3_readNumber_108 rfl rfl ?_
        refine j_iconst (pc := 109) F (v := 4) dX3_readNumber_109 rfl ?_
        refine j_aload_n (pc := 110) F 0 dX3_readNumber_110 rfl rfl ?_
        refine jw_get (pc := 111) (v := .int (σD 0 4)) F hK ix_3 0 rfl rfl 4 (by decide) tm_196 rfl rfl dX3_readNumber_111 ?_
        refine j_callWV (pc := 114) (st := []) (st1 := [.int (bI ((f_X3_refuse σD 4 (σD 0 4)).1))]) (wr := wT aT cy σT ++ wA aA cy σA) (w' := wD aD aT aR (.ref (aA 0)) ((f_X3_refuse σD 4 (σD 0 4)).2) ++ wT aT cy σT ++ wA aA cy σA) F hK hS hA (c_X3_refuse (l := l) (D := D) (cy := cy) (g := g) (aD := aD) (aT := aT) (aR := aR) (ra := (.ref (aA 0))) (rfl : f_X3_refuse σD 4 (σD 0 4) = _)) tm_549 cf_X3_refuse (Nat.le_of_ble_eq_true rfl) (Nat.le_of_ble_eq_true rfl) ⟨Nat.zero_le _, Nat.zero_le _⟩ 0 rfl rfl rfl rfl rfl (Nat.le_of_ble_eq_true rfl) [0] [1, 2, 3, 4] [4, 0, 1, 2, 3] rfl rfl rfl rfl (by decide) rfl rfl rfl dX3_readNumber_114 ?_
        have hf := (Option.some.inj hf)
        subst hf
        exact j_zretW (pc := 117) F dX3_readNumber_117 rfl rfl
      · have hf := of_neg c_2 hf
        refine j_iload_n (pc := 85) F 1 dX3_readNumber_85 rfl rfl ?_
        refine j_iconst (pc := 86) F (v := 4) dX3_readNumber_86 rfl ?_
        refine j_icmp_ge (pc := 87) (tgt := 108) F dX3_readNumber_87 rfl (fun c_4 => ?_) (fun c_4 => ?_)
        · have hf := of_pos c_4 hf
          refine j_aload_n (pc := 108) F 0 dX3_readNumber_108 rfl rfl ?_
          refine j_iconst (pc := 109) F (v := 4) dX3_readNumber_109 rfl ?_
          refine j_aload_n (pc := 110) F 0 dX3_readNumber_110 rfl rfl ?_
          refine jw_get (pc := 111) (v := .int (σD 0 4)) F hK ix_3 0 rfl rfl 4 (by decide) tm_196 rfl rfl dX3_readNumber_111 ?_
          refine j_callWV (pc := 114) (st := []) (st1 := [.int (bI ((f_X3_refuse σD 4 (σD 0 4)).1))]) (wr := wT aT cy σT ++ wA aA cy σA) (w' := wD aD aT aR (.ref (aA 0)) ((f_X3_refuse σD 4 (σD 0 4)).2) ++ wT aT cy σT ++ wA aA cy σA) F hK hS hA (c_X3_refuse (l := l) (D := D) (cy := cy) (g := g) (aD := aD) (aT := aT) (aR := aR) (ra := (.ref (aA 0))) (rfl : f_X3_refuse σD 4 (σD 0 4) = _)) tm_549 cf_X3_refuse (Nat.le_of_ble_eq_true rfl) (Nat.le_of_ble_eq_true rfl) ⟨Nat.zero_le _, Nat.zero_le _⟩ 0 rfl rfl rfl rfl rfl (Nat.le_of_ble_eq_true rfl) [0] [1, 2, 3, 4] [4, 0, 1, 2, 3] rfl rfl rfl rfl (by decide) rfl rfl rfl dX3_readNumber_114 ?_
          have hf := (Option.some.inj hf)
          subst hf
          exact j_zretW (pc := 117) F dX3_readNumber_117 rfl rfl
        · have hf := of_neg c_4 hf
          refine j_iload_n (pc := 90) F 2 dX3_readNumber_90 rfl rfl ?_
          refine jw_gets (pc := 91) F hS 2 (by decide) tm_595 dX3_readNumber_91 ?_
          refine j_iload_n (pc := 94) F 1 dX3_readNumber_94 rfl rfl ?_
          have c_6 : ¬ (y1 < 0 ∨ 4 ≤ Int32.toNatClampNeg y1) := fun z => by rw [if_pos z] at hf; cases hf
          have hf := of_neg c_6 hf
          refine jw_sald (pc := 95) F hS 2 (by decide) c_6 dX3_readNumber_95 ?_
          refine j_icmp_lt (pc := 96) (tgt := 108) F dX3_readNumber_96 rfl (fun c_7 => ?_) (fun c_7 => ?_)
          · have hf := of_pos c_7 hf
            refine j_aload_n (pc := 108) F 0 dX3_readNumber_108 rfl rfl ?_
            refine j_iconst (pc := 109) F (v := 4) dX3_readNumber_109 rfl ?_
            refine j_aload_n (pc := 110) F 0 dX3_readNumber_110 rfl rfl ?_
            refine jw_get (pc := 111) (v := .int (σD 0 4)) F hK ix_3 0 rfl rfl 4 (by decide) tm_196 rfl rfl dX3_readNumber_111 ?_
            refine j_callWV (pc := 114) (st := []) (st1 := [.int (bI ((f_X3_refuse σD 4 (σD 0 4)).1))]) (wr := wT aT cy σT ++ wA aA cy σA) (w' := wD aD aT aR (.ref (aA 0)) ((f_X3_refuse σD 4 (σD 0 4)).2) ++ wT aT cy σT ++ wA aA cy σA) F hK hS hA (c_X3_refuse (l := l) (D := D) (cy := cy) (g := g) (aD := aD) (aT := aT) (aR := aR) (ra := (.ref (aA 0))) (rfl : f_X3_refuse σD 4 (σD 0 4) = _)) tm_549 cf_X3_refuse (Nat.le_of_ble_eq_true rfl) (Nat.le_of_ble_eq_true rfl) ⟨Nat.zero_le _, Nat.zero_le _⟩ 0 rfl rfl rfl rfl rfl (Nat.le_of_ble_eq_true rfl) [0] [1, 2, 3, 4] [4, 0, 1, 2, 3] rfl rfl rfl rfl (by decide) rfl rfl rfl dX3_readNumber_114 ?_
            have hf := (Option.some.inj hf)
            subst hf
            exact j_zretW (pc := 117) F dX3_readNumber_117 rfl rfl
          · have hf := of_neg c_7 hf
            refine j_iload_n (pc := 99) F 2 dX3_readNumber_99 rfl rfl ?_
            refine jw_gets (pc := 100) F hS 3 (by decide) tm_597 dX3_readNumber_100 ?_
            refine j_iload_n (pc := 103) F 1 dX3_readNumber_103 rfl rfl ?_
            have c_9 : ¬ (y1 < 0 ∨ 4 ≤ Int32.toNatClampNeg y1) := fun z => by rw [if_pos z] at hf; cases hf
            have hf := of_neg c_9 hf
            refine jw_sald (pc := 104) F hS 3 (by decide) c_9 dX3_readNumber_104 ?_
            refine j_icmp_le (pc := 105) (tgt := 118) F dX3_readNumber_105 rfl (fun c_10 => ?_) (fun c_10 => ?_)
            · have hf := of_pos c_10 hf
              refine j_aload_n (pc := 118) F 0 dX3_readNumber_118 rfl rfl ?_
              refine jw_get (pc := 119) (v := .ref (aA 0)) F hK ix_3 0 rfl rfl 2 (by decide) tm_194 rfl rfl dX3_readNumber_119 ?_
              refine j_iload_n (pc := 122) F 1 dX3_readNumber_122 rfl rfl ?_
              refine j_iload_n (pc := 123) F 2 dX3_readNumber_123 rfl rfl ?_
              obtain ⟨o_11, ho_11, hf⟩ := of_bnd hf
              refine j_callWV (pc := 124) (st := []) (st1 := []) (wr := wD aD aT aR (.ref (aA 0)) σD ++ wT aT cy σT) (w' := wD aD aT aR (.ref (aA 0)) σD ++ wT aT cy σT ++ wA aA cy o_11) F hK hS hA (c_X0_setNumber (l := l) (D := D) (cy := cy) (g := g) (aA := aA) ho_11) tm_599 cf_X0_setNumber (Nat.le_of_ble_eq_true rfl) (Nat.le_of_ble_eq_true rfl) ⟨Nat.zero_le _, Nat.zero_le _⟩ 0 rfl rfl rfl rfl rfl (Nat.le_of_ble_eq_true rfl) [3, 4] [0, 1, 2] [0, 1, 2, 3, 4] rfl rfl rfl rfl (by decide) rfl rfl rfl dX3_readNumber_124 ?_
              refine j_iconst (pc := 127) F (v := 1) dX3_readNumber_127 rfl ?_
              have hf := (Option.some.inj hf)
              subst hf
              exact j_zretW (pc := 128) F dX3_readNumber_128 rfl rfl
            · have hf := of_neg c_10 hf
              refine j_aload_n (pc := 108) F 0 dX3_readNumber_108 rfl rfl ?_
              refine j_iconst (pc := 109) F (v := 4) dX3_readNumber_109 rfl ?_
              refine j_aload_n (pc := 110) F 0 dX3_readNumber_110 rfl rfl ?_
              refine jw_get (pc := 111) (v := .int (σD 0 4)) F hK ix_3 0 rfl rfl 4 (by decide) tm_196 rfl rfl dX3_readNumber_111 ?_
              refine j_callWV (pc := 114) (st := []) (st1 := [.int (bI ((f_X3_refuse σD 4 (σD 0 4)).1))]) (wr := wT aT cy σT ++ wA aA cy σA) (w' := wD aD aT aR (.ref (aA 0)) ((f_X3_refuse σD 4 (σD 0 4)).2) ++ wT aT cy σT ++ wA aA cy σA) F hK hS hA (c_X3_refuse (l := l) (D := D) (cy := cy) (g := g) (aD := aD) (aT := aT) (aR := aR) (ra := (.ref (aA 0))) (rfl : f_X3_refuse σD 4 (σD 0 4) = _)) tm_549 cf_X3_refuse (Nat.le_of_ble_eq_true rfl) (Nat.le_of_ble_eq_true rfl) ⟨Nat.zero_le _, Nat.zero_le _⟩ 0 rfl rfl rfl rfl rfl (Nat.le_of_ble_eq_true rfl) [0] [1, 2, 3, 4] [4, 0, 1, 2, 3] rfl rfl rfl rfl (by decide) rfl rfl rfl dX3_readNumber_114 ?_
              have hf := (Option.some.inj hf)
              subst hf
              exact j_zretW (pc := 117) F dX3_readNumber_117 rfl rfl
    · have hf := of_neg c_1 hf
      refine j_iload_n (pc := 58) F 2 dX3_readNumber_58 rfl rfl ?_
      refine j_bipush (pc := 59) F (v := 10) dX3_readNumber_59 rfl ?_
      refine j_imul (pc := 61) F dX3_readNumber_61 ?_
      refine j_aload_n (pc := 62) F 0 dX3_readNumber_62 rfl rfl ?_
      refine jw_get (pc := 63) (v := .ref (aT 0)) F hK ix_3 0 rfl rfl 0 (by decide) tm_192 rfl rfl dX3_readNumber_63 ?_
      refine j_iload_n (pc := 66) F 3 dX3_readNumber_66 rfl rfl ?_
      obtain ⟨o_13, ho_13, hf⟩ := of_bnd hf
      refine j_callRV (pc := 67) (st := [.int (y2 * 10)]) (st1 := [.int o_13, .int (y2 * 10)]) F hK (hpW hS (hp_sub [1, 2] rfl)) (c_X6_byteAt (l := l) (D := D) (cy := cy) (g := g) (aT := aT) ho_13) tm_479 cf_X6_byteAt (Nat.le_of_ble_eq_true rfl) (Nat.le_of_ble_eq_true rfl) ⟨Nat.zero_le _, Nat.zero_le _⟩ 0 rfl rfl rfl rfl rfl (Nat.le_of_ble_eq_true rfl) rfl dX3_readNumber_67 ?_
      refine j_iadd (pc := 70) F dX3_readNumber_70 ?_
      refine j_bipush (pc := 71) F (v := 48) dX3_readNumber_71 rfl ?_
      refine j_isub (pc := 73) F dX3_readNumber_73 ?_
      refine j_istore_n (pc := 74) (lv' := [(2, .int (((y2 * 10) + o_13) - 48)), (0, .ref (aD 0)), (1, .int y1), (3, .int y3)]) F dX3_readNumber_74 rfl (by decide) rfl ?_
      refine j_iinc (pc := 75) (v := y3 + 1) (lv' := [(3, .int (y3 + 1)), (2, .int (((y2 * 10) + o_13) - 48)), (0, .ref (aD 0)), (1, .int y1)]) F 3 dX3_readNumber_75 rfl rfl (by decide) rfl ?_
      refine j_goto (pc := 78) F (tgt := 50) dX3_readNumber_78 rfl ?_
      refine j_sub [2, 3, 1, 0] rfl ?_
      exact ih σD σA y1 (((y2 * 10) + o_13) - 48) (y3 + 1) hf
set_option maxHeartbeats 4000000 in
set_option maxRecDepth 100000 in
theorem c_X3_readNumber {l : Launch} {D : va_G} {cy : Nat → ClassId} {g : Gs} {aD : Nat → Nat} {aT : Nat → Nat} {aA : Nat → Nat} {aR : Nat → Nat} {σD : St2} {σT : St2} {σA : St2 × (Int64)} {N : Nat} {x1 : Int32} {out : Bool × St2 × (St2 × (Int64))} (hf : f_X3_readNumber N σD σT σA x1 = some out) : CW l D cy g yX3_readNumber cX3_readNumber 4 (some .boolean) 1 22 (wD aD aT aR (.ref (aA 0)) σD ++ wT aT cy σT ++ wA aA cy σA) [.ref (aD 0), .int x1] (some (.int (bI out.1))) (wD aD aT aR (.ref (aA 0)) out.2.1 ++ wT aT cy σT ++ wA aA cy out.2.2) := by
  unfold f_X3_readNumber at hf
  refine met_W (lv := [(0, .ref (aD 0)), (1, .int x1)]) (by decide) (Nat.le_of_ble_eq_true rfl) rfl ?_
  intro p e s m args below meth c A F hK hS hA
  refine j_aload_n (pc := 0) F 0 dX3_readNumber_0 rfl rfl ?_
  refine jw_get (pc := 1) (v := .int (σD 0 3)) F hK ix_3 0 rfl rfl 3 (by decide) tm_195 rfl rfl dX3_readNumber_1 ?_
  refine j_iconst (pc := 4) F (v := 2) dX3_readNumber_4 rfl ?_
  refine j_icmp_eq (pc := 5) (tgt := 18) F dX3_readNumber_5 rfl (fun c_1 => ?_) (fun c_1 => ?_)
  · have hf := of_pos c_1 hf
    refine j_aload_n (pc := 18) F 0 dX3_readNumber_18 rfl rfl ?_
    refine jw_get (pc := 19) (v := .int (σD 0 5)) F hK ix_3 0 rfl rfl 5 (by decide) tm_197 rfl rfl dX3_readNumber_19 ?_
    refine j_aload_n (pc := 22) F 0 dX3_readNumber_22 rfl rfl ?_
    refine jw_get (pc := 23) (v := .int (σD 0 4)) F hK ix_3 0 rfl rfl 4 (by decide) tm_196 rfl rfl dX3_readNumber_23 ?_
    refine j_isub (pc := 26) F dX3_readNumber_26 ?_
    refine j_iconst (pc := 27) F (v := 3) dX3_readNumber_27 rfl ?_
    refine j_icmp_le (pc := 28) (tgt := 43) F dX3_readNumber_28 rfl (fun c_2 => ?_) (fun c_2 => ?_)
    · have hf := of_pos c_2 hf
      refine j_iconst (pc := 43) F (v := 0) dX3_readNumber_43 rfl ?_
      refine j_istore_n (pc := 44) (lv' := [(2, .int 0), (0, .ref (aD 0)), (1, .int x1)]) F dX3_readNumber_44 rfl (by decide) rfl ?_
      refine j_aload_n (pc := 45) F 1 dX3_readNumber_45 rfl rfl ?_
      refine jw_get (pc := 46) (v := .int (σD 0 4)) F hK ix_3 0 rfl rfl 4 (by decide) tm_196 rfl rfl dX3_readNumber_46 ?_
      refine j_istore_n (pc := 49) (lv' := [(3, .int (σD 0 4)), (2, .int 0), (0, .ref (aD 0)), (1, .int x1)]) F dX3_readNumber_49 rfl (by decide) rfl ?_
      refine j_sub [2, 3, 1, 0] rfl ?_
      exact b_X3_readNumber_50 F hK hS hA N σD σA x1 0 (σD 0 4) hf
    · have hf := of_neg c_2 hf
      refine j_aload_n (pc := 31) F 0 dX3_readNumber_31 rfl rfl ?_
      refine j_iconst (pc := 32) F (v := 1) dX3_readNumber_32 rfl ?_
      refine j_aload_n (pc := 33) F 0 dX3_readNumber_33 rfl rfl ?_
      refine jw_get (pc := 34) (v := .int (σD 0 4)) F hK ix_3 0 rfl rfl 4 (by decide) tm_196 rfl rfl dX3_readNumber_34 ?_
      refine j_iconst (pc := 37) F (v := 3) dX3_readNumber_37 rfl ?_
      refine j_iadd (pc := 38) F dX3_readNumber_38 ?_
      refine j_callWV (pc := 39) (st := []) (st1 := [.int (bI ((f_X3_refuse σD 1 ((σD 0 4) + 3)).1))]) (wr := wT aT cy σT ++ wA aA cy σA) (w' := wD aD aT aR (.ref (aA 0)) ((f_X3_refuse σD 1 ((σD 0 4) + 3)).2) ++ wT aT cy σT ++ wA aA cy σA) F hK hS hA (c_X3_refuse (l := l) (D := D) (cy := cy) (g := g) (aD := aD) (aT := aT) (aR := aR) (ra := (.ref (aA 0))) (rfl : f_X3_refuse σD 1 ((σD 0 4) + 3) = _)) tm_549 cf_X3_refuse (Nat.le_of_ble_eq_true rfl) (Nat.le_of_ble_eq_true rfl) ⟨Nat.zero_le _, Nat.zero_le _⟩ 0 rfl rfl rfl rfl rfl (Nat.le_of_ble_eq_true rfl) [0] [1, 2, 3, 4] [4, 0, 1, 2, 3] rfl rfl rfl rfl (by decide) rfl rfl rfl dX3_readNumber_39 ?_
      have hf := (Option.some.inj hf)
      subst hf
      exact j_zretW (pc := 42) F dX3_readNumber_42 rfl rfl
  · have hf := of_neg c_1 hf
    refine j_aload_n (pc := 8) F 0 dX3_readNumber_8 rfl rfl ?_
    refine j_iconst (pc := 9) F (v := 1) dX3_readNumber_9 rfl ?_
    refine j_aload_n (pc := 10) F 0 dX3_readNumber_10 rfl rfl ?_
    refine jw_get (pc := 11) (v := .int (σD 0 4)) F hK ix_3 0 rfl rfl 4 (by decide) tm_196 rfl rfl dX3_readNumber_11 ?_
    refine j_callWV (pc := 14) (st := []) (st1 := [.int (bI ((f_X3_refuse σD 1 (σD 0 4)).1))]) (wr := wT aT cy σT ++ wA aA cy σA) (w' := wD aD aT aR (.ref (aA 0)) ((f_X3_refuse σD 1 (σD 0 4)).2) ++ wT aT cy σT ++ wA aA cy σA) F hK hS hA (c_X3_refuse (l := l) (D := D) (cy := cy) (g := g) (aD := aD) (aT := aT) (aR := aR) (ra := (.ref (aA 0))) (rfl : f_X3_refuse σD 1 (σD 0 4) = _)) tm_549 cf_X3_refuse (Nat.le_of_ble_eq_true rfl) (Nat.le_of_ble_eq_true rfl) ⟨Nat.zero_le _, Nat.zero_le _⟩ 0 rfl rfl rfl rfl rfl (Nat.le_of_ble_eq_true rfl) [0] [1, 2, 3, 4] [4, 0, 1, 2, 3] rfl rfl rfl rfl (by decide) rfl rfl rfl dX3_readNumber_14 ?_
    have hf := (Option.some.inj hf)
    subst hf
    exact j_zretW (pc := 17) F dX3_readNumber_17 rfl rfl
theorem cf_X3_readNumber : cfV yX3_readNumber cX3_readNumber 4 (some .boolean) 1 := ⟨tm_593, tm_12, tm_59, tm_594, by decide, by decide, by decide +kernel⟩

def f_X3_readRuler (N : Nat) (σD : St2) (σT : St2) (σR : St2) : Option (Bool × St2) := (f_X6_nameBetween N σT (σD 0 4) (σD 0 5)).bind fun o_1 => if (σD 0 3) = 1 then if o_1 = (-1) then some (((f_X3_refuse σD 1 (σD 0 4)).1), (f_X3_refuse σD 1 (σD 0 4)).2) else (f_X4_find N σR o_1).bind fun o_5 => lt (σD 0 4 : Int32) fun z_6 => if o_5 = (-1) then some (((f_X3_refuse (up2 (up2 σD 0 7 o_5) 0 8 z_6) 3 (σD 0 4)).1), (f_X3_refuse (up2 (up2 σD 0 7 o_5) 0 8 z_6) 3 (σD 0 4)).2) else some (true, up2 (up2 σD 0 7 o_5) 0 8 z_6) else some (((f_X3_refuse σD 1 (σD 0 4)).1), (f_X3_refuse σD 1 (σD 0 4)).2)
set_option maxHeartbeats 4000000 in
set_option maxRecDepth 100000 in
theorem c_X3_readRuler {l : Launch} {D : va_G} {cy : Nat → ClassId} {g : Gs} {aD : Nat → Nat} {aT : Nat → Nat} {aR : Nat → Nat} {ra : Value} {σD : St2} {σT : St2} {σR : St2} {N : Nat} {out : Bool × St2} (hf : f_X3_readRuler N σD σT σR = some out) : CW l D cy g yX3_readRuler cX3_readRuler 2 (some .boolean) 2 46 (wD aD aT aR ra σD ++ wT aT cy σT ++ wR aR cy σR) [.ref (aD 0)] (some (.int (bI out.1))) (wD aD aT aR ra out.2 ++ wT aT cy σT ++ wR aR cy σR) := by
  unfold f_X3_readRuler at hf
  refine met_W (lv := [(0, .ref (aD 0))]) (by decide) (Nat.le_of_ble_eq_true rfl) rfl ?_
  intro p e s m args below meth c A F hK hS hA
  refine j_aload_n (pc := 0) F 0 dX3_readRuler_0 rfl rfl ?_
  refine jw_get (pc := 1) (v := .ref (aT 0)) F hK ix_3 0 rfl rfl 0 (by decide) tm_192 rfl rfl dX3_readRuler_1 ?_
  refine j_aload_n (pc := 4) F 0 dX3_readRuler_4 rfl rfl ?_
  refine jw_get (pc := 5) (v := .int (σD 0 4)) F hK ix_3 0 rfl rfl 4 (by decide) tm_196 rfl rfl dX3_readRuler_5 ?_
  refine j_aload_n (pc := 8) F 0 dX3_readRuler_8 rfl rfl ?_
  refine jw_get (pc := 9) (v := .int (σD 0 5)) F hK ix_3 0 rfl rfl 5 (by decide) tm_197 rfl rfl dX3_readRuler_9 ?_
  obtain ⟨o_1, ho_1, hf⟩ := of_bnd hf
  refine j_callRV (pc := 12) (st := []) (st1 := [.int o_1]) F hK (hpW hS (hp_sub [1, 2] rfl)) (c_X6_nameBetween (l := l) (D := D) (cy := cy) (g := g) (aT := aT) ho_1) tm_608 cf_X6_nameBetween (Nat.le_of_ble_eq_true rfl) (Nat.le_of_ble_eq_true rfl) ⟨Nat.zero_le _, Nat.zero_le _⟩ 0 rfl rfl rfl rfl rfl (Nat.le_of_ble_eq_true rfl) rfl dX3_readRuler_12 ?_
  refine j_istore_n (pc := 15) (lv' := [(1, .int o_1), (0, .ref (aD 0))]) F dX3_readRuler_15 rfl (by decide) rfl ?_
  refine j_aload_n (pc := 16) F 1 dX3_readRuler_16 rfl rfl ?_
  refine jw_get (pc := 17) (v := .int (σD 0 3)) F hK ix_3 0 rfl rfl 3 (by decide) tm_195 rfl rfl dX3_readRuler_17 ?_
  refine j_iconst (pc := 20) F (v := 1) dX3_readRuler_20 rfl ?_
  refine j_icmp_ne (pc := 21) (tgt := 29) F dX3_readRuler_21 rfl (fun c_2 => ?_) (fun c_2 => ?_)
  · have hf := of_neg c_2 hf
    refine j_aload_n (pc := 29) F 1 dX3_readRuler_29 rfl rfl ?_
    refine j_iconst (pc := 30) F (v := 1) dX3_readRuler_30 rfl ?_
    refine j_aload_n (pc := 31) F 1 dX3_readRuler_31 rfl rfl ?_
    refine jw_get (pc := 32) (v := .int (σD 0 4)) F hK ix_3 0 rfl rfl 4 (by decide) tm_196 rfl rfl dX3_readRuler_32 ?_
    refine j_callWV (pc := 35) (st := []) (st1 := [.int (bI ((f_X3_refuse σD 1 (σD 0 4)).1))]) (wr := wT aT cy σT ++ wR aR cy σR) (w' := wD aD aT aR ra ((f_X3_refuse σD 1 (σD 0 4)).2) ++ wT aT cy σT ++ wR aR cy σR) F hK hS hA (c_X3_refuse (l := l) (D := D) (cy := cy) (g := g) (aD := aD) (aT := aT) (aR := aR) (ra := ra) (rfl : f_X3_refuse σD 1 (σD 0 4) = _)) tm_549 cf_X3_refuse (Nat.le_of_ble_eq_true rfl) (Nat.le_of_ble_eq_true rfl) ⟨Nat.zero_le _, Nat.zero_le _⟩ 0 rfl rfl rfl rfl rfl (Nat.le_of_ble_eq_true rfl) [0] [1, 2, 3, 4, 5, 6] [6, 0, 1, 2, 3, 4, 5] rfl rfl rfl rfl (by decide) rfl rfl rfl dX3_readRuler_35 ?_
    have hf := (Option.some.inj hf)
    subst hf
    exact j_zretW (pc := 38) F dX3_readRuler_38 rfl rfl
  · have hf := of_pos c_2 hf
    refine j_iload_n (pc := 24) F 0 dX3_readRuler_24 rfl rfl ?_
    refine j_iconst (pc := 25) F (v := (-1)) dX3_readRuler_25 rfl ?_
    refine j_icmp_ne (pc := 26) (tgt := 39) F dX3_readRuler_26 rfl (fun c_4 => ?_) (fun c_4 => ?_)
    · have hf := of_neg c_4 hf
      refine j_aload_n (pc := 39) F 1 dX3_readRuler_39 rfl rfl ?_
      refine j_aload_n (pc := 40) F 1 dX3_readRuler_40 rfl rfl ?_
      refine jw_get (pc := 41) (v := .ref (aR 0)) F hK ix_3 0 rfl rfl 1 (by decide) tm_193 rfl rfl dX3_readRuler_41 ?_
      refine j_iload_n (pc := 44) F 0 dX3_readRuler_44 rfl rfl ?_
      obtain ⟨o_5, ho_5, hf⟩ := of_bnd hf
      refine j_callRV (pc := 45) (st := [.ref (aD 0)]) (st1 := [.int o_5, .ref (aD 0)]) F hK (hpW hS (hp_sub [3, 4, 5, 6] rfl)) (c_X4_find (l := l) (D := D) (cy := cy) (g := g) (aR := aR) ho_5) tm_609 cf_X4_find (Nat.le_of_ble_eq_true rfl) (Nat.le_of_ble_eq_true rfl) ⟨Nat.zero_le _, Nat.zero_le _⟩ 0 rfl rfl rfl rfl rfl (Nat.le_of_ble_eq_true rfl) rfl dX3_readRuler_45 ?_
      refine jw_put (pc := 48) (w' := wD aD aT aR ra (up2 σD 0 7 o_5) ++ wT aT cy σT ++ wR aR cy σR) F hK ix_3 tyX3 tyX3_ok nmX3 0 rfl rfl 7 (by decide) tm_199 rfl rfl rfl rfl rfl (Nat.le_of_ble_eq_true rfl) rfl dX3_readRuler_48 ?_
      refine j_aload_n (pc := 51) F 1 dX3_readRuler_51 rfl rfl ?_
      refine j_aload_n (pc := 52) F 1 dX3_readRuler_52 rfl rfl ?_
      refine jw_get (pc := 53) (v := .int (σD 0 4)) F hK ix_3 0 rfl rfl 4 (by decide) tm_196 rfl rfl dX3_readRuler_53 ?_
      obtain ⟨z_6, ez_6, hf⟩ := of_lt hf
      refine j_topi ez_6 ?_
      refine jw_put (pc := 56) (w' := wD aD aT aR ra (up2 (up2 σD 0 7 o_5) 0 8 z_6) ++ wT aT cy σT ++ wR aR cy σR) F hK ix_3 tyX3 tyX3_ok nmX3 0 rfl rfl 8 (by decide) tm_200 rfl rfl rfl rfl rfl (Nat.le_of_ble_eq_true rfl) rfl dX3_readRuler_56 ?_
      refine j_aload_n (pc := 59) F 1 dX3_readRuler_59 rfl rfl ?_
      refine jw_get (pc := 60) (v := .int o_5) F hK ix_3 0 rfl rfl 7 (by decide) tm_199 rfl rfl dX3_readRuler_60 ?_
      refine j_iconst (pc := 63) F (v := (-1)) dX3_readRuler_63 rfl ?_
      refine j_icmp_ne (pc := 64) (tgt := 77) F dX3_readRuler_64 rfl (fun c_7 => ?_) (fun c_7 => ?_)
      · have hf := of_neg c_7 hf
        refine j_iconst (pc := 77) F (v := 1) dX3_readRuler_77 rfl ?_
        have hf := (Option.some.inj hf)
        subst hf
        exact j_zretW (pc := 78) F dX3_readRuler_78 rfl rfl
      · have hf := of_pos c_7 hf
        refine j_aload_n (pc := 67) F 1 dX3_readRuler_67 rfl rfl ?_
        refine j_iconst (pc := 68) F (v := 3) dX3_readRuler_68 rfl ?_
        refine j_aload_n (pc := 69) F 1 dX3_readRuler_69 rfl rfl ?_
        refine jw_get (pc := 70) (v := .int (σD 0 4)) F hK ix_3 0 rfl rfl 4 (by decide) tm_196 rfl rfl dX3_readRuler_70 ?_
        refine j_callWV (pc := 73) (st := []) (st1 := [.int (bI ((f_X3_refuse (up2 (up2 σD 0 7 o_5) 0 8 z_6) 3 (σD 0 4)).1))]) (wr := wT aT cy σT ++ wR aR cy σR) (w' := wD aD aT aR ra ((f_X3_refuse (up2 (up2 σD 0 7 o_5) 0 8 z_6) 3 (σD 0 4)).2) ++ wT aT cy σT ++ wR aR cy σR) F hK hS hA (c_X3_refuse (l := l) (D := D) (cy := cy) (g := g) (aD := aD) (aT := aT) (aR := aR) (ra := ra) (rfl : f_X3_refuse (up2 (up2 σD 0 7 o_5) 0 8 z_6) 3 (σD 0 4) = _)) tm_549 cf_X3_refuse (Nat.le_of_ble_eq_true rfl) (Nat.le_of_ble_eq_true rfl) ⟨Nat.zero_le _, Nat.zero_le _⟩ 0 rfl rfl rfl rfl rfl (Nat.le_of_ble_eq_true rfl) [0] [1, 2, 3, 4, 5, 6] [6, 0, 1, 2, 3, 4, 5] rfl rfl rfl rfl (by decide) rfl rfl rfl dX3_readRuler_73 ?_
        have hf := (Option.some.inj hf)
        subst hf
        exact j_zretW (pc := 76) F dX3_readRuler_76 rfl rfl
    · have hf := of_pos c_4 hf
      refine j_aload_n (pc := 29) F 1 dX3_readRuler_29 rfl rfl ?_
      refine j_iconst (pc := 30) F (v := 1) dX3_readRuler_30 rfl ?_
      refine j_aload_n (pc := 31) F 1 dX3_readRuler_31 rfl rfl ?_
      refine jw_get (pc := 32) (v := .int (σD 0 4)) F hK ix_3 0 rfl rfl 4 (by decide) tm_196 rfl rfl dX3_readRuler_32 ?_
      refine j_callWV (pc := 35) (st := []) (st1 := [.int (bI ((f_X3_refuse σD 1 (σD 0 4)).1))]) (wr := wT aT cy σT ++ wR aR cy σR) (w' := wD aD aT aR ra ((f_X3_refuse σD 1 (σD 0 4)).2) ++ wT aT cy σT ++ wR aR cy σR) F hK hS hA (c_X3_refuse (l := l) (D := D) (cy := cy) (g := g) (aD := aD) (aT := aT) (aR := aR) (ra := ra) (rfl : f_X3_refuse σD 1 (σD 0 4) = _)) tm_549 cf_X3_refuse (Nat.le_of_ble_eq_true rfl) (Nat.le_of_ble_eq_true rfl) ⟨Nat.zero_le _, Nat.zero_le _⟩ 0 rfl rfl rfl rfl rfl (Nat.le_of_ble_eq_true rfl) [0] [1, 2, 3, 4, 5, 6] [6, 0, 1, 2, 3, 4, 5] rfl rfl rfl rfl (by decide) rfl rfl rfl dX3_readRuler_35 ?_
      have hf := (Option.some.inj hf)
      subst hf
      exact j_zretW (pc := 38) F dX3_readRuler_38 rfl rfl
theorem cf_X3_readRuler : cfV yX3_readRuler cX3_readRuler 2 (some .boolean) 0 := ⟨tm_606, tm_13, tm_59, tm_607, by decide, by decide, by decide +kernel⟩

def f_X3_readPart (N : Nat) (σD : St2) (σT : St2) (σR : St2) (σA : St2 × (Int64)) : Option (Bool × St2 × (St2 × (Int64))) := (f_X3_partHere N σD σT).bind fun o_1 => if o_1 = (-1) then some (((f_X3_refuse σD 1 (σD 0 4)).1), (f_X3_refuse σD 1 (σD 0 4)).2, σA) else (f_X0_has σA o_1).bind fun o_3 => if (bI o_3) = 0 then (f_X3_advance N σD σT).bind fun o_5 => (f_X3_readNumber N o_5 σT σA o_1).bind fun o_6 => if (bI o_6.1) = 0 then some (false, o_6.2.1, o_6.2.2) else (f_X3_advance N o_6.2.1 σT).bind fun o_8 => if o_1 = 0 then (f_X3_isWord N o_8 σT 12).bind fun o_10 => if (bI o_10) = 0 then some (true, o_8, o_6.2.2) else (f_X3_advance N o_8 σT).bind fun o_12 => (f_X3_readRuler N o_12 σT σR).bind fun o_13 => if (bI o_13.1) = 0 then some (false, o_13.2, o_6.2.2) else (f_X3_advance N o_13.2 σT).bind fun o_15 => some (true, o_15, o_6.2.2) else some (true, o_8, o_6.2.2) else some (((f_X3_refuse σD 2 (σD 0 4)).1), (f_X3_refuse σD 2 (σD 0 4)).2, σA)
set_option maxHeartbeats 4000000 in
set_option maxRecDepth 100000 in
theorem c_X3_readPart {l : Launch} {D : va_G} {cy : Nat → ClassId} {g : Gs} {aD : Nat → Nat} {aT : Nat → Nat} {aR : Nat → Nat} {aA : Nat → Nat} {σD : St2} {σT : St2} {σR : St2} {σA : St2 × (Int64)} {N : Nat} {out : Bool × St2 × (St2 × (Int64))} (hf : f_X3_readPart N σD σT σR σA = some out) : CW l D cy g yX3_readPart cX3_readPart 2 (some .boolean) 6 127 (wD aD aT aR (.ref (aA 0)) σD ++ wT aT cy σT ++ wR aR cy σR ++ wA aA cy σA) [.ref (aD 0)] (some (.int (bI out.1))) (wD aD aT aR (.ref (aA 0)) out.2.1 ++ wT aT cy σT ++ wR aR cy σR ++ wA aA cy out.2.2) := by
  unfold f_X3_readPart at hf
  refine met_W (lv := [(0, .ref (aD 0))]) (by decide) (Nat.le_of_ble_eq_true rfl) rfl ?_
  intro p e s m args below meth c A F hK hS hA
  refine j_aload_n (pc := 0) F 0 dX3_readPart_0 rfl rfl ?_
  obtain ⟨o_1, ho_1, hf⟩ := of_bnd hf
  refine j_callRV (pc := 1) (st := []) (st1 := [.int o_1]) F hK (hpW hS (hp_sub [0, 1, 2] rfl)) (c_X3_partHere (l := l) (D := D) (cy := cy) (g := g) (aD := aD) (aT := aT) (aR := aR) (ra := (.ref (aA 0))) ho_1) tm_579 cf_X3_partHere (Nat.le_of_ble_eq_true rfl) (Nat.le_of_ble_eq_true rfl) ⟨Nat.zero_le _, Nat.zero_le _⟩ 0 rfl rfl rfl rfl rfl (Nat.le_of_ble_eq_true rfl) rfl dX3_readPart_1 ?_
  refine j_istore_n (pc := 4) (lv' := [(1, .int o_1), (0, .ref (aD 0))]) F dX3_readPart_4 rfl (by decide) rfl ?_
  refine j_iload_n (pc := 5) F 0 dX3_readPart_5 rfl rfl ?_
  refine j_iconst (pc := 6) F (v := (-1)) dX3_readPart_6 rfl ?_
  refine j_icmp_ne (pc := 7) (tgt := 20) F dX3_readPart_7 rfl (fun c_2 => ?_) (fun c_2 => ?_)
  · have hf := of_neg c_2 hf
    refine j_aload_n (pc := 20) F 1 dX3_readPart_20 rfl rfl ?_
    refine jw_get (pc := 21) (v := .ref (aA 0)) F hK ix_3 0 rfl rfl 2 (by decide) tm_194 rfl rfl dX3_readPart_21 ?_
    refine j_iload_n (pc := 24) F 0 dX3_readPart_24 rfl rfl ?_
    obtain ⟨o_3, ho_3, hf⟩ := of_bnd hf
    refine j_callRV (pc := 25) (st := []) (st1 := [.int (bI o_3)]) F hK (hpW hS (hp_sub [7, 8] rfl)) (c_X0_has (l := l) (D := D) (cy := cy) (g := g) (aA := aA) ho_3) tm_587 cf_X0_has (Nat.le_of_ble_eq_true rfl) (Nat.le_of_ble_eq_true rfl) ⟨Nat.zero_le _, Nat.zero_le _⟩ 0 rfl rfl rfl rfl rfl (Nat.le_of_ble_eq_true rfl) rfl dX3_readPart_25 ?_
    refine j_if_eq (pc := 28) (tgt := 41) F dX3_readPart_28 rfl (fun c_4 => ?_) (fun c_4 => ?_)
    · have hf := of_pos c_4 hf
      refine j_aload_n (pc := 41) F 1 dX3_readPart_41 rfl rfl ?_
      obtain ⟨o_5, ho_5, hf⟩ := of_bnd hf
      refine j_callWV (pc := 42) (st := []) (st1 := []) (wr := wR aR cy σR ++ wA aA cy σA) (w' := wD aD aT aR (.ref (aA 0)) o_5 ++ wT aT cy σT ++ wR aR cy σR ++ wA aA cy σA) F hK hS hA (c_X3_advance (l := l) (D := D) (cy := cy) (g := g) (aD := aD) (aT := aT) (aR := aR) (ra := (.ref (aA 0))) ho_5) tm_474 cf_X3_advance (Nat.le_of_ble_eq_true rfl) (Nat.le_of_ble_eq_true rfl) ⟨Nat.zero_le _, Nat.zero_le _⟩ 0 rfl rfl rfl rfl rfl (Nat.le_of_ble_eq_true rfl) [0, 1, 2] [3, 4, 5, 6, 7, 8] [6, 7, 8, 0, 1, 2, 3, 4, 5] rfl rfl rfl rfl (by decide) rfl rfl rfl dX3_readPart_42 ?_
      refine j_aload_n (pc := 45) F 1 dX3_readPart_45 rfl rfl ?_
      refine j_iload_n (pc := 46) F 0 dX3_readPart_46 rfl rfl ?_
      obtain ⟨o_6, ho_6, hf⟩ := of_bnd hf
      refine j_callWV (pc := 47) (st := []) (st1 := [.int (bI o_6.1)]) (wr := wR aR cy σR) (w' := wD aD aT aR (.ref (aA 0)) o_6.2.1 ++ wT aT cy σT ++ wR aR cy σR ++ wA aA cy o_6.2.2) F hK hS hA (c_X3_readNumber (l := l) (D := D) (cy := cy) (g := g) (aD := aD) (aT := aT) (aA := aA) (aR := aR) ho_6) tm_591 cf_X3_readNumber (Nat.le_of_ble_eq_true rfl) (Nat.le_of_ble_eq_true rfl) ⟨Nat.zero_le _, Nat.zero_le _⟩ 0 rfl rfl rfl rfl rfl (Nat.le_of_ble_eq_true rfl) [0, 1, 2, 7, 8] [3, 4, 5, 6] [4, 5, 6, 0, 1, 2, 3, 7, 8] rfl rfl rfl rfl (by decide) rfl rfl rfl dX3_readPart_47 ?_
      refine j_if_ne (pc := 50) (tgt := 55) F dX3_readPart_50 rfl (fun c_7 => ?_) (fun c_7 => ?_)
      · have hf := of_neg c_7 hf
        refine j_aload_n (pc := 55) F 1 dX3_readPart_55 rfl rfl ?_
        obtain ⟨o_8, ho_8, hf⟩ := of_bnd hf
        refine j_callWV (pc := 56) (st := []) (st1 := []) (wr := wR aR cy σR ++ wA aA cy o_6.2.2) (w' := wD aD aT aR (.ref (aA 0)) o_8 ++ wT aT cy σT ++ wR aR cy σR ++ wA aA cy o_6.2.2) F hK hS hA (c_X3_advance (l := l) (D := D) (cy := cy) (g := g) (aD := aD) (aT := aT) (aR := aR) (ra := (.ref (aA 0))) ho_8) tm_474 cf_X3_advance (Nat.le_of_ble_eq_true rfl) (Nat.le_of_ble_eq_true rfl) ⟨Nat.zero_le _, Nat.zero_le _⟩ 0 rfl rfl rfl rfl rfl (Nat.le_of_ble_eq_true rfl) [0, 1, 2] [3, 4, 5, 6, 7, 8] [6, 7, 8, 0, 1, 2, 3, 4, 5] rfl rfl rfl rfl (by decide) rfl rfl rfl dX3_readPart_56 ?_
        refine j_iload_n (pc := 59) F 0 dX3_readPart_59 rfl rfl ?_
        refine j_if_ne (pc := 60) (tgt := 72) F dX3_readPart_60 rfl (fun c_9 => ?_) (fun c_9 => ?_)
        · have hf := of_neg c_9 hf
          refine j_iconst (pc := 72) F (v := 1) dX3_readPart_72 rfl ?_
          have hf := (Option.some.inj hf)
          subst hf
          exact j_zretW (pc := 73) F dX3_readPart_73 rfl rfl
        · have hf := of_pos c_9 hf
          refine j_aload_n (pc := 63) F 1 dX3_readPart_63 rfl rfl ?_
          refine jw_ldcS (pc := 64) F hS 12 (by decide) rfl dX3_readPart_64 ?_
          obtain ⟨o_10, ho_10, hf⟩ := of_bnd hf
          refine j_callRV (pc := 66) (st := []) (st1 := [.int (bI o_10)]) F hK (hpW hS (hp_sub [0, 1, 2] rfl)) (c_X3_isWord (l := l) (D := D) (cy := cy) (g := g) (aD := aD) (aT := aT) (aR := aR) (ra := (.ref (aA 0))) (hkw := by decide) ho_10) tm_496 cf_X3_isWord (Nat.le_of_ble_eq_true rfl) (Nat.le_of_ble_eq_true rfl) ⟨Nat.zero_le _, Nat.zero_le _⟩ 0 rfl rfl rfl rfl rfl (Nat.le_of_ble_eq_true rfl) rfl dX3_readPart_66 ?_
          refine j_if_ne (pc := 69) (tgt := 74) F dX3_readPart_69 rfl (fun c_11 => ?_) (fun c_11 => ?_)
          · have hf := of_neg c_11 hf
            refine j_aload_n (pc := 74) F 1 dX3_readPart_74 rfl rfl ?_
            obtain ⟨o_12, ho_12, hf⟩ := of_bnd hf
            refine j_callWV (pc := 75) (st := []) (st1 := []) (wr := wR aR cy σR ++ wA aA cy o_6.2.2) (w' := wD aD aT aR (.ref (aA 0)) o_12 ++ wT aT cy σT ++ wR aR cy σR ++ wA aA cy o_6.2.2) F hK hS hA (c_X3_advance (l := l) (D := D) (cy := cy) (g := g) (aD := aD) (aT := aT) (aR := aR) (ra := (.ref (aA 0))) ho_12) tm_474 cf_X3_advance (Nat.le_of_ble_eq_true rfl) (Nat.le_of_ble_eq_true rfl) ⟨Nat.zero_le _, Nat.zero_le _⟩ 0 rfl rfl rfl rfl rfl (Nat.le_of_ble_eq_true rfl) [0, 1, 2] [3, 4, 5, 6, 7, 8] [6, 7, 8, 0, 1, 2, 3, 4, 5] rfl rfl rfl rfl (by decide) rfl rfl rfl dX3_readPart_75 ?_
            refine j_aload_n (pc := 78) F 1 dX3_readPart_78 rfl rfl ?_
            obtain ⟨o_13, ho_13, hf⟩ := of_bnd hf
            refine j_callWV (pc := 79) (st := []) (st1 := [.int (bI o_13.1)]) (wr := wA aA cy o_6.2.2) (w' := wD aD aT aR (.ref (aA 0)) o_13.2 ++ wT aT cy σT ++ wR aR cy σR ++ wA aA cy o_6.2.2) F hK hS hA (c_X3_readRuler (l := l) (D := D) (cy := cy) (g := g) (aD := aD) (aT := aT) (aR := aR) (ra := (.ref (aA 0))) ho_13) tm_604 cf_X3_readRuler (Nat.le_of_ble_eq_true rfl) (Nat.le_of_ble_eq_true rfl) ⟨Nat.zero_le _, Nat.zero_le _⟩ 0 rfl rfl rfl rfl rfl (Nat.le_of_ble_eq_true rfl) [0, 1, 2, 3, 4, 5, 6] [7, 8] [2, 3, 4, 5, 6, 7, 8, 0, 1] rfl rfl rfl rfl (by decide) rfl rfl rfl dX3_readPart_79 ?_
            refine j_if_ne (pc := 82) (tgt := 87) F dX3_readPart_82 rfl (fun c_14 => ?_) (fun c_14 => ?_)
            · have hf := of_neg c_14 hf
              refine j_aload_n (pc := 87) F 1 dX3_readPart_87 rfl rfl ?_
              obtain ⟨o_15, ho_15, hf⟩ := of_bnd hf
              refine j_callWV (pc := 88) (st := []) (st1 := []) (wr := wR aR cy σR ++ wA aA cy o_6.2.2) (w' := wD aD aT aR (.ref (aA 0)) o_15 ++ wT aT cy σT ++ wR aR cy σR ++ wA aA cy o_6.2.2) F hK hS hA (c_X3_advance (l := l) (D := D) (cy := cy) (g := g) (aD := aD) (aT := aT) (aR := aR) (ra := (.ref (aA 0))) ho_15) tm_474 cf_X3_advance (Nat.le_of_ble_eq_true rfl) (Nat.le_of_ble_eq_true rfl) ⟨Nat.zero_le _, Nat.zero_le _⟩ 0 rfl rfl rfl rfl rfl (Nat.le_of_ble_eq_true rfl) [0, 1, 2] [3, 4, 5, 6, 7, 8] [6, 7, 8, 0, 1, 2, 3, 4, 5] rfl rfl rfl rfl (by decide) rfl rfl rfl dX3_readPart_88 ?_
              refine j_iconst (pc := 91) F (v := 1) dX3_readPart_91 rfl ?_
              have hf := (Option.some.inj hf)
              subst hf
              exact j_zretW (pc := 92) F dX3_readPart_92 rfl rfl
            · have hf := of_pos c_14 hf
              refine j_iconst (pc := 85) F (v := 0) dX3_readPart_85 rfl ?_
              have hf := (Option.some.inj hf)
              subst hf
              exact j_zretW (pc := 86) F dX3_readPart_86 rfl rfl
          · have hf := of_pos c_11 hf
            refine j_iconst (pc := 72) F (v := 1) dX3_readPart_72 rfl ?_
            have hf := (Option.some.inj hf)
            subst hf
            exact j_zretW (pc := 73) F dX3_readPart_73 rfl rfl
      · have hf := of_pos c_7 hf
        refine j_iconst (pc := 53) F (v := 0) dX3_readPart_53 rfl ?_
        have hf := (Option.some.inj hf)
        subst hf
        exact j_zretW (pc := 54) F dX3_readPart_54 rfl rfl
    · have hf := of_neg c_4 hf
      refine j_aload_n (pc := 31) F 1 dX3_readPart_31 rfl rfl ?_
      refine j_iconst (pc := 32) F (v := 2) dX3_readPart_32 rfl ?_
      refine j_aload_n (pc := 33) F 1 dX3_readPart_33 rfl rfl ?_
      refine jw_get (pc := 34) (v := .int (σD 0 4)) F hK ix_3 0 rfl rfl 4 (by decide) tm_196 rfl rfl dX3_readPart_34 ?_
      refine j_callWV (pc := 37) (st := []) (st1 := [.int (bI ((f_X3_refuse σD 2 (σD 0 4)).1))]) (wr := wT aT cy σT ++ wR aR cy σR ++ wA aA cy σA) (w' := wD aD aT aR (.ref (aA 0)) ((f_X3_refuse σD 2 (σD 0 4)).2) ++ wT aT cy σT ++ wR aR cy σR ++ wA aA cy σA) F hK hS hA (c_X3_refuse (l := l) (D := D) (cy := cy) (g := g) (aD := aD) (aT := aT) (aR := aR) (ra := (.ref (aA 0))) (rfl : f_X3_refuse σD 2 (σD 0 4) = _)) tm_549 cf_X3_refuse (Nat.le_of_ble_eq_true rfl) (Nat.le_of_ble_eq_true rfl) ⟨Nat.zero_le _, Nat.zero_le _⟩ 0 rfl rfl rfl rfl rfl (Nat.le_of_ble_eq_true rfl) [0] [1, 2, 3, 4, 5, 6, 7, 8] [8, 0, 1, 2, 3, 4, 5, 6, 7] rfl rfl rfl rfl (by decide) rfl rfl rfl dX3_readPart_37 ?_
      have hf := (Option.some.inj hf)
      subst hf
      exact j_zretW (pc := 40) F dX3_readPart_40 rfl rfl
  · have hf := of_pos c_2 hf
    refine j_aload_n (pc := 10) F 1 dX3_readPart_10 rfl rfl ?_
    refine j_iconst (pc := 11) F (v := 1) dX3_readPart_11 rfl ?_
    refine j_aload_n (pc := 12) F 1 dX3_readPart_12 rfl rfl ?_
    refine jw_get (pc := 13) (v := .int (σD 0 4)) F hK ix_3 0 rfl rfl 4 (by decide) tm_196 rfl rfl dX3_readPart_13 ?_
    refine j_callWV (pc := 16) (st := []) (st1 := [.int (bI ((f_X3_refuse σD 1 (σD 0 4)).1))]) (wr := wT aT cy σT ++ wR aR cy σR ++ wA aA cy σA) (w' := wD aD aT aR (.ref (aA 0)) ((f_X3_refuse σD 1 (σD 0 4)).2) ++ wT aT cy σT ++ wR aR cy σR ++ wA aA cy σA) F hK hS hA (c_X3_refuse (l := l) (D := D) (cy := cy) (g := g) (aD := aD) (aT := aT) (aR := aR) (ra := (.ref (aA 0))) (rfl : f_X3_refuse σD 1 (σD 0 4) = _)) tm_549 cf_X3_refuse (Nat.le_of_ble_eq_true rfl) (Nat.le_of_ble_eq_true rfl) ⟨Nat.zero_le _, Nat.zero_le _⟩ 0 rfl rfl rfl rfl rfl (Nat.le_of_ble_eq_true rfl) [0] [1, 2, 3, 4, 5, 6, 7, 8] [8, 0, 1, 2, 3, 4, 5, 6, 7] rfl rfl rfl rfl (by decide) rfl rfl rfl dX3_readPart_16 ?_
    have hf := (Option.some.inj hf)
    subst hf
    exact j_zretW (pc := 19) F dX3_readPart_19 rfl rfl
theorem cf_X3_readPart : cfV yX3_readPart cX3_readPart 2 (some .boolean) 0 := ⟨tm_577, tm_10, tm_59, tm_578, by decide, by decide, by decide +kernel⟩

def f_X3_readParts_2 (N : Nat) : Nat → St2 → St2 → St2 → (St2 × (Int64)) → Int32 → Option (Bool × St2 × (St2 × (Int64)))
  | 0, _, _, _, _, _ => none
  | n + 1, σD, σT, σR, σA, y1 => if 4 < y1 then some (((f_X3_refuse σD 1 (σD 0 4)).1), (f_X3_refuse σD 1 (σD 0 4)).2, σA) else (f_X3_isWord N σD σT 7).bind fun o_3 => if (bI o_3) = 0 then (f_X3_readPart N σD σT σR σA).bind fun o_5 => if (bI o_5.1) = 0 then some (false, o_5.2.1, o_5.2.2) else f_X3_readParts_2 N n o_5.2.1 σT σR o_5.2.2 (y1 + 1) else some (true, σD, σA)
def f_X3_readParts (N : Nat) (σD : St2) (σT : St2) (σR : St2) (σA : St2 × (Int64)) : Option (Bool × St2 × (St2 × (Int64))) := f_X3_readParts_2 N N σD σT σR σA 0
set_option maxHeartbeats 4000000 in
set_option maxRecDepth 100000 in
theorem b_X3_readParts_2 {l : Launch} {D : va_G} {cy : Nat → ClassId} {g : Gs} {p : Program} {e : Env} {s : State} {m : MethodId} {args : Array Value} {below : List Frame} {meth : Method} {c : Code} {A : Nat → Prop} {aD : Nat → Nat} {aT : Nat → Nat} {aR : Nat → Nat} {aA : Nat → Nat} {σT : St2} {σR : St2} {N : Nat} {out : Bool × St2 × (St2 × (Int64))} (F : Fx p s m args meth c cX3_readParts RX3 2 (some .boolean)) (hK : va_K D vwCl (tys cy) s) (hS : St g A s s.heap) (hA : ∀ q, s.heap.size ≤ q → A q) :
    ∀ (n : Nat) (σD : St2) (σA : St2 × (Int64)) (y1 : Int32), f_X3_readParts_2 N n σD σT σR σA y1 = some out → J p l e { frames := 7, cells := 0, slots := 0, locals := 148 } s m args below meth c 2 (hW D A s (wD aD aT aR (.ref (aA 0)) σD ++ wT aT cy σT ++ wR aR cy σR ++ wA aA cy σA)) 0 0 (MQ below (QW D A (some (.int (bI out.1))) (wD aD aT aR (.ref (aA 0)) out.2.1 ++ wT aT cy σT ++ wR aR cy σR ++ wA aA cy out.2.2)) args s 0 0 A) 2 [(0, .ref (aD 0)), (1, .int y1)] [] := by
  intro n
  induction n with
  | zero =>
    intro σD σA y1 hf
    cases hf
  | succ n ih =>
    intro σD σA y1 hf
    rw [f_X3_readParts_2] at hf
    refine j_iload_n (pc := 2) F 1 dX3_readParts_2 rfl rfl ?_
    refine j_iconst (pc := 3) F (v := 4) dX3_readParts_3 rfl ?_
    refine j_icmp_gt (pc := 4) (tgt := 33) F dX3_readParts_4 rfl (fun c_1 => ?_) (fun c_1 => ?_)
    · have hf := of_pos c_1 hf
      refine j_aload_n (pc := 33) F 0 dX3_readParts_33 rfl rfl ?_
      refine j_iconst (pc := 34) F (v := 1) dX3_readParts_34 rfl ?_
      refine j_aload_n (pc := 35) F 0 dX3_readParts_35 rfl rfl ?_
      refine jw_get (pc := 36) (v := .int (σD 0 4)) F hK ix_3 0 rfl rfl 4 (by decide) tm_196 rfl rfl dX3_readParts_36 ?_
      refine j_callWV (pc := 39) (st := []) (st1 := [.int (bI ((f_X3_refuse σD 1 (σD 0 4)).1))]) (wr := wT aT cy σT ++ wR aR cy σR ++ wA aA cy σA) (w' := wD aD aT aR (.ref (aA 0)) ((f_X3_refuse σD 1 (σD 0 4)).2) ++ wT aT cy σT ++ wR aR cy σR ++ wA aA cy σA) F hK hS hA (c_X3_refuse (l := l) (D := D) (cy := cy) (g := g) (aD := aD) (aT := aT) (aR := aR) (ra := (.ref (aA 0))) (rfl : f_X3_refuse σD 1 (σD 0 4) = _)) tm_549 cf_X3_refuse (Nat.le_of_ble_eq_true rfl) (Nat.le_of_ble_eq_true rfl) ⟨Nat.zero_le _, Nat.zero_le _⟩ 0 rfl rfl rfl rfl rfl (Nat.le_of_ble_eq_true rfl) [0] [1, 2, 3, 4, 5, 6, 7, 8] [8, 0, 1, 2, 3, 4, 5, 6, 7] rfl rfl rfl rfl (by decide) rfl rfl rfl dX3_readParts_39 ?_
      have hf := (Option.some.inj hf)
      subst hf
      exact j_zretW (pc := 42) F dX3_readParts_42 rfl rfl
    · have hf := of_neg c_1 hf
      refine j_aload_n (pc := 7) F 0 dX3_readParts_7 rfl rfl ?_
      refine jw_ldcS (pc := 8) F hS 7 (by decide) rfl dX3_readParts_8 ?_
      obtain ⟨o_3, ho_3, hf⟩ := of_bnd hf
      refine j_callRV (pc := 10) (st := []) (st1 := [.int (bI o_3)]) F hK (hpW hS (hp_sub [0, 1, 2] rfl)) (c_X3_isWord (l := l) (D := D) (cy := cy) (g := g) (aD := aD) (aT := aT) (aR := aR) (ra := (.ref (aA 0))) (hkw := by decide) ho_3) tm_496 cf_X3_isWord (Nat.le_of_ble_eq_true rfl) (Nat.le_of_ble_eq_true rfl) ⟨Nat.zero_le _, Nat.zero_le _⟩ 0 rfl rfl rfl rfl rfl (Nat.le_of_ble_eq_true rfl) rfl dX3_readParts_10 ?_
      refine j_if_eq (pc := 13) (tgt := 18) F dX3_readParts_13 rfl (fun c_4 => ?_) (fun c_4 => ?_)
      · have hf := of_pos c_4 hf
        refine j_aload_n (pc := 18) F 0 dX3_readParts_18 rfl rfl ?_
        obtain ⟨o_5, ho_5, hf⟩ := of_bnd hf
        refine j_callWs (pc := 19) (st := []) (st1 := [.int (bI o_5.1)]) (w' := wD aD aT aR (.ref (aA 0)) o_5.2.1 ++ wT aT cy σT ++ wR aR cy σR ++ wA aA cy o_5.2.2) F hK hS hA (c_X3_readPart (l := l) (D := D) (cy := cy) (g := g) (aD := aD) (aT := aT) (aR := aR) (aA := aA) ho_5) tm_575 cf_X3_readPart (Nat.le_of_ble_eq_true rfl) (Nat.le_of_ble_eq_true rfl) ⟨Nat.zero_le _, Nat.zero_le _⟩ 0 rfl rfl rfl rfl rfl (Nat.le_of_ble_eq_true rfl) rfl dX3_readParts_19 ?_
        refine j_if_ne (pc := 22) (tgt := 27) F dX3_readParts_22 rfl (fun c_6 => ?_) (fun c_6 => ?_)
        · have hf := of_neg c_6 hf
          refine j_iinc (pc := 27) (v := y1 + 1) (lv' := [(1, .int (y1 + 1)), (0, .ref (aD 0))]) F 1 dX3_readParts_27 rfl rfl (by decide) rfl ?_
          refine j_goto (pc := 30) F (tgt := 2) dX3_readParts_30 rfl ?_
          refine j_sub [1, 0] rfl ?_
          exact ih o_5.2.1 o_5.2.2 (y1 + 1) hf
        · have hf := of_pos c_6 hf
          refine j_iconst (pc := 25) F (v := 0) dX3_readParts_25 rfl ?_
          have hf := (Option.some.inj hf)
          subst hf
          exact j_zretW (pc := 26) F dX3_readParts_26 rfl rfl
      · have hf := of_neg c_4 hf
        refine j_iconst (pc := 16) F (v := 1) dX3_readParts_16 rfl ?_
        have hf := (Option.some.inj hf)
        subst hf
        exact j_zretW (pc := 17) F dX3_readParts_17 rfl rfl
set_option maxHeartbeats 4000000 in
set_option maxRecDepth 100000 in
theorem c_X3_readParts {l : Launch} {D : va_G} {cy : Nat → ClassId} {g : Gs} {aD : Nat → Nat} {aT : Nat → Nat} {aR : Nat → Nat} {aA : Nat → Nat} {σD : St2} {σT : St2} {σR : St2} {σA : St2 × (Int64)} {N : Nat} {out : Bool × St2 × (St2 × (Int64))} (hf : f_X3_readParts N σD σT σR σA = some out) : CW l D cy g yX3_readParts cX3_readParts 2 (some .boolean) 7 148 (wD aD aT aR (.ref (aA 0)) σD ++ wT aT cy σT ++ wR aR cy σR ++ wA aA cy σA) [.ref (aD 0)] (some (.int (bI out.1))) (wD aD aT aR (.ref (aA 0)) out.2.1 ++ wT aT cy σT ++ wR aR cy σR ++ wA aA cy out.2.2) := by
  unfold f_X3_readParts at hf
  refine met_W (lv := [(0, .ref (aD 0))]) (by decide) (Nat.le_of_ble_eq_true rfl) rfl ?_
  intro p e s m args below meth c A F hK hS hA
  refine j_iconst (pc := 0) F (v := 0) dX3_readParts_0 rfl ?_
  refine j_istore_n (pc := 1) (lv' := [(1, .int 0), (0, .ref (aD 0))]) F dX3_readParts_1 rfl (by decide) rfl ?_
  refine j_sub [1, 0] rfl ?_
  exact b_X3_readParts_2 F hK hS hA N σD σA 0 hf
theorem cf_X3_readParts : cfV yX3_readParts cX3_readParts 2 (some .boolean) 0 := ⟨tm_572, tm_9, tm_59, tm_573, by decide, by decide, by decide +kernel⟩

def f_X3_readCalendar (N : Nat) (σD : St2) (σT : St2) (σA : St2 × (Int64)) : Option (Bool × St2 × (St2 × (Int64))) := (f_X3_advance N σD σT).bind fun o_1 => (f_X3_isWord N o_1 σT 13).bind fun o_2 => if (bI o_2) = 0 then (f_X3_isWord N o_1 σT 14).bind fun o_4 => if (bI o_4) = 0 then (f_X3_isWord N o_1 σT 15).bind fun o_6 => if (bI o_6) = 0 then some (((f_X3_refuse o_1 1 (o_1 0 4)).1), (f_X3_refuse o_1 1 (o_1 0 4)).2, σA) else some (true, up2 o_1 0 6 2, (f_X0_setCalendar σA 2)) else some (true, up2 o_1 0 6 1, (f_X0_setCalendar σA 1)) else some (true, up2 o_1 0 6 0, (f_X0_setCalendar σA 0))
set_option maxHeartbeats 4000000 in
set_option maxRecDepth 100000 in
theorem c_X3_readCalendar {l : Launch} {D : va_G} {cy : Nat → ClassId} {g : Gs} {aD : Nat → Nat} {aT : Nat → Nat} {aA : Nat → Nat} {aR : Nat → Nat} {σD : St2} {σT : St2} {σA : St2 × (Int64)} {N : Nat} {out : Bool × St2 × (St2 × (Int64))} (hf : f_X3_readCalendar N σD σT σA = some out) : CW l D cy g yX3_readCalendar cX3_readCalendar 1 (some .boolean) 5 107 (wD aD aT aR (.ref (aA 0)) σD ++ wT aT cy σT ++ wA aA cy σA) [.ref (aD 0)] (some (.int (bI out.1))) (wD aD aT aR (.ref (aA 0)) out.2.1 ++ wT aT cy σT ++ wA aA cy out.2.2) := by
  unfold f_X3_readCalendar at hf
  refine met_W (lv := [(0, .ref (aD 0))]) (by decide) (Nat.le_of_ble_eq_true rfl) rfl ?_
  intro p e s m args below meth c A F hK hS hA
  refine j_aload_n (pc := 0) F 0 dX3_readCalendar_0 rfl rfl ?_
  obtain ⟨o_1, ho_1, hf⟩ := of_bnd hf
  refine j_callWV (pc := 1) (st := []) (st1 := []) (wr := wA aA cy σA) (w' := wD aD aT aR (.ref (aA 0)) o_1 ++ wT aT cy σT ++ wA aA cy σA) F hK hS hA (c_X3_advance (l := l) (D := D) (cy := cy) (g := g) (aD := aD) (aT := aT) (aR := aR) (ra := (.ref (aA 0))) ho_1) tm_474 cf_X3_advance (Nat.le_of_ble_eq_true rfl) (Nat.le_of_ble_eq_true rfl) ⟨Nat.zero_le _, Nat.zero_le _⟩ 0 rfl rfl rfl rfl rfl (Nat.le_of_ble_eq_true rfl) [0, 1, 2] [3, 4] [2, 3, 4, 0, 1] rfl rfl rfl rfl (by decide) rfl rfl rfl dX3_readCalendar_1 ?_
  refine j_aload_n (pc := 4) F 0 dX3_readCalendar_4 rfl rfl ?_
  refine jw_ldcS (pc := 5) F hS 13 (by decide) rfl dX3_readCalendar_5 ?_
  obtain ⟨o_2, ho_2, hf⟩ := of_bnd hf
  refine j_callRV (pc := 7) (st := []) (st1 := [.int (bI o_2)]) F hK (hpW hS (hp_sub [0, 1, 2] rfl)) (c_X3_isWord (l := l) (D := D) (cy := cy) (g := g) (aD := aD) (aT := aT) (aR := aR) (ra := (.ref (aA 0))) (hkw := by decide) ho_2) tm_496 cf_X3_isWord (Nat.le_of_ble_eq_true rfl) (Nat.le_of_ble_eq_true rfl) ⟨Nat.zero_le _, Nat.zero_le _⟩ 0 rfl rfl rfl rfl rfl (Nat.le_of_ble_eq_true rfl) rfl dX3_readCalendar_7 ?_
  refine j_if_eq (pc := 10) (tgt := 21) F dX3_readCalendar_10 rfl (fun c_3 => ?_) (fun c_3 => ?_)
  · have hf := of_pos c_3 hf
    refine j_aload_n (pc := 21) F 0 dX3_readCalendar_21 rfl rfl ?_
    refine jw_ldcS (pc := 22) F hS 14 (by decide) rfl dX3_readCalendar_22 ?_
    obtain ⟨o_4, ho_4, hf⟩ := of_bnd hf
    refine j_callRV (pc := 24) (st := []) (st1 := [.int (bI o_4)]) F hK (hpW hS (hp_sub [0, 1, 2] rfl)) (c_X3_isWord (l := l) (D := D) (cy := cy) (g := g) (aD := aD) (aT := aT) (aR := aR) (ra := (.ref (aA 0))) (hkw := by decide) ho_4) tm_496 cf_X3_isWord (Nat.le_of_ble_eq_true rfl) (Nat.le_of_ble_eq_true rfl) ⟨Nat.zero_le _, Nat.zero_le _⟩ 0 rfl rfl rfl rfl rfl (Nat.le_of_ble_eq_true rfl) rfl dX3_readCalendar_24 ?_
    refine j_if_eq (pc := 27) (tgt := 38) F dX3_readCalendar_27 rfl (fun c_5 => ?_) (fun c_5 => ?_)
    · have hf := of_pos c_5 hf
      refine j_aload_n (pc := 38) F 0 dX3_readCalendar_38 rfl rfl ?_
      refine jw_ldcS (pc := 39) F hS 15 (by decide) rfl dX3_readCalendar_39 ?_
      obtain ⟨o_6, ho_6, hf⟩ := of_bnd hf
      refine j_callRV (pc := 41) (st := []) (st1 := [.int (bI o_6)]) F hK (hpW hS (hp_sub [0, 1, 2] rfl)) (c_X3_isWord (l := l) (D := D) (cy := cy) (g := g) (aD := aD) (aT := aT) (aR := aR) (ra := (.ref (aA 0))) (hkw := by decide) ho_6) tm_496 cf_X3_isWord (Nat.le_of_ble_eq_true rfl) (Nat.le_of_ble_eq_true rfl) ⟨Nat.zero_le _, Nat.zero_le _⟩ 0 rfl rfl rfl rfl rfl (Nat.le_of_ble_eq_true rfl) rfl dX3_readCalendar_41 ?_
      refine j_if_eq (pc := 44) (tgt := 55) F dX3_readCalendar_44 rfl (fun c_7 => ?_) (fun c_7 => ?_)
      · have hf := of_pos c_7 hf
        refine j_aload_n (pc := 55) F 0 dX3_readCalendar_55 rfl rfl ?_
        refine j_iconst (pc := 56) F (v := 1) dX3_readCalendar_56 rfl ?_
        refine j_aload_n (pc := 57) F 0 dX3_readCalendar_57 rfl rfl ?_
        refine jw_get (pc := 58) (v := .int (o_1 0 4)) F hK ix_3 0 rfl rfl 4 (by decide) tm_196 rfl rfl dX3_readCalendar_58 ?_
        refine j_callWV (pc := 61) (st := []) (st1 := [.int (bI ((f_X3_refuse o_1 1 (o_1 0 4)).1))]) (wr := wT aT cy σT ++ wA aA cy σA) (w' := wD aD aT aR (.ref (aA 0)) ((f_X3_refuse o_1 1 (o_1 0 4)).2) ++ wT aT cy σT ++ wA aA cy σA) F hK hS hA (c_X3_refuse (l := l) (D := D) (cy := cy) (g := g) (aD := aD) (aT := aT) (aR := aR) (ra := (.ref (aA 0))) (rfl : f_X3_refuse o_1 1 (o_1 0 4) = _)) tm_549 cf_X3_refuse (Nat.le_of_ble_eq_true rfl) (Nat.le_of_ble_eq_true rfl) ⟨Nat.zero_le _, Nat.zero_le _⟩ 0 rfl rfl rfl rfl rfl (Nat.le_of_ble_eq_true rfl) [0] [1, 2, 3, 4] [4, 0, 1, 2, 3] rfl rfl rfl rfl (by decide) rfl rfl rfl dX3_readCalendar_61 ?_
        have hf := (Option.some.inj hf)
        subst hf
        exact j_zretW (pc := 64) F dX3_readCalendar_64 rfl rfl
      · have hf := of_neg c_7 hf
        refine j_aload_n (pc := 47) F 0 dX3_readCalendar_47 rfl rfl ?_
        refine j_iconst (pc := 48) F (v := 2) dX3_readCalendar_48 rfl ?_
        refine jw_put (pc := 49) (w' := wD aD aT aR (.ref (aA 0)) (up2 o_1 0 6 2) ++ wT aT cy σT ++ wA aA cy σA) F hK ix_3 tyX3 tyX3_ok nmX3 0 rfl rfl 6 (by decide) tm_198 rfl rfl rfl rfl rfl (Nat.le_of_ble_eq_true rfl) rfl dX3_readCalendar_49 ?_
        refine j_goto (pc := 52) F (tgt := 65) dX3_readCalendar_52 rfl ?_
        refine j_aload_n (pc := 65) F 0 dX3_readCalendar_65 rfl rfl ?_
        refine jw_get (pc := 66) (v := .ref (aA 0)) F hK ix_3 0 rfl rfl 2 (by decide) tm_194 rfl rfl dX3_readCalendar_66 ?_
        refine j_aload_n (pc := 69) F 0 dX3_readCalendar_69 rfl rfl ?_
        refine jw_get (pc := 70) (v := .int 2) F hK ix_3 0 rfl rfl 6 (by decide) tm_198 rfl rfl dX3_readCalendar_70 ?_
        refine j_callWV (pc := 73) (st := []) (st1 := []) (wr := wD aD aT aR (.ref (aA 0)) (up2 o_1 0 6 2) ++ wT aT cy σT) (w' := wD aD aT aR (.ref (aA 0)) (up2 o_1 0 6 2) ++ wT aT cy σT ++ wA aA cy (f_X0_setCalendar σA 2)) F hK hS hA (c_X0_setCalendar (l := l) (D := D) (cy := cy) (g := g) (aA := aA) (rfl : f_X0_setCalendar σA 2 = _)) tm_617 cf_X0_setCalendar (Nat.le_of_ble_eq_true rfl) (Nat.le_of_ble_eq_true rfl) ⟨Nat.zero_le _, Nat.zero_le _⟩ 0 rfl rfl rfl rfl rfl (Nat.le_of_ble_eq_true rfl) [3, 4] [0, 1, 2] [0, 1, 2, 3, 4] rfl rfl rfl rfl (by decide) rfl rfl rfl dX3_readCalendar_73 ?_
        refine j_iconst (pc := 76) F (v := 1) dX3_readCalendar_76 rfl ?_
        have hf := (Option.some.inj hf)
        subst hf
        exact j_zretW (pc := 77) F dX3_readCalendar_77 rfl rfl
    · have hf := of_neg c_5 hf
      refine j_aload_n (pc := 30) F 0 dX3_readCalendar_30 rfl rfl ?_
      refine j_iconst (pc := 31) F (v := 1) dX3_readCalendar_31 rfl ?_
      refine jw_put (pc := 32) (w' := wD aD aT aR (.ref (aA 0)) (up2 o_1 0 6 1) ++ wT aT cy σT ++ wA aA cy σA) F hK ix_3 tyX3 tyX3_ok nmX3 0 rfl rfl 6 (by decide) tm_198 rfl rfl rfl rfl rfl (Nat.le_of_ble_eq_true rfl) rfl dX3_readCalendar_32 ?_
      refine j_goto (pc := 35) F (tgt := 65) dX3_readCalendar_35 rfl ?_
      refine j_aload_n (pc := 65) F 0 dX3_readCalendar_65 rfl rfl ?_
      refine jw_get (pc := 66) (v := .ref (aA 0)) F hK ix_3 0 rfl rfl 2 (by decide) tm_194 rfl rfl dX3_readCalendar_66 ?_
      refine j_aload_n (pc := 69) F 0 dX3_readCalendar_69 rfl rfl ?_
      refine jw_get (pc := 70) (v := .int 1) F hK ix_3 0 rfl rfl 6 (by decide) tm_198 rfl rfl dX3_readCalendar_70 ?_
      refine j_callWV (pc := 73) (st := []) (st1 := []) (wr := wD aD aT aR (.ref (aA 0)) (up2 o_1 0 6 1) ++ wT aT cy σT) (w' := wD aD aT aR (.ref (aA 0)) (up2 o_1 0 6 1) ++ wT aT cy σT ++ wA aA cy (f_X0_setCalendar σA 1)) F hK hS hA (c_X0_setCalendar (l := l) (D := D) (cy := cy) (g := g) (aA := aA) (rfl : f_X0_setCalendar σA 1 = _)) tm_617 cf_X0_setCalendar (Nat.le_of_ble_eq_true rfl) (Nat.le_of_ble_eq_true rfl) ⟨Nat.zero_le _, Nat.zero_le _⟩ 0 rfl rfl rfl rfl rfl (Nat.le_of_ble_eq_true rfl) [3, 4] [0, 1, 2] [0, 1, 2, 3, 4] rfl rfl rfl rfl (by decide) rfl rfl rfl dX3_readCalendar_73 ?_
      refine j_iconst (pc := 76) F (v := 1) dX3_readCalendar_76 rfl ?_
      have hf := (Option.some.inj hf)
      subst hf
      exact j_zretW (pc := 77) F dX3_readCalendar_77 rfl rfl
  · have hf := of_neg c_3 hf
    refine j_aload_n (pc := 13) F 0 dX3_readCalendar_13 rfl rfl ?_
    refine j_iconst (pc := 14) F (v := 0) dX3_readCalendar_14 rfl ?_
    refine jw_put (pc := 15) (w' := wD aD aT aR (.ref (aA 0)) (up2 o_1 0 6 0) ++ wT aT cy σT ++ wA aA cy σA) F hK ix_3 tyX3 tyX3_ok nmX3 0 rfl rfl 6 (by decide) tm_198 rfl rfl rfl rfl rfl (Nat.le_of_ble_eq_true rfl) rfl dX3_readCalendar_15 ?_
    refine j_goto (pc := 18) F (tgt := 65) dX3_readCalendar_18 rfl ?_
    refine j_aload_n (pc := 65) F 0 dX3_readCalendar_65 rfl rfl ?_
    refine jw_get (pc := 66) (v := .ref (aA 0)) F hK ix_3 0 rfl rfl 2 (by decide) tm_194 rfl rfl dX3_readCalendar_66 ?_
    refine j_aload_n (pc := 69) F 0 dX3_readCalendar_69 rfl rfl ?_
    refine jw_get (pc := 70) (v := .int 0) F hK ix_3 0 rfl rfl 6 (by decide) tm_198 rfl rfl dX3_readCalendar_70 ?_
    refine j_callWV (pc := 73) (st := []) (st1 := []) (wr := wD aD aT aR (.ref (aA 0)) (up2 o_1 0 6 0) ++ wT aT cy σT) (w' := wD aD aT aR (.ref (aA 0)) (up2 o_1 0 6 0) ++ wT aT cy σT ++ wA aA cy (f_X0_setCalendar σA 0)) F hK hS hA (c_X0_setCalendar (l := l) (D := D) (cy := cy) (g := g) (aA := aA) (rfl : f_X0_setCalendar σA 0 = _)) tm_617 cf_X0_setCalendar (Nat.le_of_ble_eq_true rfl) (Nat.le_of_ble_eq_true rfl) ⟨Nat.zero_le _, Nat.zero_le _⟩ 0 rfl rfl rfl rfl rfl (Nat.le_of_ble_eq_true rfl) [3, 4] [0, 1, 2] [0, 1, 2, 3, 4] rfl rfl rfl rfl (by decide) rfl rfl rfl dX3_readCalendar_73 ?_
    refine j_iconst (pc := 76) F (v := 1) dX3_readCalendar_76 rfl ?_
    have hf := (Option.some.inj hf)
    subst hf
    exact j_zretW (pc := 77) F dX3_readCalendar_77 rfl rfl
theorem cf_X3_readCalendar : cfV yX3_readCalendar cX3_readCalendar 1 (some .boolean) 0 := ⟨tm_612, tm_14, tm_59, tm_613, by decide, by decide, by decide +kernel⟩

def f_X3_readClose (N : Nat) (σD : St2) (σT : St2) : Option (Bool × St2) := (f_X3_advance N σD σT).bind fun o_1 => (f_X6_byteAt σT (o_1 0 4)).bind fun o_2 => if o_2 = 59 then (f_X3_advance N o_1 σT).bind fun o_4 => if (o_4 0 3) = 0 then some (true, o_4) else if (bI ((f_X3_refuse o_4 1 (o_4 0 4)).1)) = 0 then some (false, (f_X3_refuse o_4 1 (o_4 0 4)).2) else some (true, (f_X3_refuse o_4 1 (o_4 0 4)).2) else some (((f_X3_refuse o_1 1 (o_1 0 4)).1), (f_X3_refuse o_1 1 (o_1 0 4)).2)
set_option maxHeartbeats 4000000 in
set_option maxRecDepth 100000 in
theorem c_X3_readClose {l : Launch} {D : va_G} {cy : Nat → ClassId} {g : Gs} {aD : Nat → Nat} {aT : Nat → Nat} {aR : Nat → Nat} {ra : Value} {σD : St2} {σT : St2} {N : Nat} {out : Bool × St2} (hf : f_X3_readClose N σD σT = some out) : CW l D cy g yX3_readClose cX3_readClose 1 (some .boolean) 3 64 (wD aD aT aR ra σD ++ wT aT cy σT) [.ref (aD 0)] (some (.int (bI out.1))) (wD aD aT aR ra out.2 ++ wT aT cy σT) := by
  unfold f_X3_readClose at hf
  refine met_W (lv := [(0, .ref (aD 0))]) (by decide) (Nat.le_of_ble_eq_true rfl) rfl ?_
  intro p e s m args below meth c A F hK hS hA
  refine j_aload_n (pc := 0) F 0 dX3_readClose_0 rfl rfl ?_
  obtain ⟨o_1, ho_1, hf⟩ := of_bnd hf
  refine j_callWs (pc := 1) (st := []) (st1 := []) (w' := wD aD aT aR ra o_1 ++ wT aT cy σT) F hK hS hA (c_X3_advance (l := l) (D := D) (cy := cy) (g := g) (aD := aD) (aT := aT) (aR := aR) (ra := ra) ho_1) tm_474 cf_X3_advance (Nat.le_of_ble_eq_true rfl) (Nat.le_of_ble_eq_true rfl) ⟨Nat.zero_le _, Nat.zero_le _⟩ 0 rfl rfl rfl rfl rfl (Nat.le_of_ble_eq_true rfl) rfl dX3_readClose_1 ?_
  refine j_aload_n (pc := 4) F 0 dX3_readClose_4 rfl rfl ?_
  refine jw_get (pc := 5) (v := .ref (aT 0)) F hK ix_3 0 rfl rfl 0 (by decide) tm_192 rfl rfl dX3_readClose_5 ?_
  refine j_aload_n (pc := 8) F 0 dX3_readClose_8 rfl rfl ?_
  refine jw_get (pc := 9) (v := .int (o_1 0 4)) F hK ix_3 0 rfl rfl 4 (by decide) tm_196 rfl rfl dX3_readClose_9 ?_
  obtain ⟨o_2, ho_2, hf⟩ := of_bnd hf
  refine j_callRV (pc := 12) (st := []) (st1 := [.int o_2]) F hK (hpW hS (hp_sub [1, 2] rfl)) (c_X6_byteAt (l := l) (D := D) (cy := cy) (g := g) (aT := aT) ho_2) tm_479 cf_X6_byteAt (Nat.le_of_ble_eq_true rfl) (Nat.le_of_ble_eq_true rfl) ⟨Nat.zero_le _, Nat.zero_le _⟩ 0 rfl rfl rfl rfl rfl (Nat.le_of_ble_eq_true rfl) rfl dX3_readClose_12 ?_
  refine j_bipush (pc := 15) F (v := 59) dX3_readClose_15 rfl ?_
  refine j_icmp_eq (pc := 17) (tgt := 30) F dX3_readClose_17 rfl (fun c_3 => ?_) (fun c_3 => ?_)
  · have hf := of_pos c_3 hf
    refine j_aload_n (pc := 30) F 0 dX3_readClose_30 rfl rfl ?_
    obtain ⟨o_4, ho_4, hf⟩ := of_bnd hf
    refine j_callWs (pc := 31) (st := []) (st1 := []) (w' := wD aD aT aR ra o_4 ++ wT aT cy σT) F hK hS hA (c_X3_advance (l := l) (D := D) (cy := cy) (g := g) (aD := aD) (aT := aT) (aR := aR) (ra := ra) ho_4) tm_474 cf_X3_advance (Nat.le_of_ble_eq_true rfl) (Nat.le_of_ble_eq_true rfl) ⟨Nat.zero_le _, Nat.zero_le _⟩ 0 rfl rfl rfl rfl rfl (Nat.le_of_ble_eq_true rfl) rfl dX3_readClose_31 ?_
    refine j_aload_n (pc := 34) F 0 dX3_readClose_34 rfl rfl ?_
    refine jw_get (pc := 35) (v := .int (o_4 0 3)) F hK ix_3 0 rfl rfl 3 (by decide) tm_195 rfl rfl dX3_readClose_35 ?_
    refine j_if_eq (pc := 38) (tgt := 53) F dX3_readClose_38 rfl (fun c_5 => ?_) (fun c_5 => ?_)
    · have hf := of_pos c_5 hf
      refine j_iconst (pc := 53) F (v := 1) dX3_readClose_53 rfl ?_
      refine j_goto (pc := 54) F (tgt := 58) dX3_readClose_54 rfl ?_
      have hf := (Option.some.inj hf)
      subst hf
      exact j_zretW (pc := 58) F dX3_readClose_58 rfl rfl
    · have hf := of_neg c_5 hf
      refine j_aload_n (pc := 41) F 0 dX3_readClose_41 rfl rfl ?_
      refine j_iconst (pc := 42) F (v := 1) dX3_readClose_42 rfl ?_
      refine j_aload_n (pc := 43) F 0 dX3_readClose_43 rfl rfl ?_
      refine jw_get (pc := 44) (v := .int (o_4 0 4)) F hK ix_3 0 rfl rfl 4 (by decide) tm_196 rfl rfl dX3_readClose_44 ?_
      refine j_callWV (pc := 47) (st := []) (st1 := [.int (bI ((f_X3_refuse o_4 1 (o_4 0 4)).1))]) (wr := wT aT cy σT) (w' := wD aD aT aR ra ((f_X3_refuse o_4 1 (o_4 0 4)).2) ++ wT aT cy σT) F hK hS hA (c_X3_refuse (l := l) (D := D) (cy := cy) (g := g) (aD := aD) (aT := aT) (aR := aR) (ra := ra) (rfl : f_X3_refuse o_4 1 (o_4 0 4) = _)) tm_549 cf_X3_refuse (Nat.le_of_ble_eq_true rfl) (Nat.le_of_ble_eq_true rfl) ⟨Nat.zero_le _, Nat.zero_le _⟩ 0 rfl rfl rfl rfl rfl (Nat.le_of_ble_eq_true rfl) [0] [1, 2] [2, 0, 1] rfl rfl rfl rfl (by decide) rfl rfl rfl dX3_readClose_47 ?_
      refine j_if_eq (pc := 50) (tgt := 57) F dX3_readClose_50 rfl (fun c_7 => ?_) (fun c_7 => ?_)
      · have hf := of_pos c_7 hf
        refine j_iconst (pc := 57) F (v := 0) dX3_readClose_57 rfl ?_
        have hf := (Option.some.inj hf)
        subst hf
        exact j_zretW (pc := 58) F dX3_readClose_58 rfl rfl
      · have hf := of_neg c_7 hf
        refine j_iconst (pc := 53) F (v := 1) dX3_readClose_53 rfl ?_
        refine j_goto (pc := 54) F (tgt := 58) dX3_readClose_54 rfl ?_
        have hf := (Option.some.inj hf)
        subst hf
        exact j_zretW (pc := 58) F dX3_readClose_58 rfl rfl
  · have hf := of_neg c_3 hf
    refine j_aload_n (pc := 20) F 0 dX3_readClose_20 rfl rfl ?_
    refine j_iconst (pc := 21) F (v := 1) dX3_readClose_21 rfl ?_
    refine j_aload_n (pc := 22) F 0 dX3_readClose_22 rfl rfl ?_
    refine jw_get (pc := 23) (v := .int (o_1 0 4)) F hK ix_3 0 rfl rfl 4 (by decide) tm_196 rfl rfl dX3_readClose_23 ?_
    refine j_callWV (pc := 26) (st := []) (st1 := [.int (bI ((f_X3_refuse o_1 1 (o_1 0 4)).1))]) (wr := wT aT cy σT) (w' := wD aD aT aR ra ((f_X3_refuse o_1 1 (o_1 0 4)).2) ++ wT aT cy σT) F hK hS hA (c_X3_refuse (l := l) (D := D) (cy := cy) (g := g) (aD := aD) (aT := aT) (aR := aR) (ra := ra) (rfl : f_X3_refuse o_1 1 (o_1 0 4) = _)) tm_549 cf_X3_refuse (Nat.le_of_ble_eq_true rfl) (Nat.le_of_ble_eq_true rfl) ⟨Nat.zero_le _, Nat.zero_le _⟩ 0 rfl rfl rfl rfl rfl (Nat.le_of_ble_eq_true rfl) [0] [1, 2] [2, 0, 1] rfl rfl rfl rfl (by decide) rfl rfl rfl dX3_readClose_26 ?_
    have hf := (Option.some.inj hf)
    subst hf
    exact j_zretW (pc := 29) F dX3_readClose_29 rfl rfl
theorem cf_X3_readClose : cfV yX3_readClose cX3_readClose 1 (some .boolean) 0 := ⟨tm_623, tm_15, tm_59, tm_624, by decide, by decide, by decide +kernel⟩

def f_X3_joinRuler (σD : St2) (σR : St2) (σA : St2 × (Int64)) : Option (Bool × St2 × (St2 × (Int64))) := if (σD 0 7) = (-1) then some (true, σD, σA) else (f_X4_calendarOf σR (σD 0 7)).bind fun o_2 => if o_2 = (σD 0 6) then (f_X4_firstYearOf σR (σD 0 7)).bind fun o_4 => some (true, σD, (f_X0_setYearZero σA (o_4 - 1))) else some (((f_X3_refuse σD 3 (σD 0 8)).1), (f_X3_refuse σD 3 (σD 0 8)).2, σA)
set_option maxHeartbeats 4000000 in
set_option maxRecDepth 100000 in
theorem c_X3_joinRuler {l : Launch} {D : va_G} {cy : Nat → ClassId} {g : Gs} {aD : Nat → Nat} {aR : Nat → Nat} {aA : Nat → Nat} {aT : Nat → Nat} {σD : St2} {σR : St2} {σA : St2 × (Int64)} {out : Bool × St2 × (St2 × (Int64))} (hf : f_X3_joinRuler σD σR σA = some out) : CW l D cy g yX3_joinRuler cX3_joinRuler 1 (some .boolean) 2 42 (wD aD aT aR (.ref (aA 0)) σD ++ wR aR cy σR ++ wA aA cy σA) [.ref (aD 0)] (some (.int (bI out.1))) (wD aD aT aR (.ref (aA 0)) out.2.1 ++ wR aR cy σR ++ wA aA cy out.2.2) := by
  unfold f_X3_joinRuler at hf
  refine met_W (lv := [(0, .ref (aD 0))]) (by decide) (Nat.le_of_ble_eq_true rfl) rfl ?_
  intro p e s m args below meth c A F hK hS hA
  refine j_aload_n (pc := 0) F 0 dX3_joinRuler_0 rfl rfl ?_
  refine jw_get (pc := 1) (v := .int (σD 0 7)) F hK ix_3 0 rfl rfl 7 (by decide) tm_199 rfl rfl dX3_joinRuler_1 ?_
  refine j_iconst (pc := 4) F (v := (-1)) dX3_joinRuler_4 rfl ?_
  refine j_icmp_ne (pc := 5) (tgt := 10) F dX3_joinRuler_5 rfl (fun c_1 => ?_) (fun c_1 => ?_)
  · have hf := of_neg c_1 hf
    refine j_aload_n (pc := 10) F 0 dX3_joinRuler_10 rfl rfl ?_
    refine jw_get (pc := 11) (v := .ref (aR 0)) F hK ix_3 0 rfl rfl 1 (by decide) tm_193 rfl rfl dX3_joinRuler_11 ?_
    refine j_aload_n (pc := 14) F 0 dX3_joinRuler_14 rfl rfl ?_
    refine jw_get (pc := 15) (v := .int (σD 0 7)) F hK ix_3 0 rfl rfl 7 (by decide) tm_199 rfl rfl dX3_joinRuler_15 ?_
    obtain ⟨o_2, ho_2, hf⟩ := of_bnd hf
    refine j_callRV (pc := 18) (st := []) (st1 := [.int o_2]) F hK (hpW hS (hp_sub [1, 2, 3, 4] rfl)) (c_X4_calendarOf (l := l) (D := D) (cy := cy) (g := g) (aR := aR) ho_2) tm_629 cf_X4_calendarOf (Nat.le_of_ble_eq_true rfl) (Nat.le_of_ble_eq_true rfl) ⟨Nat.zero_le _, Nat.zero_le _⟩ 0 rfl rfl rfl rfl rfl (Nat.le_of_ble_eq_true rfl) rfl dX3_joinRuler_18 ?_
    refine j_aload_n (pc := 21) F 0 dX3_joinRuler_21 rfl rfl ?_
    refine jw_get (pc := 22) (v := .int (σD 0 6)) F hK ix_3 0 rfl rfl 6 (by decide) tm_198 rfl rfl dX3_joinRuler_22 ?_
    refine j_icmp_eq (pc := 25) (tgt := 38) F dX3_joinRuler_25 rfl (fun c_3 => ?_) (fun c_3 => ?_)
    · have hf := of_pos c_3 hf
      refine j_aload_n (pc := 38) F 0 dX3_joinRuler_38 rfl rfl ?_
      refine jw_get (pc := 39) (v := .ref (aA 0)) F hK ix_3 0 rfl rfl 2 (by decide) tm_194 rfl rfl dX3_joinRuler_39 ?_
      refine j_aload_n (pc := 42) F 0 dX3_joinRuler_42 rfl rfl ?_
      refine jw_get (pc := 43) (v := .ref (aR 0)) F hK ix_3 0 rfl rfl 1 (by decide) tm_193 rfl rfl dX3_joinRuler_43 ?_
      refine j_aload_n (pc := 46) F 0 dX3_joinRuler_46 rfl rfl ?_
      refine jw_get (pc := 47) (v := .int (σD 0 7)) F hK ix_3 0 rfl rfl 7 (by decide) tm_199 rfl rfl dX3_joinRuler_47 ?_
      obtain ⟨o_4, ho_4, hf⟩ := of_bnd hf
      refine j_callRV (pc := 50) (st := [.ref (aA 0)]) (st1 := [.int o_4, .ref (aA 0)]) F hK (hpW hS (hp_sub [1, 2, 3, 4] rfl)) (c_X4_firstYearOf (l := l) (D := D) (cy := cy) (g := g) (aR := aR) ho_4) tm_637 cf_X4_firstYearOf (Nat.le_of_ble_eq_true rfl) (Nat.le_of_ble_eq_true rfl) ⟨Nat.zero_le _, Nat.zero_le _⟩ 0 rfl rfl rfl rfl rfl (Nat.le_of_ble_eq_true rfl) rfl dX3_joinRuler_50 ?_
      refine j_iconst (pc := 53) F (v := 1) dX3_joinRuler_53 rfl ?_
      refine j_isub (pc := 54) F dX3_joinRuler_54 ?_
      refine j_callWV (pc := 55) (st := []) (st1 := []) (wr := wD aD aT aR (.ref (aA 0)) σD ++ wR aR cy σR) (w' := wD aD aT aR (.ref (aA 0)) σD ++ wR aR cy σR ++ wA aA cy (f_X0_setYearZero σA (o_4 - 1))) F hK hS hA (c_X0_setYearZero (l := l) (D := D) (cy := cy) (g := g) (aA := aA) (rfl : f_X0_setYearZero σA (o_4 - 1) = _)) tm_641 cf_X0_setYearZero (Nat.le_of_ble_eq_true rfl) (Nat.le_of_ble_eq_true rfl) ⟨Nat.zero_le _, Nat.zero_le _⟩ 0 rfl rfl rfl rfl rfl (Nat.le_of_ble_eq_true rfl) [5, 6] [0, 1, 2, 3, 4] [0, 1, 2, 3, 4, 5, 6] rfl rfl rfl rfl (by decide) rfl rfl rfl dX3_joinRuler_55 ?_
      refine j_iconst (pc := 58) F (v := 1) dX3_joinRuler_58 rfl ?_
      have hf := (Option.some.inj hf)
      subst hf
      exact j_zretW (pc := 59) F dX3_joinRuler_59 rfl rfl
    · have hf := of_neg c_3 hf
      refine j_aload_n (pc := 28) F 0 dX3_joinRuler_28 rfl rfl ?_
      refine j_iconst (pc := 29) F (v := 3) dX3_joinRuler_29 rfl ?_
      refine j_aload_n (pc := 30) F 0 dX3_joinRuler_30 rfl rfl ?_
      refine jw_get (pc := 31) (v := .int (σD 0 8)) F hK ix_3 0 rfl rfl 8 (by decide) tm_200 rfl rfl dX3_joinRuler_31 ?_
      refine j_callWV (pc := 34) (st := []) (st1 := [.int (bI ((f_X3_refuse σD 3 (σD 0 8)).1))]) (wr := wR aR cy σR ++ wA aA cy σA) (w' := wD aD aT aR (.ref (aA 0)) ((f_X3_refuse σD 3 (σD 0 8)).2) ++ wR aR cy σR ++ wA aA cy σA) F hK hS hA (c_X3_refuse (l := l) (D := D) (cy := cy) (g := g) (aD := aD) (aT := aT) (aR := aR) (ra := (.ref (aA 0))) (rfl : f_X3_refuse σD 3 (σD 0 8) = _)) tm_549 cf_X3_refuse (Nat.le_of_ble_eq_true rfl) (Nat.le_of_ble_eq_true rfl) ⟨Nat.zero_le _, Nat.zero_le _⟩ 0 rfl rfl rfl rfl rfl (Nat.le_of_ble_eq_true rfl) [0] [1, 2, 3, 4, 5, 6] [6, 0, 1, 2, 3, 4, 5] rfl rfl rfl rfl (by decide) rfl rfl rfl dX3_joinRuler_34 ?_
      have hf := (Option.some.inj hf)
      subst hf
      exact j_zretW (pc := 37) F dX3_joinRuler_37 rfl rfl
  · have hf := of_pos c_1 hf
    refine j_iconst (pc := 8) F (v := 1) dX3_joinRuler_8 rfl ?_
    have hf := (Option.some.inj hf)
    subst hf
    exact j_zretW (pc := 9) F dX3_joinRuler_9 rfl rfl
theorem cf_X3_joinRuler : cfV yX3_joinRuler cX3_joinRuler 1 (some .boolean) 0 := ⟨tm_627, tm_16, tm_59, tm_628, by decide, by decide, by decide +kernel⟩

def f_X3_read (N : Nat) (σD : St2) (σT : St2) (σR : St2) (σA : St2 × (Int64)) (x2 : Int32) : Option (Bool × St2 × (St2 × (Int64))) := (f_X0_clear N σA x2).bind fun o_1 => (f_X3_advance N (up2 (up2 (up2 (up2 (up2 (up2 σD 0 3 0) 0 5 0) 0 6 (-1)) 0 7 (-1)) 0 9 0) 0 10 (-1)) σT).bind fun o_2 => (f_X3_readWhat N o_2 σT o_1).bind fun o_3 => if (bI o_3.1) = 0 then some (false, o_3.2.1, o_3.2.2) else (f_X3_readParts N o_3.2.1 σT σR o_3.2.2).bind fun o_5 => if (bI o_5.1) = 0 then some (false, o_5.2.1, o_5.2.2) else (f_X3_readCalendar N o_5.2.1 σT o_5.2.2).bind fun o_7 => if (bI o_7.1) = 0 then some (false, o_7.2.1, o_7.2.2) else (f_X3_readClose N o_7.2.1 σT).bind fun o_9 => if (bI o_9.1) = 0 then some (false, o_9.2, o_7.2.2) else (f_X3_joinRuler o_9.2 σR o_7.2.2).bind fun o_11 => if (bI o_11.1) = 0 then some (false, o_11.2.1, o_11.2.2) else some (true, o_11.2.1, o_11.2.2)
set_option maxHeartbeats 4000000 in
set_option maxRecDepth 100000 in
theorem c_X3_read {l : Launch} {D : va_G} {cy : Nat → ClassId} {g : Gs} {aD : Nat → Nat} {aT : Nat → Nat} {aR : Nat → Nat} {aA : Nat → Nat} {ra : Value} {σD : St2} {σT : St2} {σR : St2} {σA : St2 × (Int64)} {N : Nat} {x2 : Int32} {out : Bool × St2 × (St2 × (Int64))} (hf : f_X3_read N σD σT σR σA x2 = some out) : CW l D cy g yX3_read cX3_read 3 (some .boolean) 8 169 (wD aD aT aR ra σD ++ wT aT cy σT ++ wR aR cy σR ++ wA aA cy σA) [.ref (aD 0), .ref (aA 0), .int x2] (some (.int (bI out.1))) (wD aD aT aR (.ref (aA 0)) out.2.1 ++ wT aT cy σT ++ wR aR cy σR ++ wA aA cy out.2.2) := by
  unfold f_X3_read at hf
  refine met_W (lv := [(0, .ref (aD 0)), (1, .ref (aA 0)), (2, .int x2)]) (by decide) (Nat.le_of_ble_eq_true rfl) rfl ?_
  intro p e s m args below meth c A F hK hS hA
  refine j_aload_n (pc := 0) F 0 dX3_read_0 rfl rfl ?_
  refine j_aload_n (pc := 1) F 1 dX3_read_1 rfl rfl ?_
  refine jw_put (pc := 2) (w' := wD aD aT aR (.ref (aA 0)) σD ++ wT aT cy σT ++ wR aR cy σR ++ wA aA cy σA) F hK ix_3 tyX3 tyX3_ok nmX3 0 rfl rfl 2 (by decide) tm_194 rfl rfl rfl rfl rfl (Nat.le_of_ble_eq_true rfl) rfl dX3_read_2 ?_
  refine j_aload_n (pc := 5) F 0 dX3_read_5 rfl rfl ?_
  refine jw_get (pc := 6) (v := .ref (aA 0)) F hK ix_3 0 rfl rfl 2 (by decide) tm_194 rfl rfl dX3_read_6 ?_
  refine j_iload_n (pc := 9) F 2 dX3_read_9 rfl rfl ?_
  obtain ⟨o_1, ho_1, hf⟩ := of_bnd hf
  refine j_callWV (pc := 10) (st := []) (st1 := []) (wr := wD aD aT aR (.ref (aA 0)) σD ++ wT aT cy σT ++ wR aR cy σR) (w' := wD aD aT aR (.ref (aA 0)) σD ++ wT aT cy σT ++ wR aR cy σR ++ wA aA cy o_1) F hK hS hA (c_X0_clear (l := l) (D := D) (cy := cy) (g := g) (aA := aA) ho_1) tm_470 cf_X0_clear (Nat.le_of_ble_eq_true rfl) (Nat.le_of_ble_eq_true rfl) ⟨Nat.zero_le _, Nat.zero_le _⟩ 0 rfl rfl rfl rfl rfl (Nat.le_of_ble_eq_true rfl) [7, 8] [0, 1, 2, 3, 4, 5, 6] [0, 1, 2, 3, 4, 5, 6, 7, 8] rfl rfl rfl rfl (by decide) rfl rfl rfl dX3_read_10 ?_
  refine j_aload_n (pc := 13) F 0 dX3_read_13 rfl rfl ?_
  refine j_iconst (pc := 14) F (v := 0) dX3_read_14 rfl ?_
  refine jw_put (pc := 15) (w' := wD aD aT aR (.ref (aA 0)) (up2 σD 0 3 0) ++ wT aT cy σT ++ wR aR cy σR ++ wA aA cy o_1) F hK ix_3 tyX3 tyX3_ok nmX3 0 rfl rfl 3 (by decide) tm_195 rfl rfl rfl rfl rfl (Nat.le_of_ble_eq_true rfl) rfl dX3_read_15 ?_
  refine j_aload_n (pc := 18) F 0 dX3_read_18 rfl rfl ?_
  refine j_iconst (pc := 19) F (v := 0) dX3_read_19 rfl ?_
  refine jw_put (pc := 20) (w' := wD aD aT aR (.ref (aA 0)) (up2 (up2 σD 0 3 0) 0 5 0) ++ wT aT cy σT ++ wR aR cy σR ++ wA aA cy o_1) F hK ix_3 tyX3 tyX3_ok nmX3 0 rfl rfl 5 (by decide) tm_197 rfl rfl rfl rfl rfl (Nat.le_of_ble_eq_true rfl) rfl dX3_read_20 ?_
  refine j_aload_n (pc := 23) F 0 dX3_read_23 rfl rfl ?_
  refine j_iconst (pc := 24) F (v := (-1)) dX3_read_24 rfl ?_
  refine jw_put (pc := 25) (w' := wD aD aT aR (.ref (aA 0)) (up2 (up2 (up2 σD 0 3 0) 0 5 0) 0 6 (-1)) ++ wT aT cy σT ++ wR aR cy σR ++ wA aA cy o_1) F hK ix_3 tyX3 tyX3_ok nmX3 0 rfl rfl 6 (by decide) tm_198 rfl rfl rfl rfl rfl (Nat.le_of_ble_eq_true rfl) rfl dX3_read_25 ?_
  refine j_aload_n (pc := 28) F 0 dX3_read_28 rfl rfl ?_
  refine j_iconst (pc := 29) F (v := (-1)) dX3_read_29 rfl ?_
  refine jw_put (pc := 30) (w' := wD aD aT aR (.ref (aA 0)) (up2 (up2 (up2 (up2 σD 0 3 0) 0 5 0) 0 6 (-1)) 0 7 (-1)) ++ wT aT cy σT ++ wR aR cy σR ++ wA aA cy o_1) F hK ix_3 tyX3 tyX3_ok nmX3 0 rfl rfl 7 (by decide) tm_199 rfl rfl rfl rfl rfl (Nat.le_of_ble_eq_true rfl) rfl dX3_read_30 ?_
  refine j_aload_n (pc := 33) F 0 dX3_read_33 rfl rfl ?_
  refine j_iconst (pc := 34) F (v := 0) dX3_read_34 rfl ?_
  refine jw_put (pc := 35) (w' := wD aD aT aR (.ref (aA 0)) (up2 (up2 (up2 (up2 (up2 σD 0 3 0) 0 5 0) 0 6 (-1)) 0 7 (-1)) 0 9 0) ++ wT aT cy σT ++ wR aR cy σR ++ wA aA cy o_1) F hK ix_3 tyX3 tyX3_ok nmX3 0 rfl rfl 9 (by decide) tm_201 rfl rfl rfl rfl rfl (Nat.le_of_ble_eq_true rfl) rfl dX3_read_35 ?_
  refine j_aload_n (pc := 38) F 0 dX3_read_38 rfl rfl ?_
  refine j_iconst (pc := 39) F (v := (-1)) dX3_read_39 rfl ?_
  refine jw_put (pc := 40) (w' := wD aD aT aR (.ref (aA 0)) (up2 (up2 (up2 (up2 (up2 (up2 σD 0 3 0) 0 5 0) 0 6 (-1)) 0 7 (-1)) 0 9 0) 0 10 (-1)) ++ wT aT cy σT ++ wR aR cy σR ++ wA aA cy o_1) F hK ix_3 tyX3 tyX3_ok nmX3 0 rfl rfl 10 (by decide) tm_202 rfl rfl rfl rfl rfl (Nat.le_of_ble_eq_true rfl) rfl dX3_read_40 ?_
  refine j_aload_n (pc := 43) F 0 dX3_read_43 rfl rfl ?_
  obtain ⟨o_2, ho_2, hf⟩ := of_bnd hf
  refine j_callWV (pc := 44) (st := []) (st1 := []) (wr := wR aR cy σR ++ wA aA cy o_1) (w' := wD aD aT aR (.ref (aA 0)) o_2 ++ wT aT cy σT ++ wR aR cy σR ++ wA aA cy o_1) F hK hS hA (c_X3_advance (l := l) (D := D) (cy := cy) (g := g) (aD := aD) (aT := aT) (aR := aR) (ra := (.ref (aA 0))) ho_2) tm_474 cf_X3_advance (Nat.le_of_ble_eq_true rfl) (Nat.le_of_ble_eq_true rfl) ⟨Nat.zero_le _, Nat.zero_le _⟩ 0 rfl rfl rfl rfl rfl (Nat.le_of_ble_eq_true rfl) [0, 1, 2] [3, 4, 5, 6, 7, 8] [6, 7, 8, 0, 1, 2, 3, 4, 5] rfl rfl rfl rfl (by decide) rfl rfl rfl dX3_read_44 ?_
  refine j_aload_n (pc := 47) F 0 dX3_read_47 rfl rfl ?_
  obtain ⟨o_3, ho_3, hf⟩ := of_bnd hf
  refine j_callWV (pc := 48) (st := []) (st1 := [.int (bI o_3.1)]) (wr := wR aR cy σR) (w' := wD aD aT aR (.ref (aA 0)) o_3.2.1 ++ wT aT cy σT ++ wR aR cy σR ++ wA aA cy o_3.2.2) F hK hS hA (c_X3_readWhat (l := l) (D := D) (cy := cy) (g := g) (aD := aD) (aT := aT) (aA := aA) (aR := aR) ho_3) tm_491 cf_X3_readWhat (Nat.le_of_ble_eq_true rfl) (Nat.le_of_ble_eq_true rfl) ⟨Nat.zero_le _, Nat.zero_le _⟩ 0 rfl rfl rfl rfl rfl (Nat.le_of_ble_eq_true rfl) [0, 1, 2, 7, 8] [3, 4, 5, 6] [4, 5, 6, 0, 1, 2, 3, 7, 8] rfl rfl rfl rfl (by decide) rfl rfl rfl dX3_read_48 ?_
  refine j_if_eq (pc := 51) (tgt := 86) F dX3_read_51 rfl (fun c_4 => ?_) (fun c_4 => ?_)
  · have hf := of_pos c_4 hf
    refine j_iconst (pc := 86) F (v := 0) dX3_read_86 rfl ?_
    have hf := (Option.some.inj hf)
    subst hf
    exact j_zretW (pc := 87) F dX3_read_87 rfl rfl
  · have hf := of_neg c_4 hf
    refine j_aload_n (pc := 54) F 0 dX3_read_54 rfl rfl ?_
    obtain ⟨o_5, ho_5, hf⟩ := of_bnd hf
    refine j_callWs (pc := 55) (st := []) (st1 := [.int (bI o_5.1)]) (w' := wD aD aT aR (.ref (aA 0)) o_5.2.1 ++ wT aT cy σT ++ wR aR cy σR ++ wA aA cy o_5.2.2) F hK hS hA (c_X3_readParts (l := l) (D := D) (cy := cy) (g := g) (aD := aD) (aT := aT) (aR := aR) (aA := aA) ho_5) tm_570 cf_X3_readParts (Nat.le_of_ble_eq_true rfl) (Nat.le_of_ble_eq_true rfl) ⟨Nat.zero_le _, Nat.zero_le _⟩ 0 rfl rfl rfl rfl rfl (Nat.le_of_ble_eq_true rfl) rfl dX3_read_55 ?_
    refine j_if_eq (pc := 58) (tgt := 86) F dX3_read_58 rfl (fun c_6 => ?_) (fun c_6 => ?_)
    · have hf := of_pos c_6 hf
      refine j_iconst (pc := 86) F (v := 0) dX3_read_86 rfl ?_
      have hf := (Option.some.inj hf)
      subst hf
      exact j_zretW (pc := 87) F dX3_read_87 rfl rfl
    · have hf := of_neg c_6 hf
      refine j_aload_n (pc := 61) F 0 dX3_read_61 rfl rfl ?_
      obtain ⟨o_7, ho_7, hf⟩ := of_bnd hf
      refine j_callWV (pc := 62) (st := []) (st1 := [.int (bI o_7.1)]) (wr := wR aR cy σR) (w' := wD aD aT aR (.ref (aA 0)) o_7.2.1 ++ wT aT cy σT ++ wR aR cy σR ++ wA aA cy o_7.2.2) F hK hS hA (c_X3_readCalendar (l := l) (D := D) (cy := cy) (g := g) (aD := aD) (aT := aT) (aA := aA) (aR := aR) ho_7) tm_610 cf_X3_readCalendar (Nat.le_of_ble_eq_true rfl) (Nat.le_of_ble_eq_true rfl) ⟨Nat.zero_le _, Nat.zero_le _⟩ 0 rfl rfl rfl rfl rfl (Nat.le_of_ble_eq_true rfl) [0, 1, 2, 7, 8] [3, 4, 5, 6] [4, 5, 6, 0, 1, 2, 3, 7, 8] rfl rfl rfl rfl (by decide) rfl rfl rfl dX3_read_62 ?_
      refine j_if_eq (pc := 65) (tgt := 86) F dX3_read_65 rfl (fun c_8 => ?_) (fun c_8 => ?_)
      · have hf := of_pos c_8 hf
        refine j_iconst (pc := 86) F (v := 0) dX3_read_86 rfl ?_
        have hf := (Option.some.inj hf)
        subst hf
        exact j_zretW (pc := 87) F dX3_read_87 rfl rfl
      · have hf := of_neg c_8 hf
        refine j_aload_n (pc := 68) F 0 dX3_read_68 rfl rfl ?_
        obtain ⟨o_9, ho_9, hf⟩ := of_bnd hf
        refine j_callWV (pc := 69) (st := []) (st1 := [.int (bI o_9.1)]) (wr := wR aR cy σR ++ wA aA cy o_7.2.2) (w' := wD aD aT aR (.ref (aA 0)) o_9.2 ++ wT aT cy σT ++ wR aR cy σR ++ wA aA cy o_7.2.2) F hK hS hA (c_X3_readClose (l := l) (D := D) (cy := cy) (g := g) (aD := aD) (aT := aT) (aR := aR) (ra := (.ref (aA 0))) ho_9) tm_621 cf_X3_readClose (Nat.le_of_ble_eq_true rfl) (Nat.le_of_ble_eq_true rfl) ⟨Nat.zero_le _, Nat.zero_le _⟩ 0 rfl rfl rfl rfl rfl (Nat.le_of_ble_eq_true rfl) [0, 1, 2] [3, 4, 5, 6, 7, 8] [6, 7, 8, 0, 1, 2, 3, 4, 5] rfl rfl rfl rfl (by decide) rfl rfl rfl dX3_read_69 ?_
        refine j_if_eq (pc := 72) (tgt := 86) F dX3_read_72 rfl (fun c_10 => ?_) (fun c_10 => ?_)
        · have hf := of_pos c_10 hf
          refine j_iconst (pc := 86) F (v := 0) dX3_read_86 rfl ?_
          have hf := (Option.some.inj hf)
          subst hf
          exact j_zretW (pc := 87) F dX3_read_87 rfl rfl
        · have hf := of_neg c_10 hf
          refine j_aload_n (pc := 75) F 0 dX3_read_75 rfl rfl ?_
          obtain ⟨o_11, ho_11, hf⟩ := of_bnd hf
          refine j_callWV (pc := 76) (st := []) (st1 := [.int (bI o_11.1)]) (wr := wT aT cy σT) (w' := wD aD aT aR (.ref (aA 0)) o_11.2.1 ++ wT aT cy σT ++ wR aR cy σR ++ wA aA cy o_11.2.2) F hK hS hA (c_X3_joinRuler (l := l) (D := D) (cy := cy) (g := g) (aD := aD) (aR := aR) (aA := aA) (aT := aT) ho_11) tm_625 cf_X3_joinRuler (Nat.le_of_ble_eq_true rfl) (Nat.le_of_ble_eq_true rfl) ⟨Nat.zero_le _, Nat.zero_le _⟩ 0 rfl rfl rfl rfl rfl (Nat.le_of_ble_eq_true rfl) [0, 3, 4, 5, 6, 7, 8] [1, 2] [2, 0, 1, 3, 4, 5, 6, 7, 8] rfl rfl rfl rfl (by decide) rfl rfl rfl dX3_read_76 ?_
          refine j_if_eq (pc := 79) (tgt := 86) F dX3_read_79 rfl (fun c_12 => ?_) (fun c_12 => ?_)
          · have hf := of_pos c_12 hf
            refine j_iconst (pc := 86) F (v := 0) dX3_read_86 rfl ?_
            have hf := (Option.some.inj hf)
            subst hf
            exact j_zretW (pc := 87) F dX3_read_87 rfl rfl
          · have hf := of_neg c_12 hf
            refine j_iconst (pc := 82) F (v := 1) dX3_read_82 rfl ?_
            refine j_goto (pc := 83) F (tgt := 87) dX3_read_83 rfl ?_
            have hf := (Option.some.inj hf)
            subst hf
            exact j_zretW (pc := 87) F dX3_read_87 rfl rfl
theorem cf_X3_read : cfV yX3_read cX3_read 3 (some .boolean) 2 := ⟨tm_467, tm_468, tm_59, tm_469, by decide, by decide, by decide +kernel⟩
