def f_X6_isLetter (x0 : Int32) : Bool := if x0 < 97 then false else if 122 < x0 then false else true
set_option maxHeartbeats 4000000 in
set_option maxRecDepth 100000 in
theorem c_X6_isLetter {l : Launch} {D : va_G} {cy : Nat → ClassId} {g : Gs} {x0 : Int32} {out : Bool} (hf : f_X6_isLetter x0 = out) : CR l D cy g yX6_isLetter cX6_isLetter 1 (some .boolean) 0 0 ([]) [.int x0] (some (.int (bI out))) := by
  unfold f_X6_isLetter at hf
  refine met_R (lv := [(0, .int x0)]) (by decide) (Nat.le_of_ble_eq_true rfl) rfl ?_
  intro p e s m args below meth c F hP hK hS
  refine j_iload_n (pc := 0) F 0 dX6_isLetter_0 rfl rfl ?_
  refine j_bipush (pc := 1) F (v := 97) dX6_isLetter_1 rfl ?_
  refine j_icmp_lt (pc := 3) (tgt := 16) F dX6_isLetter_3 rfl (fun c_1 => ?_) (fun c_1 => ?_)
  · have hf := of_pos c_1 hf
    refine j_iconst (pc := 16) F (v := 0) dX6_isLetter_16 rfl ?_
    exact j_zretR (pc := 17) F dX6_isLetter_17 (congrArg bI hf)
  · have hf := of_neg c_1 hf
    refine j_iload_n (pc := 6) F 0 dX6_isLetter_6 rfl rfl ?_
    refine j_bipush (pc := 7) F (v := 122) dX6_isLetter_7 rfl ?_
    refine j_icmp_gt (pc := 9) (tgt := 16) F dX6_isLetter_9 rfl (fun c_2 => ?_) (fun c_2 => ?_)
    · have hf := of_pos c_2 hf
      refine j_iconst (pc := 16) F (v := 0) dX6_isLetter_16 rfl ?_
      exact j_zretR (pc := 17) F dX6_isLetter_17 (congrArg bI hf)
    · have hf := of_neg c_2 hf
      refine j_iconst (pc := 12) F (v := 1) dX6_isLetter_12 rfl ?_
      refine j_goto (pc := 13) F (tgt := 17) dX6_isLetter_13 rfl ?_
      exact j_zretR (pc := 17) F dX6_isLetter_17 (congrArg bI hf)
theorem cf_X6_isLetter : cfS yX6_isLetter cX6_isLetter 1 (some .boolean) 1 := ⟨tm_438, tm_55, tm_439, by decide, by decide, by decide +kernel⟩

def f_X6_isDigit (x0 : Int32) : Bool := if x0 < 48 then false else if 57 < x0 then false else true
set_option maxHeartbeats 4000000 in
set_option maxRecDepth 100000 in
theorem c_X6_isDigit {l : Launch} {D : va_G} {cy : Nat → ClassId} {g : Gs} {x0 : Int32} {out : Bool} (hf : f_X6_isDigit x0 = out) : CR l D cy g yX6_isDigit cX6_isDigit 1 (some .boolean) 0 0 ([]) [.int x0] (some (.int (bI out))) := by
  unfold f_X6_isDigit at hf
  refine met_R (lv := [(0, .int x0)]) (by decide) (Nat.le_of_ble_eq_true rfl) rfl ?_
  intro p e s m args below meth c F hP hK hS
  refine j_iload_n (pc := 0) F 0 dX6_isDigit_0 rfl rfl ?_
  refine j_bipush (pc := 1) F (v := 48) dX6_isDigit_1 rfl ?_
  refine j_icmp_lt (pc := 3) (tgt := 16) F dX6_isDigit_3 rfl (fun c_1 => ?_) (fun c_1 => ?_)
  · have hf := of_pos c_1 hf
    refine j_iconst (pc := 16) F (v := 0) dX6_isDigit_16 rfl ?_
    exact j_zretR (pc := 17) F dX6_isDigit_17 (congrArg bI hf)
  · have hf := of_neg c_1 hf
    refine j_iload_n (pc := 6) F 0 dX6_isDigit_6 rfl rfl ?_
    refine j_bipush (pc := 7) F (v := 57) dX6_isDigit_7 rfl ?_
    refine j_icmp_gt (pc := 9) (tgt := 16) F dX6_isDigit_9 rfl (fun c_2 => ?_) (fun c_2 => ?_)
    · have hf := of_pos c_2 hf
      refine j_iconst (pc := 16) F (v := 0) dX6_isDigit_16 rfl ?_
      exact j_zretR (pc := 17) F dX6_isDigit_17 (congrArg bI hf)
    · have hf := of_neg c_2 hf
      refine j_iconst (pc := 12) F (v := 1) dX6_isDigit_12 rfl ?_
      refine j_goto (pc := 13) F (tgt := 17) dX6_isDigit_13 rfl ?_
      exact j_zretR (pc := 17) F dX6_isDigit_17 (congrArg bI hf)
theorem cf_X6_isDigit : cfS yX6_isDigit cX6_isDigit 1 (some .boolean) 1 := ⟨tm_489, tm_55, tm_490, by decide, by decide, by decide +kernel⟩

def f_X6_isBlank (x0 : Int32) : Bool := if x0 = 10 then true else if x0 = 32 then true else false
set_option maxHeartbeats 4000000 in
set_option maxRecDepth 100000 in
theorem c_X6_isBlank {l : Launch} {D : va_G} {cy : Nat → ClassId} {g : Gs} {x0 : Int32} {out : Bool} (hf : f_X6_isBlank x0 = out) : CR l D cy g yX6_isBlank cX6_isBlank 1 (some .boolean) 0 0 ([]) [.int x0] (some (.int (bI out))) := by
  unfold f_X6_isBlank at hf
  refine met_R (lv := [(0, .int x0)]) (by decide) (Nat.le_of_ble_eq_true rfl) rfl ?_
  intro p e s m args below meth c F hP hK hS
  refine j_iload_n (pc := 0) F 0 dX6_isBlank_0 rfl rfl ?_
  refine j_bipush (pc := 1) F (v := 10) dX6_isBlank_1 rfl ?_
  refine j_icmp_eq (pc := 3) (tgt := 12) F dX6_isBlank_3 rfl (fun c_1 => ?_) (fun c_1 => ?_)
  · have hf := of_pos c_1 hf
    refine j_iconst (pc := 12) F (v := 1) dX6_isBlank_12 rfl ?_
    refine j_goto (pc := 13) F (tgt := 17) dX6_isBlank_13 rfl ?_
    exact j_zretR (pc := 17) F dX6_isBlank_17 (congrArg bI hf)
  · have hf := of_neg c_1 hf
    refine j_iload_n (pc := 6) F 0 dX6_isBlank_6 rfl rfl ?_
    refine j_bipush (pc := 7) F (v := 32) dX6_isBlank_7 rfl ?_
    refine j_icmp_ne (pc := 9) (tgt := 16) F dX6_isBlank_9 rfl (fun c_2 => ?_) (fun c_2 => ?_)
    · have hf := of_neg c_2 hf
      refine j_iconst (pc := 16) F (v := 0) dX6_isBlank_16 rfl ?_
      exact j_zretR (pc := 17) F dX6_isBlank_17 (congrArg bI hf)
    · have hf := of_pos c_2 hf
      refine j_iconst (pc := 12) F (v := 1) dX6_isBlank_12 rfl ?_
      refine j_goto (pc := 13) F (tgt := 17) dX6_isBlank_13 rfl ?_
      exact j_zretR (pc := 17) F dX6_isBlank_17 (congrArg bI hf)
theorem cf_X6_isBlank : cfS yX6_isBlank cX6_isBlank 1 (some .boolean) 1 := ⟨tm_481, tm_55, tm_482, by decide, by decide, by decide +kernel⟩

def f_X6_size (σT : St2) : Int32 := σT 0 1
set_option maxHeartbeats 4000000 in
set_option maxRecDepth 100000 in
theorem c_X6_size {l : Launch} {D : va_G} {cy : Nat → ClassId} {g : Gs} {aT : Nat → Nat} {σT : St2} {out : Int32} (hf : f_X6_size σT = out) : CR l D cy g yX6_size cX6_size 1 (some .int) 0 0 (wT aT cy σT) [.ref (aT 0)] (some (.int out)) := by
  unfold f_X6_size at hf
  refine met_R (lv := [(0, .ref (aT 0))]) (by decide) (Nat.le_of_ble_eq_true rfl) rfl ?_
  intro p e s m args below meth c F hP hK hS
  refine j_aload_n (pc := 0) F 0 dX6_size_0 rfl rfl ?_
  refine jr_get (pc := 1) (v := .int (σT 0 1)) F hK hP ix_6 0 rfl rfl 1 (by decide) tm_119 rfl rfl dX6_size_1 ?_
  exact j_iretR (pc := 4) F dX6_size_4 hf
theorem cf_X6_size : cfV yX6_size cX6_size 1 (some .int) 0 := ⟨tm_414, tm_415, tm_55, tm_416, by decide, by decide, by decide +kernel⟩

def f_X6_hasRoom (σT : St2) : Bool := if 200 < ((σT 0 1) + 20) then false else true
set_option maxHeartbeats 4000000 in
set_option maxRecDepth 100000 in
theorem c_X6_hasRoom {l : Launch} {D : va_G} {cy : Nat → ClassId} {g : Gs} {aT : Nat → Nat} {σT : St2} {out : Bool} (hf : f_X6_hasRoom σT = out) : CR l D cy g yX6_hasRoom cX6_hasRoom 1 (some .boolean) 0 0 (wT aT cy σT) [.ref (aT 0)] (some (.int (bI out))) := by
  unfold f_X6_hasRoom at hf
  refine met_R (lv := [(0, .ref (aT 0))]) (by decide) (Nat.le_of_ble_eq_true rfl) rfl ?_
  intro p e s m args below meth c F hP hK hS
  refine j_aload_n (pc := 0) F 0 dX6_hasRoom_0 rfl rfl ?_
  refine jr_get (pc := 1) (v := .int (σT 0 1)) F hK hP ix_6 0 rfl rfl 1 (by decide) tm_119 rfl rfl dX6_hasRoom_1 ?_
  refine j_bipush (pc := 4) F (v := 20) dX6_hasRoom_4 rfl ?_
  refine j_iadd (pc := 6) F dX6_hasRoom_6 ?_
  refine j_sipush (pc := 7) F (v := 200) dX6_hasRoom_7 rfl ?_
  refine j_icmp_gt (pc := 10) (tgt := 17) F dX6_hasRoom_10 rfl (fun c_1 => ?_) (fun c_1 => ?_)
  · have hf := of_pos c_1 hf
    refine j_iconst (pc := 17) F (v := 0) dX6_hasRoom_17 rfl ?_
    exact j_zretR (pc := 18) F dX6_hasRoom_18 (congrArg bI hf)
  · have hf := of_neg c_1 hf
    refine j_iconst (pc := 13) F (v := 1) dX6_hasRoom_13 rfl ?_
    refine j_goto (pc := 14) F (tgt := 18) dX6_hasRoom_14 rfl ?_
    exact j_zretR (pc := 18) F dX6_hasRoom_18 (congrArg bI hf)
theorem cf_X6_hasRoom : cfV yX6_hasRoom cX6_hasRoom 1 (some .boolean) 0 := ⟨tm_406, tm_407, tm_55, tm_408, by decide, by decide, by decide +kernel⟩

def f_X6_addNumber_3 (N : Nat) : Nat → St2 → Int32 → Int32 → Option (St2)
  | 0, _, _, _ => none
  | n + 1, σT, y1, y2 => if y2 < 0 then some σT else if 200 ≤ (σT 0 1) then some σT else lt ((y1 >>> (y2 &&& 31)) &&& 255 : Int32) fun z_3 => if (σT 0 1) < 0 ∨ 200 ≤ Int32.toNatClampNeg (σT 0 1) then none else lt ((σT 0 1) + 1 : Int32) fun z_5 => f_X6_addNumber_3 N n (up2 (up2 σT 1 (Int32.toNatClampNeg (σT 0 1)) z_3) 0 1 z_5) y1 (y2 + (-8))
def f_X6_addNumber (N : Nat) (σT : St2) (x1 : Int32) : Option (St2) := f_X6_addNumber_3 N N σT x1 24
set_option maxHeartbeats 4000000 in
set_option maxRecDepth 100000 in
theorem b_X6_addNumber_3 {l : Launch} {D : va_G} {cy : Nat → ClassId} {g : Gs} {p : Program} {e : Env} {s : State} {m : MethodId} {args : Array Value} {below : List Frame} {meth : Method} {c : Code} {A : Nat → Prop} {aT : Nat → Nat} {N : Nat} {out : St2} (F : Fx p s m args meth c cX6_addNumber RX6 3 none) (hK : va_K D vwCl (tys cy) s) (hS : St g A s s.heap) (hA : ∀ q, s.heap.size ≤ q → A q) :
    ∀ (n : Nat) (σT : St2) (y1 : Int32) (y2 : Int32), f_X6_addNumber_3 N n σT y1 y2 = some out → J p l e { frames := 0, cells := 0, slots := 0, locals := 0 } s m args below meth c 3 (hW D A s (wT aT cy σT)) 0 0 (MQ below (QW D A none (wT aT cy out)) args s 0 0 A) 3 [(0, .ref (aT 0)), (1, .int y1), (2, .int y2)] [] := by
  intro n
  induction n with
  | zero =>
    intro σT y1 y2 hf
    cases hf
  | succ n ih =>
    intro σT y1 y2 hf
    rw [f_X6_addNumber_3] at hf
    refine j_iload_n (pc := 3) F 2 dX6_addNumber_3 rfl rfl ?_
    refine j_if_lt (pc := 4) (tgt := 49) F dX6_addNumber_4 rfl (fun c_1 => ?_) (fun c_1 => ?_)
    · have hf := of_pos c_1 hf
      have hf := (Option.some.inj hf)
      subst hf
      exact j_vretW (pc := 49) F dX6_addNumber_49 rfl
    · have hf := of_neg c_1 hf
      refine j_aload_n (pc := 7) F 0 dX6_addNumber_7 rfl rfl ?_
      refine jw_get (pc := 8) (v := .int (σT 0 1)) F hK ix_6 0 rfl rfl 1 (by decide) tm_119 rfl rfl dX6_addNumber_8 ?_
      refine j_sipush (pc := 11) F (v := 200) dX6_addNumber_11 rfl ?_
      refine j_icmp_ge (pc := 14) (tgt := 49) F dX6_addNumber_14 rfl (fun c_2 => ?_) (fun c_2 => ?_)
      · have hf := of_pos c_2 hf
        have hf := (Option.some.inj hf)
        subst hf
        exact j_vretW (pc := 49) F dX6_addNumber_49 rfl
      · have hf := of_neg c_2 hf
        refine j_aload_n (pc := 17) F 0 dX6_addNumber_17 rfl rfl ?_
        refine jw_get (pc := 18) (v := .ref (aT 1)) F hK ix_6 0 rfl rfl 0 (by decide) tm_118 rfl rfl dX6_addNumber_18 ?_
        refine j_aload_n (pc := 21) F 0 dX6_addNumber_21 rfl rfl ?_
        refine jw_get (pc := 22) (v := .int (σT 0 1)) F hK ix_6 0 rfl rfl 1 (by decide) tm_119 rfl rfl dX6_addNumber_22 ?_
        refine j_iload_n (pc := 25) F 1 dX6_addNumber_25 rfl rfl ?_
        refine j_iload_n (pc := 26) F 2 dX6_addNumber_26 rfl rfl ?_
        refine j_ishr (pc := 27) F dX6_addNumber_27 ?_
        refine j_sipush (pc := 28) F (v := 255) dX6_addNumber_28 rfl ?_
        refine j_iand (pc := 31) F dX6_addNumber_31 ?_
        obtain ⟨z_3, ez_3, hf⟩ := of_lt hf
        refine j_topi ez_3 ?_
        have c_4 : ¬ ((σT 0 1) < 0 ∨ 200 ≤ Int32.toNatClampNeg (σT 0 1)) := fun z => by rw [if_pos z] at hf; cases hf
        have hf := of_neg c_4 hf
        refine jw_iast (pc := 32) (w' := wT aT cy (up2 σT 1 (Int32.toNatClampNeg (σT 0 1)) z_3)) F hK 1 rfl c_4 (wT_row_1 _ _ _ _ _) dX6_addNumber_32 ?_
        refine j_aload_n (pc := 33) F 0 dX6_addNumber_33 rfl rfl ?_
        refine j_dup (pc := 34) F dX6_addNumber_34 rfl ?_
        refine jw_get (pc := 35) (v := .int (σT 0 1)) F hK ix_6 0 rfl rfl 1 (by decide) tm_119 rfl rfl dX6_addNumber_35 ?_
        refine j_iconst (pc := 38) F (v := 1) dX6_addNumber_38 rfl ?_
        refine j_iadd (pc := 39) F dX6_addNumber_39 ?_
        obtain ⟨z_5, ez_5, hf⟩ := of_lt hf
        refine j_topi ez_5 ?_
        refine jw_put (pc := 40) (w' := wT aT cy (up2 (up2 σT 1 (Int32.toNatClampNeg (σT 0 1)) z_3) 0 1 z_5)) F hK ix_6 tyX6 tyX6_ok nmX6 0 rfl rfl 1 (by decide) tm_119 rfl rfl rfl rfl rfl (Nat.le_of_ble_eq_true rfl) (wT_put_1 _ _ _ _) dX6_addNumber_40 ?_
        refine j_iinc (pc := 43) (v := y2 + (-8)) (lv' := [(2, .int (y2 + (-8))), (0, .ref (aT 0)), (1, .int y1)]) F 2 dX6_addNumber_43 rfl rfl (by decide) rfl ?_
        refine j_goto (pc := 46) F (tgt := 3) dX6_addNumber_46 rfl ?_
        refine j_sub [1, 2, 0] rfl ?_
        exact ih (up2 (up2 σT 1 (Int32.toNatClampNeg (σT 0 1)) z_3) 0 1 z_5) y1 (y2 + (-8)) hf
set_option maxHeartbeats 4000000 in
set_option maxRecDepth 100000 in
theorem c_X6_addNumber {l : Launch} {D : va_G} {cy : Nat → ClassId} {g : Gs} {aT : Nat → Nat} {σT : St2} {N : Nat} {x1 : Int32} {out : St2} (hf : f_X6_addNumber N σT x1 = some out) : CW l D cy g yX6_addNumber cX6_addNumber 3 none 0 0 (wT aT cy σT) [.ref (aT 0), .int x1] none (wT aT cy out) := by
  unfold f_X6_addNumber at hf
  refine met_W (lv := [(0, .ref (aT 0)), (1, .int x1)]) (by decide) (Nat.le_of_ble_eq_true rfl) rfl ?_
  intro p e s m args below meth c A F hK hS hA
  refine j_bipush (pc := 0) F (v := 24) dX6_addNumber_0 rfl ?_
  refine j_istore_n (pc := 2) (lv' := [(2, .int 24), (0, .ref (aT 0)), (1, .int x1)]) F dX6_addNumber_2 rfl (by decide) rfl ?_
  refine j_sub [1, 2, 0] rfl ?_
  exact b_X6_addNumber_3 F hK hS hA N σT x1 24 hf
theorem cf_X6_addNumber : cfV yX6_addNumber cX6_addNumber 3 none 1 := ⟨tm_410, tm_411, tm_55, tm_412, by decide, by decide, by decide +kernel⟩

def f_X6_cutTo (σT : St2) (x1 : Int32) : Bool × St2 := if x1 < 0 then (false, σT) else if x1 ≤ (σT 0 1) then (true, up2 σT 0 1 x1) else (false, σT)
set_option maxHeartbeats 4000000 in
set_option maxRecDepth 100000 in
theorem c_X6_cutTo {l : Launch} {D : va_G} {cy : Nat → ClassId} {g : Gs} {aT : Nat → Nat} {σT : St2} {x1 : Int32} {out : Bool × St2} (hf : f_X6_cutTo σT x1 = out) : CW l D cy g yX6_cutTo cX6_cutTo 2 (some .boolean) 0 0 (wT aT cy σT) [.ref (aT 0), .int x1] (some (.int (bI out.1))) (wT aT cy out.2) := by
  unfold f_X6_cutTo at hf
  refine met_W (lv := [(0, .ref (aT 0)), (1, .int x1)]) (by decide) (Nat.le_of_ble_eq_true rfl) rfl ?_
  intro p e s m args below meth c A F hK hS hA
  refine j_iload_n (pc := 0) F 1 dX6_cutTo_0 rfl rfl ?_
  refine j_if_lt (pc := 1) (tgt := 12) F dX6_cutTo_1 rfl (fun c_1 => ?_) (fun c_1 => ?_)
  · have hf := of_pos c_1 hf
    refine j_iconst (pc := 12) F (v := 0) dX6_cutTo_12 rfl ?_
    have hf := hf
    subst hf
    exact j_zretW (pc := 13) F dX6_cutTo_13 rfl rfl
  · have hf := of_neg c_1 hf
    refine j_iload_n (pc := 4) F 1 dX6_cutTo_4 rfl rfl ?_
    refine j_aload_n (pc := 5) F 0 dX6_cutTo_5 rfl rfl ?_
    refine jw_get (pc := 6) (v := .int (σT 0 1)) F hK ix_6 0 rfl rfl 1 (by decide) tm_119 rfl rfl dX6_cutTo_6 ?_
    refine j_icmp_le (pc := 9) (tgt := 14) F dX6_cutTo_9 rfl (fun c_2 => ?_) (fun c_2 => ?_)
    · have hf := of_pos c_2 hf
      refine j_aload_n (pc := 14) F 0 dX6_cutTo_14 rfl rfl ?_
      refine j_iload_n (pc := 15) F 1 dX6_cutTo_15 rfl rfl ?_
      refine jw_put (pc := 16) (w' := wT aT cy (up2 σT 0 1 x1)) F hK ix_6 tyX6 tyX6_ok nmX6 0 rfl rfl 1 (by decide) tm_119 rfl rfl rfl rfl rfl (Nat.le_of_ble_eq_true rfl) (wT_put_1 _ _ _ _) dX6_cutTo_16 ?_
      refine j_iconst (pc := 19) F (v := 1) dX6_cutTo_19 rfl ?_
      have hf := hf
      subst hf
      exact j_zretW (pc := 20) F dX6_cutTo_20 rfl rfl
    · have hf := of_neg c_2 hf
      refine j_iconst (pc := 12) F (v := 0) dX6_cutTo_12 rfl ?_
      have hf := hf
      subst hf
      exact j_zretW (pc := 13) F dX6_cutTo_13 rfl rfl
theorem cf_X6_cutTo : cfV yX6_cutTo cX6_cutTo 2 (some .boolean) 1 := ⟨tm_422, tm_423, tm_55, tm_424, by decide, by decide, by decide +kernel⟩

def f_X6_clear (σT : St2) : St2 := up2 σT 0 1 0
set_option maxHeartbeats 4000000 in
set_option maxRecDepth 100000 in
theorem c_X6_clear {l : Launch} {D : va_G} {cy : Nat → ClassId} {g : Gs} {aT : Nat → Nat} {σT : St2} {out : St2} (hf : f_X6_clear σT = out) : CW l D cy g yX6_clear cX6_clear 1 none 0 0 (wT aT cy σT) [.ref (aT 0)] none (wT aT cy out) := by
  unfold f_X6_clear at hf
  refine met_W (lv := [(0, .ref (aT 0))]) (by decide) (Nat.le_of_ble_eq_true rfl) rfl ?_
  intro p e s m args below meth c A F hK hS hA
  refine j_aload_n (pc := 0) F 0 dX6_clear_0 rfl rfl ?_
  refine j_iconst (pc := 1) F (v := 0) dX6_clear_1 rfl ?_
  refine jw_put (pc := 2) (w' := wT aT cy (up2 σT 0 1 0)) F hK ix_6 tyX6 tyX6_ok nmX6 0 rfl rfl 1 (by decide) tm_119 rfl rfl rfl rfl rfl (Nat.le_of_ble_eq_true rfl) (wT_put_1 _ _ _ _) dX6_clear_2 ?_
  have hf := hf
  subst hf
  exact j_vretW (pc := 5) F dX6_clear_5 rfl
theorem cf_X6_clear : cfV yX6_clear cX6_clear 1 none 0 := ⟨tm_441, tm_442, tm_55, tm_443, by decide, by decide, by decide +kernel⟩

def f_X6_byteAt (σT : St2) (x1 : Int32) : Option (Int32) := if x1 < 0 then some (-1) else if (σT 0 1) ≤ x1 then some (-1) else if x1 < 0 ∨ 200 ≤ Int32.toNatClampNeg x1 then none else some (σT 1 (Int32.toNatClampNeg x1))
set_option maxHeartbeats 4000000 in
set_option maxRecDepth 100000 in
theorem c_X6_byteAt {l : Launch} {D : va_G} {cy : Nat → ClassId} {g : Gs} {aT : Nat → Nat} {σT : St2} {x1 : Int32} {out : Int32} (hf : f_X6_byteAt σT x1 = some out) : CR l D cy g yX6_byteAt cX6_byteAt 2 (some .int) 0 0 (wT aT cy σT) [.ref (aT 0), .int x1] (some (.int out)) := by
  unfold f_X6_byteAt at hf
  refine met_R (lv := [(0, .ref (aT 0)), (1, .int x1)]) (by decide) (Nat.le_of_ble_eq_true rfl) rfl ?_
  intro p e s m args below meth c F hP hK hS
  refine j_iload_n (pc := 0) F 1 dX6_byteAt_0 rfl rfl ?_
  refine j_if_lt (pc := 1) (tgt := 21) F dX6_byteAt_1 rfl (fun c_1 => ?_) (fun c_1 => ?_)
  · have hf := of_pos c_1 hf
    refine j_iconst (pc := 21) F (v := (-1)) dX6_byteAt_21 rfl ?_
    exact j_iretR (pc := 22) F dX6_byteAt_22 (Option.some.inj hf)
  · have hf := of_neg c_1 hf
    refine j_iload_n (pc := 4) F 1 dX6_byteAt_4 rfl rfl ?_
    refine j_aload_n (pc := 5) F 0 dX6_byteAt_5 rfl rfl ?_
    refine jr_get (pc := 6) (v := .int (σT 0 1)) F hK hP ix_6 0 rfl rfl 1 (by decide) tm_119 rfl rfl dX6_byteAt_6 ?_
    refine j_icmp_ge (pc := 9) (tgt := 21) F dX6_byteAt_9 rfl (fun c_2 => ?_) (fun c_2 => ?_)
    · have hf := of_pos c_2 hf
      refine j_iconst (pc := 21) F (v := (-1)) dX6_byteAt_21 rfl ?_
      exact j_iretR (pc := 22) F dX6_byteAt_22 (Option.some.inj hf)
    · have hf := of_neg c_2 hf
      refine j_aload_n (pc := 12) F 0 dX6_byteAt_12 rfl rfl ?_
      refine jr_get (pc := 13) (v := .ref (aT 1)) F hK hP ix_6 0 rfl rfl 0 (by decide) tm_118 rfl rfl dX6_byteAt_13 ?_
      refine j_iload_n (pc := 16) F 1 dX6_byteAt_16 rfl rfl ?_
      have c_3 : ¬ (x1 < 0 ∨ 200 ≤ Int32.toNatClampNeg x1) := fun z => by rw [if_pos z] at hf; cases hf
      have hf := of_neg c_3 hf
      refine jr_iald (pc := 17) F hK hP 1 rfl c_3 dX6_byteAt_17 ?_
      refine j_goto (pc := 18) F (tgt := 22) dX6_byteAt_18 rfl ?_
      exact j_iretR (pc := 22) F dX6_byteAt_22 (Option.some.inj hf)
theorem cf_X6_byteAt : cfV yX6_byteAt cX6_byteAt 2 (some .int) 1 := ⟨tm_434, tm_435, tm_55, tm_436, by decide, by decide, by decide +kernel⟩

def f_X6_nameBetween_20 (N : Nat) : Nat → St2 → Int32 → Int32 → Int32 → Option (Int32)
  | 0, _, _, _, _ => none
  | n + 1, σT, y2, y3, y4 => if y2 ≤ y4 then some y3 else (f_X6_byteAt σT y4).bind fun o_2 => if (bI (f_X6_isLetter o_2)) = 0 then some (-1) else f_X6_nameBetween_20 N n σT y2 ((y3 <<< (5 &&& 31)) ||| ((o_2 - 97) + 1)) (y4 + 1)
def f_X6_nameBetween (N : Nat) (σT : St2) (x1 : Int32) (x2 : Int32) : Option (Int32) := if x2 ≤ x1 then some (-1) else if (x2 - x1) ≤ 6 then f_X6_nameBetween_20 N N σT x2 0 x1 else some (-1)
set_option maxHeartbeats 4000000 in
set_option maxRecDepth 100000 in
theorem b_X6_nameBetween_20 {l : Launch} {D : va_G} {cy : Nat → ClassId} {g : Gs} {p : Program} {e : Env} {s : State} {m : MethodId} {args : Array Value} {below : List Frame} {meth : Method} {c : Code} {aT : Nat → Nat} {σT : St2} {N : Nat} {out : Int32} (F : Fx p s m args meth c cX6_nameBetween RX6 6 (some .int)) (hP : va_P D vwCl (wT aT cy σT) s.heap) (hK : va_K D vwCl (tys cy) s) (hS : St g nA s s.heap) :
    ∀ (n : Nat) (y2 : Int32) (y3 : Int32) (y4 : Int32), f_X6_nameBetween_20 N n σT y2 y3 y4 = some out → J p l e { frames := 1, cells := 0, slots := 0, locals := 21 } s m args below meth c 6 (hR s) 0 0 (MQ below (QR (some (.int out))) args s 0 0 nA) 20 [(0, .ref (aT 0)), (2, .int y2), (3, .int y3), (4, .int y4)] [] := by
  intro n
  induction n with
  | zero =>
    intro y2 y3 y4 hf
    cases hf
  | succ n ih =>
    intro y2 y3 y4 hf
    rw [f_X6_nameBetween_20] at hf
    refine j_iload (pc := 20) F 3 dX6_nameBetween_20 rfl ?_
    refine j_iload_n (pc := 22) F 1 dX6_nameBetween_22 rfl rfl ?_
    refine j_icmp_ge (pc := 23) (tgt := 62) F dX6_nameBetween_23 rfl (fun c_1 => ?_) (fun c_1 => ?_)
    · have hf := of_pos c_1 hf
      refine j_iload_n (pc := 62) F 2 dX6_nameBetween_62 rfl rfl ?_
      exact j_iretR (pc := 63) F dX6_nameBetween_63 (Option.some.inj hf)
    · have hf := of_neg c_1 hf
      refine j_aload_n (pc := 26) F 0 dX6_nameBetween_26 rfl rfl ?_
      refine j_iload (pc := 27) F 3 dX6_nameBetween_27 rfl ?_
      obtain ⟨o_2, ho_2, hf⟩ := of_bnd hf
      refine j_callRV (pc := 29) (st := []) (st1 := [.int o_2]) F hK (hpR hP hS hp_id) (c_X6_byteAt (l := l) (D := D) (cy := cy) (g := g) (aT := aT) ho_2) tm_433 cf_X6_byteAt (Nat.le_of_ble_eq_true rfl) (Nat.le_of_ble_eq_true rfl) ⟨Nat.zero_le _, Nat.zero_le _⟩ 0 rfl rfl rfl rfl rfl (Nat.le_of_ble_eq_true rfl) rfl dX6_nameBetween_29 ?_
      refine j_istore (pc := 32) (lv' := [(5, .int o_2), (0, .ref (aT 0)), (2, .int y2), (3, .int y3), (4, .int y4)]) F dX6_nameBetween_32 (by decide) rfl ?_
      refine j_iload (pc := 34) F 0 dX6_nameBetween_34 rfl ?_
      refine j_callRS (pc := 36) (st := []) (st1 := [.int (bI (f_X6_isLetter o_2))]) F hK (hpR hP hS hp_nil) (c_X6_isLetter (l := l) (D := D) (cy := cy) (g := g) (rfl : f_X6_isLetter o_2 = _)) tm_437 cf_X6_isLetter (Nat.le_of_ble_eq_true rfl) (Nat.le_of_ble_eq_true rfl) ⟨Nat.zero_le _, Nat.zero_le _⟩ rfl rfl (Nat.le_of_ble_eq_true rfl) rfl dX6_nameBetween_36 ?_
      refine j_if_ne (pc := 39) (tgt := 44) F dX6_nameBetween_39 rfl (fun c_4 => ?_) (fun c_4 => ?_)
      · have hf := of_neg c_4 hf
        refine j_iload_n (pc := 44) F 3 dX6_nameBetween_44 rfl rfl ?_
        refine j_iconst (pc := 45) F (v := 5) dX6_nameBetween_45 rfl ?_
        refine j_ishl (pc := 46) F dX6_nameBetween_46 ?_
        refine j_iload (pc := 47) F 0 dX6_nameBetween_47 rfl ?_
        refine j_bipush (pc := 49) F (v := 97) dX6_nameBetween_49 rfl ?_
        refine j_isub (pc := 51) F dX6_nameBetween_51 ?_
        refine j_iconst (pc := 52) F (v := 1) dX6_nameBetween_52 rfl ?_
        refine j_iadd (pc := 53) F dX6_nameBetween_53 ?_
        refine j_ior (pc := 54) F dX6_nameBetween_54 ?_
        refine j_istore_n (pc := 55) (lv' := [(3, .int ((y3 <<< (5 &&& 31)) ||| ((o_2 - 97) + 1))), (5, .int o_2), (0, .ref (aT 0)), (2, .int y2), (4, .int y4)]) F dX6_nameBetween_55 rfl (by decide) rfl ?_
        refine j_iinc (pc := 56) (v := y4 + 1) (lv' := [(4, .int (y4 + 1)), (3, .int ((y3 <<< (5 &&& 31)) ||| ((o_2 - 97) + 1))), (5, .int o_2), (0, .ref (aT 0)), (2, .int y2)]) F 4 dX6_nameBetween_56 rfl rfl (by decide) rfl ?_
        refine j_goto (pc := 59) F (tgt := 20) dX6_nameBetween_59 rfl ?_
        refine j_sub [3, 4, 1, 0] rfl ?_
        exact ih y2 ((y3 <<< (5 &&& 31)) ||| ((o_2 - 97) + 1)) (y4 + 1) hf
      · have hf := of_pos c_4 hf
        refine j_iconst (pc := 42) F (v := (-1)) dX6_nameBetween_42 rfl ?_
        exact j_iretR (pc := 43) F dX6_nameBetween_43 (Option.some.inj hf)
set_option maxHeartbeats 4000000 in
set_option maxRecDepth 100000 in
theorem c_X6_nameBetween {l : Launch} {D : va_G} {cy : Nat → ClassId} {g : Gs} {aT : Nat → Nat} {σT : St2} {N : Nat} {x1 : Int32} {x2 : Int32} {out : Int32} (hf : f_X6_nameBetween N σT x1 x2 = some out) : CR l D cy g yX6_nameBetween cX6_nameBetween 6 (some .int) 1 21 (wT aT cy σT) [.ref (aT 0), .int x1, .int x2] (some (.int out)) := by
  unfold f_X6_nameBetween at hf
  refine met_R (lv := [(0, .ref (aT 0)), (1, .int x1), (2, .int x2)]) (by decide) (Nat.le_of_ble_eq_true rfl) rfl ?_
  intro p e s m args below meth c F hP hK hS
  refine j_iload_n (pc := 0) F 2 dX6_nameBetween_0 rfl rfl ?_
  refine j_iload_n (pc := 1) F 1 dX6_nameBetween_1 rfl rfl ?_
  refine j_icmp_le (pc := 2) (tgt := 13) F dX6_nameBetween_2 rfl (fun c_1 => ?_) (fun c_1 => ?_)
  · have hf := of_pos c_1 hf
    refine j_iconst (pc := 13) F (v := (-1)) dX6_nameBetween_13 rfl ?_
    exact j_iretR (pc := 14) F dX6_nameBetween_14 (Option.some.inj hf)
  · have hf := of_neg c_1 hf
    refine j_iload_n (pc := 5) F 2 dX6_nameBetween_5 rfl rfl ?_
    refine j_iload_n (pc := 6) F 1 dX6_nameBetween_6 rfl rfl ?_
    refine j_isub (pc := 7) F dX6_nameBetween_7 ?_
    refine j_bipush (pc := 8) F (v := 6) dX6_nameBetween_8 rfl ?_
    refine j_icmp_le (pc := 10) (tgt := 15) F dX6_nameBetween_10 rfl (fun c_2 => ?_) (fun c_2 => ?_)
    · have hf := of_pos c_2 hf
      refine j_iconst (pc := 15) F (v := 0) dX6_nameBetween_15 rfl ?_
      refine j_istore_n (pc := 16) (lv' := [(3, .int 0), (0, .ref (aT 0)), (1, .int x1), (2, .int x2)]) F dX6_nameBetween_16 rfl (by decide) rfl ?_
      refine j_iload_n (pc := 17) F 2 dX6_nameBetween_17 rfl rfl ?_
      refine j_istore (pc := 18) (lv' := [(4, .int x1), (3, .int 0), (0, .ref (aT 0)), (1, .int x1), (2, .int x2)]) F dX6_nameBetween_18 (by decide) rfl ?_
      refine j_sub [2, 4, 1, 0] rfl ?_
      exact b_X6_nameBetween_20 F hP hK hS N x2 0 x1 hf
    · have hf := of_neg c_2 hf
      refine j_iconst (pc := 13) F (v := (-1)) dX6_nameBetween_13 rfl ?_
      exact j_iretR (pc := 14) F dX6_nameBetween_14 (Option.some.inj hf)
theorem cf_X6_nameBetween : cfV yX6_nameBetween cX6_nameBetween 6 (some .int) 2 := ⟨tm_430, tm_431, tm_55, tm_432, by decide, by decide, by decide +kernel⟩

def f_X4_find_2 (N : Nat) : Nat → St2 → Int32 → Int32 → Option (Int32)
  | 0, _, _, _ => none
  | n + 1, σR, y1, y2 => if (σR 0 3) ≤ y2 then some (-1) else if y2 < 0 ∨ 12 ≤ Int32.toNatClampNeg y2 then none else if (σR 1 (Int32.toNatClampNeg y2)) = y1 then some y2 else f_X4_find_2 N n σR y1 (y2 + 1)
def f_X4_find (N : Nat) (σR : St2) (x1 : Int32) : Option (Int32) := f_X4_find_2 N N σR x1 0
set_option maxHeartbeats 4000000 in
set_option maxRecDepth 100000 in
theorem b_X4_find_2 {l : Launch} {D : va_G} {cy : Nat → ClassId} {g : Gs} {p : Program} {e : Env} {s : State} {m : MethodId} {args : Array Value} {below : List Frame} {meth : Method} {c : Code} {aR : Nat → Nat} {σR : St2} {N : Nat} {out : Int32} (F : Fx p s m args meth c cX4_find RX4 3 (some .int)) (hP : va_P D vwCl (wR aR cy σR) s.heap) (hK : va_K D vwCl (tys cy) s) (hS : St g nA s s.heap) :
    ∀ (n : Nat) (y1 : Int32) (y2 : Int32), f_X4_find_2 N n σR y1 y2 = some out → J p l e { frames := 0, cells := 0, slots := 0, locals := 0 } s m args below meth c 3 (hR s) 0 0 (MQ below (QR (some (.int out))) args s 0 0 nA) 2 [(0, .ref (aR 0)), (1, .int y1), (2, .int y2)] [] := by
  intro n
  induction n with
  | zero =>
    intro y1 y2 hf
    cases hf
  | succ n ih =>
    intro y1 y2 hf
    rw [f_X4_find_2] at hf
    refine j_iload_n (pc := 2) F 2 dX4_find_2 rfl rfl ?_
    refine j_aload_n (pc := 3) F 0 dX4_find_3 rfl rfl ?_
    refine jr_get (pc := 4) (v := .int (σR 0 3)) F hK hP ix_4 0 rfl rfl 3 (by decide) tm_134 rfl rfl dX4_find_4 ?_
    refine j_icmp_ge (pc := 7) (tgt := 28) F dX4_find_7 rfl (fun c_1 => ?_) (fun c_1 => ?_)
    · have hf := of_pos c_1 hf
      refine j_iconst (pc := 28) F (v := (-1)) dX4_find_28 rfl ?_
      exact j_iretR (pc := 29) F dX4_find_29 (Option.some.inj hf)
    · have hf := of_neg c_1 hf
      refine j_aload_n (pc := 10) F 0 dX4_find_10 rfl rfl ?_
      refine jr_get (pc := 11) (v := .ref (aR 1)) F hK hP ix_4 0 rfl rfl 0 (by decide) tm_131 rfl rfl dX4_find_11 ?_
      refine j_iload_n (pc := 14) F 2 dX4_find_14 rfl rfl ?_
      have c_2 : ¬ (y2 < 0 ∨ 12 ≤ Int32.toNatClampNeg y2) := fun z => by rw [if_pos z] at hf; cases hf
      have hf := of_neg c_2 hf
      refine jr_iald (pc := 15) F hK hP 1 rfl c_2 dX4_find_15 ?_
      refine j_iload_n (pc := 16) F 1 dX4_find_16 rfl rfl ?_
      refine j_icmp_ne (pc := 17) (tgt := 22) F dX4_find_17 rfl (fun c_3 => ?_) (fun c_3 => ?_)
      · have hf := of_neg c_3 hf
        refine j_iinc (pc := 22) (v := y2 + 1) (lv' := [(2, .int (y2 + 1)), (0, .ref (aR 0)), (1, .int y1)]) F 2 dX4_find_22 rfl rfl (by decide) rfl ?_
        refine j_goto (pc := 25) F (tgt := 2) dX4_find_25 rfl ?_
        refine j_sub [1, 2, 0] rfl ?_
        exact ih y1 (y2 + 1) hf
      · have hf := of_pos c_3 hf
        refine j_iload_n (pc := 20) F 2 dX4_find_20 rfl rfl ?_
        exact j_iretR (pc := 21) F dX4_find_21 (Option.some.inj hf)
set_option maxHeartbeats 4000000 in
set_option maxRecDepth 100000 in
theorem c_X4_find {l : Launch} {D : va_G} {cy : Nat → ClassId} {g : Gs} {aR : Nat → Nat} {σR : St2} {N : Nat} {x1 : Int32} {out : Int32} (hf : f_X4_find N σR x1 = some out) : CR l D cy g yX4_find cX4_find 3 (some .int) 0 0 (wR aR cy σR) [.ref (aR 0), .int x1] (some (.int out)) := by
  unfold f_X4_find at hf
  refine met_R (lv := [(0, .ref (aR 0)), (1, .int x1)]) (by decide) (Nat.le_of_ble_eq_true rfl) rfl ?_
  intro p e s m args below meth c F hP hK hS
  refine j_iconst (pc := 0) F (v := 0) dX4_find_0 rfl ?_
  refine j_istore_n (pc := 1) (lv' := [(2, .int 0), (0, .ref (aR 0)), (1, .int x1)]) F dX4_find_1 rfl (by decide) rfl ?_
  refine j_sub [1, 2, 0] rfl ?_
  exact b_X4_find_2 F hP hK hS N x1 0 hf
theorem cf_X4_find : cfV yX4_find cX4_find 3 (some .int) 1 := ⟨tm_450, tm_451, tm_56, tm_452, by decide, by decide, by decide +kernel⟩

def f_X4_begin_28 (N : Nat) (σR : St2) (y1 : Int32) (y2 : Int32) (y3 : Int32) (t0 : Int32) : Option (Int32 × St2) := if t0 = 0 then some ((-1), σR) else if 12 ≤ (σR 0 3) then some ((-1), σR) else (f_X4_find N σR y1).bind fun o_3 => if o_3 = (-1) then if (σR 0 3) < 0 ∨ 12 ≤ Int32.toNatClampNeg (σR 0 3) then none else if (σR 0 3) < 0 ∨ 12 ≤ Int32.toNatClampNeg (σR 0 3) then none else if (σR 0 3) < 0 ∨ 12 ≤ Int32.toNatClampNeg (σR 0 3) then none else lt ((σR 0 3) + 1 : Int32) fun z_8 => some (z_8, up2 (up2 (up2 (up2 σR 1 (Int32.toNatClampNeg (σR 0 3)) y1) 2 (Int32.toNatClampNeg (σR 0 3)) y2) 3 (Int32.toNatClampNeg (σR 0 3)) y3) 0 3 z_8) else some ((-1), σR)
def f_X4_begin_27 (N : Nat) (σR : St2) (y1 : Int32) (y2 : Int32) (y3 : Int32) : Option (Int32 × St2) := f_X4_begin_28 N σR y1 y2 y3 0
def f_X4_begin (N : Nat) (σR : St2) (x1 : Int32) (x2 : Int32) (x3 : Int32) : Option (Int32 × St2) := if x1 = (-1) then f_X4_begin_27 N σR x1 x2 x3 else if (bI (f_X2_isCalendar x2)) = 0 then f_X4_begin_27 N σR x1 x2 x3 else if x3 < 0 then f_X4_begin_27 N σR x1 x2 x3 else if 600 < x3 then f_X4_begin_27 N σR x1 x2 x3 else f_X4_begin_28 N σR x1 x2 x3 1
set_option maxHeartbeats 4000000 in
set_option maxRecDepth 100000 in
theorem b_X4_begin_28 {l : Launch} {D : va_G} {cy : Nat → ClassId} {g : Gs} {p : Program} {e : Env} {s : State} {m : MethodId} {args : Array Value} {below : List Frame} {meth : Method} {c : Code} {A : Nat → Prop} {aR : Nat → Nat} {N : Nat} {out : Int32 × St2} (F : Fx p s m args meth c cX4_begin RX4 5 (some .int)) (hK : va_K D vwCl (tys cy) s) (hS : St g A s s.heap) (hA : ∀ q, s.heap.size ≤ q → A q) :
    ∀ (σR : St2) (y1 : Int32) (y2 : Int32) (y3 : Int32) (t0 : Int32), f_X4_begin_28 N σR y1 y2 y3 t0 = some out → J p l e { frames := 1, cells := 0, slots := 0, locals := 22 } s m args below meth c 5 (hW D A s (wR aR cy σR)) 0 0 (MQ below (QW D A (some (.int out.1)) (wR aR cy out.2)) args s 0 0 A) 28 [(0, .ref (aR 0)), (1, .int y1), (2, .int y2), (3, .int y3)] [.int t0] := by
  intro σR y1 y2 y3 t0 hf
  unfold f_X4_begin_28 at hf
  refine j_istore (pc := 28) (lv' := [(4, .int t0), (0, .ref (aR 0)), (1, .int y1), (2, .int y2), (3, .int y3)]) F dX4_begin_28 (by decide) rfl ?_
  refine j_iload (pc := 30) F 0 dX4_begin_30 rfl ?_
  refine j_if_eq (pc := 32) (tgt := 53) F dX4_begin_32 rfl (fun c_1 => ?_) (fun c_1 => ?_)
  · have hf := of_pos c_1 hf
    refine j_iconst (pc := 53) F (v := (-1)) dX4_begin_53 rfl ?_
    have hf := (Option.some.inj hf)
    subst hf
    exact j_iretW (pc := 54) F dX4_begin_54 rfl rfl
  · have hf := of_neg c_1 hf
    refine j_aload_n (pc := 35) F 1 dX4_begin_35 rfl rfl ?_
    refine jw_get (pc := 36) (v := .int (σR 0 3)) F hK ix_4 0 rfl rfl 3 (by decide) tm_134 rfl rfl dX4_begin_36 ?_
    refine j_bipush (pc := 39) F (v := 12) dX4_begin_39 rfl ?_
    refine j_icmp_ge (pc := 41) (tgt := 53) F dX4_begin_41 rfl (fun c_2 => ?_) (fun c_2 => ?_)
    · have hf := of_pos c_2 hf
      refine j_iconst (pc := 53) F (v := (-1)) dX4_begin_53 rfl ?_
      have hf := (Option.some.inj hf)
      subst hf
      exact j_iretW (pc := 54) F dX4_begin_54 rfl rfl
    · have hf := of_neg c_2 hf
      refine j_aload_n (pc := 44) F 1 dX4_begin_44 rfl rfl ?_
      refine j_iload_n (pc := 45) F 2 dX4_begin_45 rfl rfl ?_
      obtain ⟨o_3, ho_3, hf⟩ := of_bnd hf
      refine j_callRV (pc := 46) (st := []) (st1 := [.int o_3]) F hK (hpW hS hp_id) (c_X4_find (l := l) (D := D) (cy := cy) (g := g) (aR := aR) ho_3) tm_449 cf_X4_find (Nat.le_of_ble_eq_true rfl) (Nat.le_of_ble_eq_true rfl) ⟨Nat.zero_le _, Nat.zero_le _⟩ 0 rfl rfl rfl rfl rfl (Nat.le_of_ble_eq_true rfl) rfl dX4_begin_46 ?_
      refine j_iconst (pc := 49) F (v := (-1)) dX4_begin_49 rfl ?_
      refine j_icmp_eq (pc := 50) (tgt := 55) F dX4_begin_50 rfl (fun c_4 => ?_) (fun c_4 => ?_)
      · have hf := of_pos c_4 hf
        refine j_aload_n (pc := 55) F 1 dX4_begin_55 rfl rfl ?_
        refine jw_get (pc := 56) (v := .ref (aR 1)) F hK ix_4 0 rfl rfl 0 (by decide) tm_131 rfl rfl dX4_begin_56 ?_
        refine j_aload_n (pc := 59) F 1 dX4_begin_59 rfl rfl ?_
        refine jw_get (pc := 60) (v := .int (σR 0 3)) F hK ix_4 0 rfl rfl 3 (by decide) tm_134 rfl rfl dX4_begin_60 ?_
        refine j_iload_n (pc := 63) F 2 dX4_begin_63 rfl rfl ?_
        have c_5 : ¬ ((σR 0 3) < 0 ∨ 12 ≤ Int32.toNatClampNeg (σR 0 3)) := fun z => by rw [if_pos z] at hf; cases hf
        have hf := of_neg c_5 hf
        refine jw_iast (pc := 64) (w' := wR aR cy (up2 σR 1 (Int32.toNatClampNeg (σR 0 3)) y1)) F hK 1 rfl c_5 (wR_row_1 _ _ _ _ _) dX4_begin_64 ?_
        refine j_aload_n (pc := 65) F 1 dX4_begin_65 rfl rfl ?_
        refine jw_get (pc := 66) (v := .ref (aR 2)) F hK ix_4 0 rfl rfl 1 (by decide) tm_132 rfl rfl dX4_begin_66 ?_
        refine j_aload_n (pc := 69) F 1 dX4_begin_69 rfl rfl ?_
        refine jw_get (pc := 70) (v := .int (σR 0 3)) F hK ix_4 0 rfl rfl 3 (by decide) tm_134 rfl rfl dX4_begin_70 ?_
        refine j_iload_n (pc := 73) F 3 dX4_begin_73 rfl rfl ?_
        have c_6 : ¬ ((σR 0 3) < 0 ∨ 12 ≤ Int32.toNatClampNeg (σR 0 3)) := fun z => by rw [if_pos z] at hf; cases hf
        have hf := of_neg c_6 hf
        refine jw_iast (pc := 74) (w' := wR aR cy (up2 (up2 σR 1 (Int32.toNatClampNeg (σR 0 3)) y1) 2 (Int32.toNatClampNeg (σR 0 3)) y2)) F hK 2 rfl c_6 (wR_row_2 _ _ _ _ _) dX4_begin_74 ?_
        refine j_aload_n (pc := 75) F 1 dX4_begin_75 rfl rfl ?_
        refine jw_get (pc := 76) (v := .ref (aR 3)) F hK ix_4 0 rfl rfl 2 (by decide) tm_133 rfl rfl dX4_begin_76 ?_
        refine j_aload_n (pc := 79) F 1 dX4_begin_79 rfl rfl ?_
        refine jw_get (pc := 80) (v := .int (σR 0 3)) F hK ix_4 0 rfl rfl 3 (by decide) tm_134 rfl rfl dX4_begin_80 ?_
        refine j_iload_n (pc := 83) F 4 dX4_begin_83 rfl rfl ?_
        have c_7 : ¬ ((σR 0 3) < 0 ∨ 12 ≤ Int32.toNatClampNeg (σR 0 3)) := fun z => by rw [if_pos z] at hf; cases hf
        have hf := of_neg c_7 hf
        refine jw_iast (pc := 84) (w' := wR aR cy (up2 (up2 (up2 σR 1 (Int32.toNatClampNeg (σR 0 3)) y1) 2 (Int32.toNatClampNeg (σR 0 3)) y2) 3 (Int32.toNatClampNeg (σR 0 3)) y3)) F hK 3 rfl c_7 (wR_row_3 _ _ _ _ _) dX4_begin_84 ?_
        refine j_aload_n (pc := 85) F 1 dX4_begin_85 rfl rfl ?_
        refine j_dup (pc := 86) F dX4_begin_86 rfl ?_
        refine jw_get (pc := 87) (v := .int (σR 0 3)) F hK ix_4 0 rfl rfl 3 (by decide) tm_134 rfl rfl dX4_begin_87 ?_
        refine j_iconst (pc := 90) F (v := 1) dX4_begin_90 rfl ?_
        refine j_iadd (pc := 91) F dX4_begin_91 ?_
        obtain ⟨z_8, ez_8, hf⟩ := of_lt hf
        refine j_topi ez_8 ?_
        refine jw_put (pc := 92) (w' := wR aR cy (up2 (up2 (up2 (up2 σR 1 (Int32.toNatClampNeg (σR 0 3)) y1) 2 (Int32.toNatClampNeg (σR 0 3)) y2) 3 (Int32.toNatClampNeg (σR 0 3)) y3) 0 3 z_8)) F hK ix_4 tyX4 tyX4_ok nmX4 0 rfl rfl 3 (by decide) tm_134 rfl rfl rfl rfl rfl (Nat.le_of_ble_eq_true rfl) (wR_put_3 _ _ _ _) dX4_begin_92 ?_
        refine j_aload_n (pc := 95) F 1 dX4_begin_95 rfl rfl ?_
        refine jw_get (pc := 96) (v := .int z_8) F hK ix_4 0 rfl rfl 3 (by decide) tm_134 rfl rfl dX4_begin_96 ?_
        have hf := (Option.some.inj hf)
        subst hf
        exact j_iretW (pc := 99) F dX4_begin_99 rfl rfl
      · have hf := of_neg c_4 hf
        refine j_iconst (pc := 53) F (v := (-1)) dX4_begin_53 rfl ?_
        have hf := (Option.some.inj hf)
        subst hf
        exact j_iretW (pc := 54) F dX4_begin_54 rfl rfl
set_option maxHeartbeats 4000000 in
set_option maxRecDepth 100000 in
theorem b_X4_begin_27 {l : Launch} {D : va_G} {cy : Nat → ClassId} {g : Gs} {p : Program} {e : Env} {s : State} {m : MethodId} {args : Array Value} {below : List Frame} {meth : Method} {c : Code} {A : Nat → Prop} {aR : Nat → Nat} {N : Nat} {out : Int32 × St2} (F : Fx p s m args meth c cX4_begin RX4 5 (some .int)) (hK : va_K D vwCl (tys cy) s) (hS : St g A s s.heap) (hA : ∀ q, s.heap.size ≤ q → A q) :
    ∀ (σR : St2) (y1 : Int32) (y2 : Int32) (y3 : Int32), f_X4_begin_27 N σR y1 y2 y3 = some out → J p l e { frames := 1, cells := 0, slots := 0, locals := 22 } s m args below meth c 5 (hW D A s (wR aR cy σR)) 0 0 (MQ below (QW D A (some (.int out.1)) (wR aR cy out.2)) args s 0 0 A) 27 [(0, .ref (aR 0)), (1, .int y1), (2, .int y2), (3, .int y3)] [] := by
  intro σR y1 y2 y3 hf
  unfold f_X4_begin_27 at hf
  refine j_iconst (pc := 27) F (v := 0) dX4_begin_27 rfl ?_
  exact b_X4_begin_28 F hK hS hA σR y1 y2 y3 0 hf
set_option maxHeartbeats 4000000 in
set_option maxRecDepth 100000 in
theorem c_X4_begin {l : Launch} {D : va_G} {cy : Nat → ClassId} {g : Gs} {aR : Nat → Nat} {σR : St2} {N : Nat} {x1 : Int32} {x2 : Int32} {x3 : Int32} {out : Int32 × St2} (hf : f_X4_begin N σR x1 x2 x3 = some out) : CW l D cy g yX4_begin cX4_begin 5 (some .int) 1 22 (wR aR cy σR) [.ref (aR 0), .int x1, .int x2, .int x3] (some (.int out.1)) (wR aR cy out.2) := by
  unfold f_X4_begin at hf
  refine met_W (lv := [(0, .ref (aR 0)), (1, .int x1), (2, .int x2), (3, .int x3)]) (by decide) (Nat.le_of_ble_eq_true rfl) rfl ?_
  intro p e s m args below meth c A F hK hS hA
  refine j_iload_n (pc := 0) F 1 dX4_begin_0 rfl rfl ?_
  refine j_iconst (pc := 1) F (v := (-1)) dX4_begin_1 rfl ?_
  refine j_icmp_eq (pc := 2) (tgt := 27) F dX4_begin_2 rfl (fun c_1 => ?_) (fun c_1 => ?_)
  · have hf := of_pos c_1 hf
    exact b_X4_begin_27 F hK hS hA σR x1 x2 x3 hf
  · have hf := of_neg c_1 hf
    refine j_iload_n (pc := 5) F 2 dX4_begin_5 rfl rfl ?_
    refine j_callRS (pc := 6) (st := []) (st1 := [.int (bI (f_X2_isCalendar x2))]) F hK (hpW hS hp_nil) (c_X2_isCalendar (l := l) (D := D) (cy := cy) (g := g) (rfl : f_X2_isCalendar x2 = _)) tm_448 cf_X2_isCalendar (Nat.le_of_ble_eq_true rfl) (Nat.le_of_ble_eq_true rfl) ⟨Nat.zero_le _, Nat.zero_le _⟩ rfl rfl (Nat.le_of_ble_eq_true rfl) rfl dX4_begin_6 ?_
    refine j_if_eq (pc := 9) (tgt := 27) F dX4_begin_9 rfl (fun c_3 => ?_) (fun c_3 => ?_)
    · have hf := of_pos c_3 hf
      exact b_X4_begin_27 F hK hS hA σR x1 x2 x3 hf
    · have hf := of_neg c_3 hf
      refine j_iload_n (pc := 12) F 3 dX4_begin_12 rfl rfl ?_
      refine j_if_lt (pc := 13) (tgt := 27) F dX4_begin_13 rfl (fun c_4 => ?_) (fun c_4 => ?_)
      · have hf := of_pos c_4 hf
        exact b_X4_begin_27 F hK hS hA σR x1 x2 x3 hf
      · have hf := of_neg c_4 hf
        refine j_iload_n (pc := 16) F 3 dX4_begin_16 rfl rfl ?_
        refine j_sipush (pc := 17) F (v := 600) dX4_begin_17 rfl ?_
        refine j_icmp_gt (pc := 20) (tgt := 27) F dX4_begin_20 rfl (fun c_5 => ?_) (fun c_5 => ?_)
        · have hf := of_pos c_5 hf
          exact b_X4_begin_27 F hK hS hA σR x1 x2 x3 hf
        · have hf := of_neg c_5 hf
          refine j_iconst (pc := 23) F (v := 1) dX4_begin_23 rfl ?_
          refine j_goto (pc := 24) F (tgt := 28) dX4_begin_24 rfl ?_
          exact b_X4_begin_28 F hK hS hA σR x1 x2 x3 1 hf
theorem cf_X4_begin : cfV yX4_begin cX4_begin 5 (some .int) 3 := ⟨tm_445, tm_446, tm_56, tm_447, by decide, by decide, by decide +kernel⟩

def f_X4_isThere (σR : St2) (x1 : Int32) : Bool := if x1 < 0 then false else if (σR 0 3) ≤ x1 then false else true
set_option maxHeartbeats 4000000 in
set_option maxRecDepth 100000 in
theorem c_X4_isThere {l : Launch} {D : va_G} {cy : Nat → ClassId} {g : Gs} {aR : Nat → Nat} {σR : St2} {x1 : Int32} {out : Bool} (hf : f_X4_isThere σR x1 = out) : CR l D cy g yX4_isThere cX4_isThere 2 (some .boolean) 0 0 (wR aR cy σR) [.ref (aR 0), .int x1] (some (.int (bI out))) := by
  unfold f_X4_isThere at hf
  refine met_R (lv := [(0, .ref (aR 0)), (1, .int x1)]) (by decide) (Nat.le_of_ble_eq_true rfl) rfl ?_
  intro p e s m args below meth c F hP hK hS
  refine j_iload_n (pc := 0) F 1 dX4_isThere_0 rfl rfl ?_
  refine j_if_lt (pc := 1) (tgt := 16) F dX4_isThere_1 rfl (fun c_1 => ?_) (fun c_1 => ?_)
  · have hf := of_pos c_1 hf
    refine j_iconst (pc := 16) F (v := 0) dX4_isThere_16 rfl ?_
    exact j_zretR (pc := 17) F dX4_isThere_17 (congrArg bI hf)
  · have hf := of_neg c_1 hf
    refine j_iload_n (pc := 4) F 1 dX4_isThere_4 rfl rfl ?_
    refine j_aload_n (pc := 5) F 0 dX4_isThere_5 rfl rfl ?_
    refine jr_get (pc := 6) (v := .int (σR 0 3)) F hK hP ix_4 0 rfl rfl 3 (by decide) tm_134 rfl rfl dX4_isThere_6 ?_
    refine j_icmp_ge (pc := 9) (tgt := 16) F dX4_isThere_9 rfl (fun c_2 => ?_) (fun c_2 => ?_)
    · have hf := of_pos c_2 hf
      refine j_iconst (pc := 16) F (v := 0) dX4_isThere_16 rfl ?_
      exact j_zretR (pc := 17) F dX4_isThere_17 (congrArg bI hf)
    · have hf := of_neg c_2 hf
      refine j_iconst (pc := 12) F (v := 1) dX4_isThere_12 rfl ?_
      refine j_goto (pc := 13) F (tgt := 17) dX4_isThere_13 rfl ?_
      exact j_zretR (pc := 17) F dX4_isThere_17 (congrArg bI hf)
theorem cf_X4_isThere : cfV yX4_isThere cX4_isThere 2 (some .boolean) 1 := ⟨tm_635, tm_17, tm_56, tm_636, by decide, by decide, by decide +kernel⟩

def f_X4_calendarOf (σR : St2) (x1 : Int32) : Option (Int32) := if (bI (f_X4_isThere σR x1)) = 0 then some (-1) else if x1 < 0 ∨ 12 ≤ Int32.toNatClampNeg x1 then none else some (σR 2 (Int32.toNatClampNeg x1))
set_option maxHeartbeats 4000000 in
set_option maxRecDepth 100000 in
theorem c_X4_calendarOf {l : Launch} {D : va_G} {cy : Nat → ClassId} {g : Gs} {aR : Nat → Nat} {σR : St2} {x1 : Int32} {out : Int32} (hf : f_X4_calendarOf σR x1 = some out) : CR l D cy g yX4_calendarOf cX4_calendarOf 2 (some .int) 1 21 (wR aR cy σR) [.ref (aR 0), .int x1] (some (.int out)) := by
  unfold f_X4_calendarOf at hf
  refine met_R (lv := [(0, .ref (aR 0)), (1, .int x1)]) (by decide) (Nat.le_of_ble_eq_true rfl) rfl ?_
  intro p e s m args below meth c F hP hK hS
  refine j_aload_n (pc := 0) F 0 dX4_calendarOf_0 rfl rfl ?_
  refine j_iload_n (pc := 1) F 1 dX4_calendarOf_1 rfl rfl ?_
  refine j_callRV (pc := 2) (st := []) (st1 := [.int (bI (f_X4_isThere σR x1))]) F hK (hpR hP hS hp_id) (c_X4_isThere (l := l) (D := D) (cy := cy) (g := g) (aR := aR) (rfl : f_X4_isThere σR x1 = _)) tm_633 cf_X4_isThere (Nat.le_of_ble_eq_true rfl) (Nat.le_of_ble_eq_true rfl) ⟨Nat.zero_le _, Nat.zero_le _⟩ 0 rfl rfl rfl rfl rfl (Nat.le_of_ble_eq_true rfl) rfl dX4_calendarOf_2 ?_
  refine j_if_eq (pc := 5) (tgt := 17) F dX4_calendarOf_5 rfl (fun c_2 => ?_) (fun c_2 => ?_)
  · have hf := of_pos c_2 hf
    refine j_iconst (pc := 17) F (v := (-1)) dX4_calendarOf_17 rfl ?_
    exact j_iretR (pc := 18) F dX4_calendarOf_18 (Option.some.inj hf)
  · have hf := of_neg c_2 hf
    refine j_aload_n (pc := 8) F 0 dX4_calendarOf_8 rfl rfl ?_
    refine jr_get (pc := 9) (v := .ref (aR 2)) F hK hP ix_4 0 rfl rfl 1 (by decide) tm_132 rfl rfl dX4_calendarOf_9 ?_
    refine j_iload_n (pc := 12) F 1 dX4_calendarOf_12 rfl rfl ?_
    have c_3 : ¬ (x1 < 0 ∨ 12 ≤ Int32.toNatClampNeg x1) := fun z => by rw [if_pos z] at hf; cases hf
    have hf := of_neg c_3 hf
    refine jr_iald (pc := 13) F hK hP 2 rfl c_3 dX4_calendarOf_13 ?_
    refine j_goto (pc := 14) F (tgt := 18) dX4_calendarOf_14 rfl ?_
    exact j_iretR (pc := 18) F dX4_calendarOf_18 (Option.some.inj hf)
theorem cf_X4_calendarOf : cfV yX4_calendarOf cX4_calendarOf 2 (some .int) 1 := ⟨tm_630, tm_631, tm_56, tm_632, by decide, by decide, by decide +kernel⟩

def f_X4_firstYearOf (σR : St2) (x1 : Int32) : Option (Int32) := if (bI (f_X4_isThere σR x1)) = 0 then some (-1) else if x1 < 0 ∨ 12 ≤ Int32.toNatClampNeg x1 then none else some (σR 3 (Int32.toNatClampNeg x1))
set_option maxHeartbeats 4000000 in
set_option maxRecDepth 100000 in
theorem c_X4_firstYearOf {l : Launch} {D : va_G} {cy : Nat → ClassId} {g : Gs} {aR : Nat → Nat} {σR : St2} {x1 : Int32} {out : Int32} (hf : f_X4_firstYearOf σR x1 = some out) : CR l D cy g yX4_firstYearOf cX4_firstYearOf 2 (some .int) 1 21 (wR aR cy σR) [.ref (aR 0), .int x1] (some (.int out)) := by
  unfold f_X4_firstYearOf at hf
  refine met_R (lv := [(0, .ref (aR 0)), (1, .int x1)]) (by decide) (Nat.le_of_ble_eq_true rfl) rfl ?_
  intro p e s m args below meth c F hP hK hS
  refine j_aload_n (pc := 0) F 0 dX4_firstYearOf_0 rfl rfl ?_
  refine j_iload_n (pc := 1) F 1 dX4_firstYearOf_1 rfl rfl ?_
  refine j_callRV (pc := 2) (st := []) (st1 := [.int (bI (f_X4_isThere σR x1))]) F hK (hpR hP hS hp_id) (c_X4_isThere (l := l) (D := D) (cy := cy) (g := g) (aR := aR) (rfl : f_X4_isThere σR x1 = _)) tm_633 cf_X4_isThere (Nat.le_of_ble_eq_true rfl) (Nat.le_of_ble_eq_true rfl) ⟨Nat.zero_le _, Nat.zero_le _⟩ 0 rfl rfl rfl rfl rfl (Nat.le_of_ble_eq_true rfl) rfl dX4_firstYearOf_2 ?_
  refine j_if_eq (pc := 5) (tgt := 17) F dX4_firstYearOf_5 rfl (fun c_2 => ?_) (fun c_2 => ?_)
  · have hf := of_pos c_2 hf
    refine j_iconst (pc := 17) F (v := (-1)) dX4_firstYearOf_17 rfl ?_
    exact j_iretR (pc := 18) F dX4_firstYearOf_18 (Option.some.inj hf)
  · have hf := of_neg c_2 hf
    refine j_aload_n (pc := 8) F 0 dX4_firstYearOf_8 rfl rfl ?_
    refine jr_get (pc := 9) (v := .ref (aR 3)) F hK hP ix_4 0 rfl rfl 2 (by decide) tm_133 rfl rfl dX4_firstYearOf_9 ?_
    refine j_iload_n (pc := 12) F 1 dX4_firstYearOf_12 rfl rfl ?_
    have c_3 : ¬ (x1 < 0 ∨ 12 ≤ Int32.toNatClampNeg x1) := fun z => by rw [if_pos z] at hf; cases hf
    have hf := of_neg c_3 hf
    refine jr_iald (pc := 13) F hK hP 3 rfl c_3 dX4_firstYearOf_13 ?_
    refine j_goto (pc := 14) F (tgt := 18) dX4_firstYearOf_14 rfl ?_
    exact j_iretR (pc := 18) F dX4_firstYearOf_18 (Option.some.inj hf)
theorem cf_X4_firstYearOf : cfV yX4_firstYearOf cX4_firstYearOf 2 (some .int) 1 := ⟨tm_638, tm_639, tm_56, tm_640, by decide, by decide, by decide +kernel⟩
