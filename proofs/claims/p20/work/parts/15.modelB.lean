def f_X8_next__39 (N : Nat) (K0 : (St2 × (Nat → Int64)) → Option (Int32 × (St2 × (Nat → Int64)))) (σM : St2 × (Nat → Int64)) : Option (Int32 × (St2 × (Nat → Int64))) := lt ((σM.1 0 15) + 1 : Int32) fun z_1 => K0 (up2 σM.1 0 15 z_1, σM.2)
def f_X8_next__52 (N : Nat) (σM : St2 × (Nat → Int64)) : Option (Int32 × (St2 × (Nat → Int64))) := if (σM.1 0 16) ≤ (σM.1 0 15) then some ((-1), σM) else if (σM.1 0 15) < 0 ∨ 200 ≤ Int32.toNatClampNeg (σM.1 0 15) then none else some (σM.1 14 (Int32.toNatClampNeg (σM.1 0 15)), σM)
def f_X8_next__0 (N : Nat) : Nat → (St2 × (Nat → Int64)) → Option (Int32 × (St2 × (Nat → Int64)))
  | 0, _ => none
  | n + 1, σM => if (σM.1 0 16) ≤ (σM.1 0 15) then f_X8_next__52 N σM else if (σM.1 0 15) < 0 ∨ 200 ≤ Int32.toNatClampNeg (σM.1 0 15) then none else if (σM.1 14 (Int32.toNatClampNeg (σM.1 0 15))) = 10 then f_X8_next__39 N (f_X8_next__0 N n) σM else if (σM.1 0 15) < 0 ∨ 200 ≤ Int32.toNatClampNeg (σM.1 0 15) then none else if (σM.1 14 (Int32.toNatClampNeg (σM.1 0 15))) = 32 then f_X8_next__39 N (f_X8_next__0 N n) σM else f_X8_next__52 N σM
def f_X8_next_ (N : Nat) (σM : St2 × (Nat → Int64)) : Option (Int32 × (St2 × (Nat → Int64))) := f_X8_next__0 N N σM
set_option maxHeartbeats 4000000 in
set_option maxRecDepth 100000 in
theorem b_X8_next__39 {l : Launch} {D : va_G} {cy : Nat → ClassId} {g : Gs} {p : Program} {e : Env} {s : State} {m : MethodId} {args : Array Value} {below : List Frame} {meth : Method} {c : Code} {A : Nat → Prop} {aM : Nat → Nat} {N : Nat} {out : Int32 × (St2 × (Nat → Int64))} {K0 : (St2 × (Nat → Int64)) → Option (Int32 × (St2 × (Nat → Int64)))} (F : Fx p s m args meth c cX8_next_ RX8 1 (some .int)) (hK : va_K D vwCl (tys cy) s) (hS : St g A s s.heap) (hA : ∀ q, s.heap.size ≤ q → A q) (hK0 : ∀ (σM : St2 × (Nat → Int64)), K0 σM = some out → J p l e { frames := 0, cells := 0, slots := 0, locals := 0 } s m args below meth c 1 (hW D A s (wM aM cy σM)) 0 0 (MQ below (QW D A (some (.int out.1)) (wM aM cy out.2)) args s 0 0 A) 0 [(0, .ref (aM 0))] []) :
    ∀ (σM : St2 × (Nat → Int64)), f_X8_next__39 N K0 σM = some out → J p l e { frames := 0, cells := 0, slots := 0, locals := 0 } s m args below meth c 1 (hW D A s (wM aM cy σM)) 0 0 (MQ below (QW D A (some (.int out.1)) (wM aM cy out.2)) args s 0 0 A) 39 [(0, .ref (aM 0))] [] := by
  intro σM hf
  unfold f_X8_next__39 at hf
  refine j_aload_n (pc := 39) F 0 dX8_next__39 rfl rfl ?_
  refine j_dup (pc := 40) F dX8_next__40 rfl ?_
  refine jw_get (pc := 41) (v := .int (σM.1 0 15)) F hK ix_8 0 rfl rfl 15 (by decide) tm_830 rfl rfl dX8_next__41 ?_
  refine j_iconst (pc := 44) F (v := 1) dX8_next__44 rfl ?_
  refine j_iadd (pc := 45) F dX8_next__45 ?_
  obtain ⟨z_1, ez_1, hf⟩ := of_lt hf
  refine j_topi ez_1 ?_
  refine jw_put (pc := 46) (w' := wM aM cy (up2 σM.1 0 15 z_1, σM.2)) F hK ix_8 tyX8 tyX8_ok nmX8 0 rfl rfl 15 (by decide) tm_830 rfl rfl rfl rfl rfl (Nat.le_of_ble_eq_true rfl) (wM_put_15 _ _ _ _) dX8_next__46 ?_
  refine j_goto (pc := 49) F (tgt := 0) dX8_next__49 rfl ?_
  exact hK0 (up2 σM.1 0 15 z_1, σM.2) hf
set_option maxHeartbeats 4000000 in
set_option maxRecDepth 100000 in
theorem b_X8_next__52 {l : Launch} {D : va_G} {cy : Nat → ClassId} {g : Gs} {p : Program} {e : Env} {s : State} {m : MethodId} {args : Array Value} {below : List Frame} {meth : Method} {c : Code} {A : Nat → Prop} {aM : Nat → Nat} {N : Nat} {out : Int32 × (St2 × (Nat → Int64))} (F : Fx p s m args meth c cX8_next_ RX8 1 (some .int)) (hK : va_K D vwCl (tys cy) s) (hS : St g A s s.heap) (hA : ∀ q, s.heap.size ≤ q → A q) :
    ∀ (σM : St2 × (Nat → Int64)), f_X8_next__52 N σM = some out → J p l e { frames := 0, cells := 0, slots := 0, locals := 0 } s m args below meth c 1 (hW D A s (wM aM cy σM)) 0 0 (MQ below (QW D A (some (.int out.1)) (wM aM cy out.2)) args s 0 0 A) 52 [(0, .ref (aM 0))] [] := by
  intro σM hf
  unfold f_X8_next__52 at hf
  refine j_aload_n (pc := 52) F 0 dX8_next__52 rfl rfl ?_
  refine jw_get (pc := 53) (v := .int (σM.1 0 15)) F hK ix_8 0 rfl rfl 15 (by decide) tm_830 rfl rfl dX8_next__53 ?_
  refine j_aload_n (pc := 56) F 0 dX8_next__56 rfl rfl ?_
  refine jw_get (pc := 57) (v := .int (σM.1 0 16)) F hK ix_8 0 rfl rfl 16 (by decide) tm_831 rfl rfl dX8_next__57 ?_
  refine j_icmp_ge (pc := 60) (tgt := 75) F dX8_next__60 rfl (fun c_1 => ?_) (fun c_1 => ?_)
  · have hf := of_pos c_1 hf
    refine j_iconst (pc := 75) F (v := (-1)) dX8_next__75 rfl ?_
    have hf := (Option.some.inj hf)
    subst hf
    exact j_iretW (pc := 76) F dX8_next__76 rfl rfl
  · have hf := of_neg c_1 hf
    refine j_aload_n (pc := 63) F 0 dX8_next__63 rfl rfl ?_
    refine jw_get (pc := 64) (v := .ref (aM 14)) F hK ix_8 0 rfl rfl 13 (by decide) tm_828 rfl rfl dX8_next__64 ?_
    refine j_aload_n (pc := 67) F 0 dX8_next__67 rfl rfl ?_
    refine jw_get (pc := 68) (v := .int (σM.1 0 15)) F hK ix_8 0 rfl rfl 15 (by decide) tm_830 rfl rfl dX8_next__68 ?_
    have c_2 : ¬ ((σM.1 0 15) < 0 ∨ 200 ≤ Int32.toNatClampNeg (σM.1 0 15)) := fun z => by rw [if_pos z] at hf; cases hf
    have hf := of_neg c_2 hf
    refine jw_iald (pc := 71) F hK 6 rfl c_2 dX8_next__71 ?_
    refine j_goto (pc := 72) F (tgt := 76) dX8_next__72 rfl ?_
    have hf := (Option.some.inj hf)
    subst hf
    exact j_iretW (pc := 76) F dX8_next__76 rfl rfl
set_option maxHeartbeats 4000000 in
set_option maxRecDepth 100000 in
theorem b_X8_next__0 {l : Launch} {D : va_G} {cy : Nat → ClassId} {g : Gs} {p : Program} {e : Env} {s : State} {m : MethodId} {args : Array Value} {below : List Frame} {meth : Method} {c : Code} {A : Nat → Prop} {aM : Nat → Nat} {N : Nat} {out : Int32 × (St2 × (Nat → Int64))} (F : Fx p s m args meth c cX8_next_ RX8 1 (some .int)) (hK : va_K D vwCl (tys cy) s) (hS : St g A s s.heap) (hA : ∀ q, s.heap.size ≤ q → A q) :
    ∀ (n : Nat) (σM : St2 × (Nat → Int64)), f_X8_next__0 N n σM = some out → J p l e { frames := 0, cells := 0, slots := 0, locals := 0 } s m args below meth c 1 (hW D A s (wM aM cy σM)) 0 0 (MQ below (QW D A (some (.int out.1)) (wM aM cy out.2)) args s 0 0 A) 0 [(0, .ref (aM 0))] [] := by
  intro n
  induction n with
  | zero =>
    intro σM hf
    cases hf
  | succ n ih =>
    intro σM hf
    rw [f_X8_next__0] at hf
    refine j_aload_n (pc := 0) F 0 dX8_next__0 rfl rfl ?_
    refine jw_get (pc := 1) (v := .int (σM.1 0 15)) F hK ix_8 0 rfl rfl 15 (by decide) tm_830 rfl rfl dX8_next__1 ?_
    refine j_aload_n (pc := 4) F 0 dX8_next__4 rfl rfl ?_
    refine jw_get (pc := 5) (v := .int (σM.1 0 16)) F hK ix_8 0 rfl rfl 16 (by decide) tm_831 rfl rfl dX8_next__5 ?_
    refine j_icmp_ge (pc := 8) (tgt := 52) F dX8_next__8 rfl (fun c_1 => ?_) (fun c_1 => ?_)
    · have hf := of_pos c_1 hf
      exact b_X8_next__52 F hK hS hA σM hf
    · have hf := of_neg c_1 hf
      refine j_aload_n (pc := 11) F 0 dX8_next__11 rfl rfl ?_
      refine jw_get (pc := 12) (v := .ref (aM 14)) F hK ix_8 0 rfl rfl 13 (by decide) tm_828 rfl rfl dX8_next__12 ?_
      refine j_aload_n (pc := 15) F 0 dX8_next__15 rfl rfl ?_
      refine jw_get (pc := 16) (v := .int (σM.1 0 15)) F hK ix_8 0 rfl rfl 15 (by decide) tm_830 rfl rfl dX8_next__16 ?_
      have c_2 : ¬ ((σM.1 0 15) < 0 ∨ 200 ≤ Int32.toNatClampNeg (σM.1 0 15)) := fun z => by rw [if_pos z] at hf; cases hf
      have hf := of_neg c_2 hf
      refine jw_iald (pc := 19) F hK 6 rfl c_2 dX8_next__19 ?_
      refine j_bipush (pc := 20) F (v := 10) dX8_next__20 rfl ?_
      refine j_icmp_eq (pc := 22) (tgt := 39) F dX8_next__22 rfl (fun c_3 => ?_) (fun c_3 => ?_)
      · have hf := of_pos c_3 hf
        exact b_X8_next__39 F hK hS hA ih σM hf
      · have hf := of_neg c_3 hf
        refine j_aload_n (pc := 25) F 0 dX8_next__25 rfl rfl ?_
        refine jw_get (pc := 26) (v := .ref (aM 14)) F hK ix_8 0 rfl rfl 13 (by decide) tm_828 rfl rfl dX8_next__26 ?_
        refine j_aload_n (pc := 29) F 0 dX8_next__29 rfl rfl ?_
        refine jw_get (pc := 30) (v := .int (σM.1 0 15)) F hK ix_8 0 rfl rfl 15 (by decide) tm_830 rfl rfl dX8_next__30 ?_
        have c_4 : ¬ ((σM.1 0 15) < 0 ∨ 200 ≤ Int32.toNatClampNeg (σM.1 0 15)) := fun z => by rw [if_pos z] at hf; cases hf
        have hf := of_neg c_4 hf
        refine jw_iald (pc := 33) F hK 6 rfl c_4 dX8_next__33 ?_
        refine j_bipush (pc := 34) F (v := 32) dX8_next__34 rfl ?_
        refine j_icmp_ne (pc := 36) (tgt := 52) F dX8_next__36 rfl (fun c_5 => ?_) (fun c_5 => ?_)
        · have hf := of_neg c_5 hf
          exact b_X8_next__52 F hK hS hA σM hf
        · have hf := of_pos c_5 hf
          exact b_X8_next__39 F hK hS hA ih σM hf
set_option maxHeartbeats 4000000 in
set_option maxRecDepth 100000 in
theorem c_X8_next_ {l : Launch} {D : va_G} {cy : Nat → ClassId} {g : Gs} {aM : Nat → Nat} {σM : St2 × (Nat → Int64)} {N : Nat} {out : Int32 × (St2 × (Nat → Int64))} (hf : f_X8_next_ N σM = some out) : CW l D cy g yX8_next_ cX8_next_ 1 (some .int) 0 0 (wM aM cy σM) [.ref (aM 0)] (some (.int out.1)) (wM aM cy out.2) := by
  unfold f_X8_next_ at hf
  refine met_W (lv := [(0, .ref (aM 0))]) (by decide) (Nat.le_of_ble_eq_true rfl) rfl ?_
  intro p e s m args below meth c A F hK hS hA
  exact b_X8_next__0 F hK hS hA N σM hf
theorem cf_X8_next_ : cfV yX8_next_ cX8_next_ 1 (some .int) 0 := ⟨tm_1115, tm_42, tm_60, tm_1116, by decide, by decide, by decide +kernel⟩

def f_X8_wordEnd_5 (N : Nat) : Nat → (St2 × (Nat → Int64)) → Int32 → Option (Int32)
  | 0, _, _ => none
  | n + 1, σM, y1 => if (σM.1 0 16) ≤ y1 then some y1 else if y1 < 0 ∨ 200 ≤ Int32.toNatClampNeg y1 then none else if (bI (f_X8_isLetter (σM.1 14 (Int32.toNatClampNeg y1)))) = 0 then some y1 else f_X8_wordEnd_5 N n σM (y1 + 1)
def f_X8_wordEnd (N : Nat) (σM : St2 × (Nat → Int64)) : Option (Int32) := f_X8_wordEnd_5 N N σM (σM.1 0 15)
set_option maxHeartbeats 4000000 in
set_option maxRecDepth 100000 in
theorem b_X8_wordEnd_5 {l : Launch} {D : va_G} {cy : Nat → ClassId} {g : Gs} {p : Program} {e : Env} {s : State} {m : MethodId} {args : Array Value} {below : List Frame} {meth : Method} {c : Code} {aM : Nat → Nat} {σM : St2 × (Nat → Int64)} {N : Nat} {out : Int32} (F : Fx p s m args meth c cX8_wordEnd RX8 2 (some .int)) (hP : va_P D vwCl (wM aM cy σM) s.heap) (hK : va_K D vwCl (tys cy) s) (hS : St g nA s s.heap) :
    ∀ (n : Nat) (y1 : Int32), f_X8_wordEnd_5 N n σM y1 = some out → J p l e { frames := 1, cells := 0, slots := 0, locals := 20 } s m args below meth c 2 (hR s) 0 0 (MQ below (QR (some (.int out))) args s 0 0 nA) 5 [(0, .ref (aM 0)), (1, .int y1)] [] := by
  intro n
  induction n with
  | zero =>
    intro y1 hf
    cases hf
  | succ n ih =>
    intro y1 hf
    rw [f_X8_wordEnd_5] at hf
    refine j_iload_n (pc := 5) F 1 dX8_wordEnd_5 rfl rfl ?_
    refine j_aload_n (pc := 6) F 0 dX8_wordEnd_6 rfl rfl ?_
    refine jr_get (pc := 7) (v := .int (σM.1 0 16)) F hK hP ix_8 0 rfl rfl 16 (by decide) tm_831 rfl rfl dX8_wordEnd_7 ?_
    refine j_icmp_ge (pc := 10) (tgt := 31) F dX8_wordEnd_10 rfl (fun c_1 => ?_) (fun c_1 => ?_)
    · have hf := of_pos c_1 hf
      refine j_iload_n (pc := 31) F 1 dX8_wordEnd_31 rfl rfl ?_
      exact j_iretR (pc := 32) F dX8_wordEnd_32 (Option.some.inj hf)
    · have hf := of_neg c_1 hf
      refine j_aload_n (pc := 13) F 0 dX8_wordEnd_13 rfl rfl ?_
      refine jr_get (pc := 14) (v := .ref (aM 14)) F hK hP ix_8 0 rfl rfl 13 (by decide) tm_828 rfl rfl dX8_wordEnd_14 ?_
      refine j_iload_n (pc := 17) F 1 dX8_wordEnd_17 rfl rfl ?_
      have c_2 : ¬ (y1 < 0 ∨ 200 ≤ Int32.toNatClampNeg y1) := fun z => by rw [if_pos z] at hf; cases hf
      have hf := of_neg c_2 hf
      refine jr_iald (pc := 18) F hK hP 6 rfl c_2 dX8_wordEnd_18 ?_
      refine j_callRS (pc := 19) (st := []) (st1 := [.int (bI (f_X8_isLetter (σM.1 14 (Int32.toNatClampNeg y1))))]) F hK (hpR hP hS hp_nil) (c_X8_isLetter (l := l) (D := D) (cy := cy) (g := g) (rfl : f_X8_isLetter (σM.1 14 (Int32.toNatClampNeg y1)) = _)) tm_1084 cf_X8_isLetter (Nat.le_of_ble_eq_true rfl) (Nat.le_of_ble_eq_true rfl) ⟨Nat.zero_le _, Nat.zero_le _⟩ rfl rfl (Nat.le_of_ble_eq_true rfl) rfl dX8_wordEnd_19 ?_
      refine j_if_eq (pc := 22) (tgt := 31) F dX8_wordEnd_22 rfl (fun c_4 => ?_) (fun c_4 => ?_)
      · have hf := of_pos c_4 hf
        refine j_iload_n (pc := 31) F 1 dX8_wordEnd_31 rfl rfl ?_
        exact j_iretR (pc := 32) F dX8_wordEnd_32 (Option.some.inj hf)
      · have hf := of_neg c_4 hf
        refine j_iinc (pc := 25) (v := y1 + 1) (lv' := [(1, .int (y1 + 1)), (0, .ref (aM 0))]) F 1 dX8_wordEnd_25 rfl rfl (by decide) rfl ?_
        refine j_goto (pc := 28) F (tgt := 5) dX8_wordEnd_28 rfl ?_
        refine j_sub [1, 0] rfl ?_
        exact ih (y1 + 1) hf
set_option maxHeartbeats 4000000 in
set_option maxRecDepth 100000 in
theorem c_X8_wordEnd {l : Launch} {D : va_G} {cy : Nat → ClassId} {g : Gs} {aM : Nat → Nat} {σM : St2 × (Nat → Int64)} {N : Nat} {out : Int32} (hf : f_X8_wordEnd N σM = some out) : CR l D cy g yX8_wordEnd cX8_wordEnd 2 (some .int) 1 20 (wM aM cy σM) [.ref (aM 0)] (some (.int out)) := by
  unfold f_X8_wordEnd at hf
  refine met_R (lv := [(0, .ref (aM 0))]) (by decide) (Nat.le_of_ble_eq_true rfl) rfl ?_
  intro p e s m args below meth c F hP hK hS
  refine j_aload_n (pc := 0) F 0 dX8_wordEnd_0 rfl rfl ?_
  refine jr_get (pc := 1) (v := .int (σM.1 0 15)) F hK hP ix_8 0 rfl rfl 15 (by decide) tm_830 rfl rfl dX8_wordEnd_1 ?_
  refine j_istore_n (pc := 4) (lv' := [(1, .int (σM.1 0 15)), (0, .ref (aM 0))]) F dX8_wordEnd_4 rfl (by decide) rfl ?_
  refine j_sub [1, 0] rfl ?_
  exact b_X8_wordEnd_5 F hP hK hS N (σM.1 0 15) hf
theorem cf_X8_wordEnd : cfV yX8_wordEnd cX8_wordEnd 2 (some .int) 0 := ⟨tm_1119, tm_43, tm_60, tm_1120, by decide, by decide, by decide +kernel⟩

def f_X8_takes_34 (kw : Nat) (N : Nat) : Nat → (St2 × (Nat → Int64)) → Int32 → Option (Bool × (St2 × (Nat → Int64)))
  | 0, _, _ => none
  | n + 1, σM, y2 => if (Int32.ofNat (wlen kw)) ≤ y2 then lt ((σM.1 0 15) + (Int32.ofNat (wlen kw)) : Int32) fun z_2 => some (true, (up2 (up2 σM.1 0 15 z_2) 0 17 z_2, σM.2)) else if ((σM.1 0 15) + y2) < 0 ∨ 200 ≤ Int32.toNatClampNeg ((σM.1 0 15) + y2) then none else if y2 < 0 ∨ wlen kw ≤ Int32.toNatClampNeg y2 then none else if (σM.1 14 (Int32.toNatClampNeg ((σM.1 0 15) + y2))) = (σM.1 (kw + 1) (Int32.toNatClampNeg y2)) then f_X8_takes_34 kw N n σM (y2 + 1) else some (false, σM)
def f_X8_takes (N : Nat) (σM : St2 × (Nat → Int64)) (kw : Nat) : Option (Bool × (St2 × (Nat → Int64))) := (f_X8_next_ N σM).bind fun o_1 => if (o_1.2.1 0 15) = (o_1.2.1 0 17) then some (false, o_1.2) else (f_X8_wordEnd N o_1.2).bind fun o_3 => if (o_3 - (o_1.2.1 0 15)) = (Int32.ofNat (wlen kw)) then f_X8_takes_34 kw N N o_1.2 0 else some (false, o_1.2)
set_option maxHeartbeats 4000000 in
set_option maxRecDepth 100000 in
theorem b_X8_takes_34 {l : Launch} {D : va_G} {cy : Nat → ClassId} {g : Gs} {p : Program} {e : Env} {s : State} {m : MethodId} {args : Array Value} {below : List Frame} {meth : Method} {c : Code} {A : Nat → Prop} {aM : Nat → Nat}  {N : Nat} {out : Bool × (St2 × (Nat → Int64))} {kw : Nat} (hkw : 34 ≤ kw ∧ kw < 50) (F : Fx p s m args meth c cX8_takes RX8 3 (some .boolean)) (hK : va_K D vwCl (tys cy) s) (hS : St g A s s.heap) (hA : ∀ q, s.heap.size ≤ q → A q) :
    ∀ (n : Nat) (σM : St2 × (Nat → Int64)) (y2 : Int32), f_X8_takes_34 kw N n σM y2 = some out → J p l e { frames := 2, cells := 0, slots := 0, locals := 41 } s m args below meth c 3 (hW D A s (wM aM cy σM)) 0 0 (MQ below (QW D A (some (.int (bI out.1))) (wM aM cy out.2)) args s 0 0 A) 34 [(0, .ref (aM 0)), (1, .ref (aM (kw + 1))), (2, .int y2)] [] := by
  intro n
  induction n with
  | zero =>
    intro σM y2 hf
    cases hf
  | succ n ih =>
    intro σM y2 hf
    rw [f_X8_takes_34] at hf
    refine j_iload_n (pc := 34) F 2 dX8_takes_34 rfl rfl ?_
    refine j_aload_n (pc := 35) F 1 dX8_takes_35 rfl rfl ?_
    refine jw_alenc (pc := 36) (v := Int32.ofNat (wlen kw)) F hK (kw - 19) (wM_at hkw) rfl dX8_takes_36 ?_
    refine j_icmp_ge (pc := 37) (tgt := 65) F dX8_takes_37 rfl (fun c_1 => ?_) (fun c_1 => ?_)
    · have hf := of_pos c_1 hf
      refine j_aload_n (pc := 65) F 0 dX8_takes_65 rfl rfl ?_
      refine j_dup (pc := 66) F dX8_takes_66 rfl ?_
      refine jw_get (pc := 67) (v := .int (σM.1 0 15)) F hK ix_8 0 rfl rfl 15 (by decide) tm_830 rfl rfl dX8_takes_67 ?_
      refine j_aload_n (pc := 70) F 1 dX8_takes_70 rfl rfl ?_
      refine jw_alenc (pc := 71) (v := Int32.ofNat (wlen kw)) F hK (kw - 19) (wM_at hkw) rfl dX8_takes_71 ?_
      refine j_iadd (pc := 72) F dX8_takes_72 ?_
      obtain ⟨z_2, ez_2, hf⟩ := of_lt hf
      refine j_topi ez_2 ?_
      refine jw_put (pc := 73) (w' := wM aM cy (up2 σM.1 0 15 z_2, σM.2)) F hK ix_8 tyX8 tyX8_ok nmX8 0 rfl rfl 15 (by decide) tm_830 rfl rfl rfl rfl rfl (Nat.le_of_ble_eq_true rfl) (wM_put_15 _ _ _ _) dX8_takes_73 ?_
      refine j_aload_n (pc := 76) F 0 dX8_takes_76 rfl rfl ?_
      refine j_aload_n (pc := 77) F 0 dX8_takes_77 rfl rfl ?_
      refine jw_get (pc := 78) (v := .int z_2) F hK ix_8 0 rfl rfl 15 (by decide) tm_830 rfl rfl dX8_takes_78 ?_
      refine jw_put (pc := 81) (w' := wM aM cy (up2 (up2 σM.1 0 15 z_2) 0 17 z_2, σM.2)) F hK ix_8 tyX8 tyX8_ok nmX8 0 rfl rfl 17 (by decide) tm_832 rfl rfl rfl rfl rfl (Nat.le_of_ble_eq_true rfl) (wM_put_17 _ _ _ _) dX8_takes_81 ?_
      refine j_iconst (pc := 84) F (v := 1) dX8_takes_84 rfl ?_
      have hf := (Option.some.inj hf)
      subst hf
      exact j_zretW (pc := 85) F dX8_takes_85 rfl rfl
    · have hf := of_neg c_1 hf
      refine j_aload_n (pc := 40) F 0 dX8_takes_40 rfl rfl ?_
      refine jw_get (pc := 41) (v := .ref (aM 14)) F hK ix_8 0 rfl rfl 13 (by decide) tm_828 rfl rfl dX8_takes_41 ?_
      refine j_aload_n (pc := 44) F 0 dX8_takes_44 rfl rfl ?_
      refine jw_get (pc := 45) (v := .int (σM.1 0 15)) F hK ix_8 0 rfl rfl 15 (by decide) tm_830 rfl rfl dX8_takes_45 ?_
      refine j_iload_n (pc := 48) F 2 dX8_takes_48 rfl rfl ?_
      refine j_iadd (pc := 49) F dX8_takes_49 ?_
      have c_3 : ¬ (((σM.1 0 15) + y2) < 0 ∨ 200 ≤ Int32.toNatClampNeg ((σM.1 0 15) + y2)) := fun z => by rw [if_pos z] at hf; cases hf
      have hf := of_neg c_3 hf
      refine jw_iald (pc := 50) F hK 6 rfl c_3 dX8_takes_50 ?_
      refine j_aload_n (pc := 51) F 1 dX8_takes_51 rfl rfl ?_
      refine j_iload_n (pc := 52) F 2 dX8_takes_52 rfl rfl ?_
      have c_4 : ¬ (y2 < 0 ∨ wlen kw ≤ Int32.toNatClampNeg y2) := fun z => by rw [if_pos z] at hf; cases hf
      have hf := of_neg c_4 hf
      refine jw_cald (pc := 53) F hK (kw - 19) (wM_at hkw) c_4 dX8_takes_53 ?_
      refine j_icmp_eq (pc := 54) (tgt := 59) F dX8_takes_54 rfl (fun c_5 => ?_) (fun c_5 => ?_)
      · have hf := of_pos c_5 hf
        refine j_iinc (pc := 59) (v := y2 + 1) (lv' := [(2, .int (y2 + 1)), (0, .ref (aM 0)), (1, .ref (aM (kw + 1)))]) F 2 dX8_takes_59 rfl rfl (by decide) rfl ?_
        refine j_goto (pc := 62) F (tgt := 34) dX8_takes_62 rfl ?_
        refine j_sub [1, 2, 0] rfl ?_
        exact ih σM (y2 + 1) hf
      · have hf := of_neg c_5 hf
        refine j_iconst (pc := 57) F (v := 0) dX8_takes_57 rfl ?_
        have hf := (Option.some.inj hf)
        subst hf
        exact j_zretW (pc := 58) F dX8_takes_58 rfl rfl
set_option maxHeartbeats 4000000 in
set_option maxRecDepth 100000 in
theorem c_X8_takes {l : Launch} {D : va_G} {cy : Nat → ClassId} {g : Gs} {aM : Nat → Nat}  {σM : St2 × (Nat → Int64)} {N : Nat} {out : Bool × (St2 × (Nat → Int64))} {kw : Nat} (hkw : 34 ≤ kw ∧ kw < 50) (hf : f_X8_takes N σM kw = some out) : CW l D cy g yX8_takes cX8_takes 3 (some .boolean) 2 41 (wM aM cy σM) [.ref (aM 0), .ref (aM (kw + 1))] (some (.int (bI out.1))) (wM aM cy out.2) := by
  unfold f_X8_takes at hf
  refine met_W (lv := [(0, .ref (aM 0)), (1, .ref (aM (kw + 1)))]) (by decide) (Nat.le_of_ble_eq_true rfl) rfl ?_
  intro p e s m args below meth c A F hK hS hA
  refine j_aload_n (pc := 0) F 0 dX8_takes_0 rfl rfl ?_
  obtain ⟨o_1, ho_1, hf⟩ := of_bnd hf
  refine j_callWs (pc := 1) (st := []) (st1 := [.int o_1.1]) (w' := wM aM cy o_1.2) F hK hS hA (c_X8_next_ (l := l) (D := D) (cy := cy) (g := g) (aM := aM) ho_1) tm_1113 cf_X8_next_ (Nat.le_of_ble_eq_true rfl) (Nat.le_of_ble_eq_true rfl) ⟨Nat.zero_le _, Nat.zero_le _⟩ 0 rfl rfl rfl rfl rfl (Nat.le_of_ble_eq_true rfl) rfl dX8_takes_1 ?_
  refine j_pop (pc := 4) F dX8_takes_4 rfl ?_
  refine j_aload_n (pc := 5) F 0 dX8_takes_5 rfl rfl ?_
  refine jw_get (pc := 6) (v := .int (o_1.2.1 0 15)) F hK ix_8 0 rfl rfl 15 (by decide) tm_830 rfl rfl dX8_takes_6 ?_
  refine j_aload_n (pc := 9) F 0 dX8_takes_9 rfl rfl ?_
  refine jw_get (pc := 10) (v := .int (o_1.2.1 0 17)) F hK ix_8 0 rfl rfl 17 (by decide) tm_832 rfl rfl dX8_takes_10 ?_
  refine j_icmp_eq (pc := 13) (tgt := 30) F dX8_takes_13 rfl (fun c_2 => ?_) (fun c_2 => ?_)
  · have hf := of_pos c_2 hf
    refine j_iconst (pc := 30) F (v := 0) dX8_takes_30 rfl ?_
    have hf := (Option.some.inj hf)
    subst hf
    exact j_zretW (pc := 31) F dX8_takes_31 rfl rfl
  · have hf := of_neg c_2 hf
    refine j_aload_n (pc := 16) F 0 dX8_takes_16 rfl rfl ?_
    obtain ⟨o_3, ho_3, hf⟩ := of_bnd hf
    refine j_callRV (pc := 17) (st := []) (st1 := [.int o_3]) F hK (hpW hS hp_id) (c_X8_wordEnd (l := l) (D := D) (cy := cy) (g := g) (aM := aM) ho_3) tm_1117 cf_X8_wordEnd (Nat.le_of_ble_eq_true rfl) (Nat.le_of_ble_eq_true rfl) ⟨Nat.zero_le _, Nat.zero_le _⟩ 0 rfl rfl rfl rfl rfl (Nat.le_of_ble_eq_true rfl) rfl dX8_takes_17 ?_
    refine j_aload_n (pc := 20) F 0 dX8_takes_20 rfl rfl ?_
    refine jw_get (pc := 21) (v := .int (o_1.2.1 0 15)) F hK ix_8 0 rfl rfl 15 (by decide) tm_830 rfl rfl dX8_takes_21 ?_
    refine j_isub (pc := 24) F dX8_takes_24 ?_
    refine j_aload_n (pc := 25) F 1 dX8_takes_25 rfl rfl ?_
    refine jw_alenc (pc := 26) (v := Int32.ofNat (wlen kw)) F hK (kw - 19) (wM_at hkw) rfl dX8_takes_26 ?_
    refine j_icmp_eq (pc := 27) (tgt := 32) F dX8_takes_27 rfl (fun c_4 => ?_) (fun c_4 => ?_)
    · have hf := of_pos c_4 hf
      refine j_iconst (pc := 32) F (v := 0) dX8_takes_32 rfl ?_
      refine j_istore_n (pc := 33) (lv' := [(2, .int 0), (0, .ref (aM 0)), (1, .ref (aM (kw + 1)))]) F dX8_takes_33 rfl (by decide) rfl ?_
      refine j_sub [1, 2, 0] rfl ?_
      exact b_X8_takes_34 hkw F hK hS hA N o_1.2 0 hf
    · have hf := of_neg c_4 hf
      refine j_iconst (pc := 30) F (v := 0) dX8_takes_30 rfl ?_
      have hf := (Option.some.inj hf)
      subst hf
      exact j_zretW (pc := 31) F dX8_takes_31 rfl rfl
theorem cf_X8_takes : cfV yX8_takes cX8_takes 3 (some .boolean) 1 := ⟨tm_1111, tm_41, tm_60, tm_1112, by decide, by decide, by decide +kernel⟩

def f_X8_number_120 (N : Nat) (σM : St2 × (Nat → Int64)) (y1 : Int32) (y2 : Int32) (y3 : Int32) (y4 : Int32) : Option (Int32 × (St2 × (Nat → Int64))) := lt (σM.1 0 15 : Int32) fun z_1 => if (bI (f_X8_isIn y4 y1 y2)) = 0 then some (y4, (f_X8_fail (up2 σM.1 0 17 z_1, σM.2) 4 y3)) else some (y4, (up2 σM.1 0 17 z_1, σM.2))
def f_X8_number_40 (N : Nat) : Nat → (St2 × (Nat → Int64)) → Int32 → Int32 → Int32 → Int32 → Option (Int32 × (St2 × (Nat → Int64)))
  | 0, _, _, _, _, _ => none
  | n + 1, σM, y1, y2, y3, y4 => if (σM.1 0 16) ≤ (σM.1 0 15) then f_X8_number_120 N σM y1 y2 y3 y4 else if (σM.1 0 15) < 0 ∨ 200 ≤ Int32.toNatClampNeg (σM.1 0 15) then none else if (bI (f_X8_isDigit (σM.1 14 (Int32.toNatClampNeg (σM.1 0 15))))) = 0 then f_X8_number_120 N σM y1 y2 y3 y4 else if ((σM.1 0 15) - y3) = 3 then some (0, (f_X8_fail σM 1 (σM.1 0 15))) else if (σM.1 0 15) < 0 ∨ 200 ≤ Int32.toNatClampNeg (σM.1 0 15) then none else lt (((10 * y4) + (σM.1 14 (Int32.toNatClampNeg (σM.1 0 15)))) - 48 : Int32) fun z_7 => lt ((σM.1 0 15) + 1 : Int32) fun z_8 => f_X8_number_40 N n (up2 σM.1 0 15 z_8, σM.2) y1 y2 y3 z_7
def f_X8_number (N : Nat) (σM : St2 × (Nat → Int64)) (x1 : Int32) (x2 : Int32) : Option (Int32 × (St2 × (Nat → Int64))) := (f_X8_next_ N σM).bind fun o_1 => if (bI (f_X8_isDigit o_1.1)) = 0 then some (0, (f_X8_fail o_1.2 1 (o_1.2.1 0 15))) else if (o_1.2.1 0 15) = (o_1.2.1 0 17) then some (0, (f_X8_fail o_1.2 1 (o_1.2.1 0 15))) else f_X8_number_40 N N o_1.2 x1 x2 (o_1.2.1 0 15) 0
set_option maxHeartbeats 4000000 in
set_option maxRecDepth 100000 in
theorem b_X8_number_120 {l : Launch} {D : va_G} {cy : Nat → ClassId} {g : Gs} {p : Program} {e : Env} {s : State} {m : MethodId} {args : Array Value} {below : List Frame} {meth : Method} {c : Code} {A : Nat → Prop} {aM : Nat → Nat} {N : Nat} {out : Int32 × (St2 × (Nat → Int64))} (F : Fx p s m args meth c cX8_number RX8 5 (some .int)) (hK : va_K D vwCl (tys cy) s) (hS : St g A s s.heap) (hA : ∀ q, s.heap.size ≤ q → A q) :
    ∀ (σM : St2 × (Nat → Int64)) (y1 : Int32) (y2 : Int32) (y3 : Int32) (y4 : Int32), f_X8_number_120 N σM y1 y2 y3 y4 = some out → J p l e { frames := 1, cells := 0, slots := 0, locals := 22 } s m args below meth c 5 (hW D A s (wM aM cy σM)) 0 0 (MQ below (QW D A (some (.int out.1)) (wM aM cy out.2)) args s 0 0 A) 120 [(0, .ref (aM 0)), (1, .int y1), (2, .int y2), (3, .int y3), (4, .int y4)] [] := by
  intro σM y1 y2 y3 y4 hf
  unfold f_X8_number_120 at hf
  refine j_aload_n (pc := 120) F 0 dX8_number_120 rfl rfl ?_
  refine j_aload_n (pc := 121) F 0 dX8_number_121 rfl rfl ?_
  refine jw_get (pc := 122) (v := .int (σM.1 0 15)) F hK ix_8 0 rfl rfl 15 (by decide) tm_830 rfl rfl dX8_number_122 ?_
  obtain ⟨z_1, ez_1, hf⟩ := of_lt hf
  refine j_topi ez_1 ?_
  refine jw_put (pc := 125) (w' := wM aM cy (up2 σM.1 0 17 z_1, σM.2)) F hK ix_8 tyX8 tyX8_ok nmX8 0 rfl rfl 17 (by decide) tm_832 rfl rfl rfl rfl rfl (Nat.le_of_ble_eq_true rfl) (wM_put_17 _ _ _ _) dX8_number_125 ?_
  refine j_iload (pc := 128) F 4 dX8_number_128 rfl ?_
  refine j_iload_n (pc := 130) F 1 dX8_number_130 rfl rfl ?_
  refine j_iload_n (pc := 131) F 2 dX8_number_131 rfl rfl ?_
  refine j_callRS (pc := 132) (st := []) (st1 := [.int (bI (f_X8_isIn y4 y1 y2))]) F hK (hpW hS hp_nil) (c_X8_isIn (l := l) (D := D) (cy := cy) (g := g) (rfl : f_X8_isIn y4 y1 y2 = _)) tm_973 cf_X8_isIn (Nat.le_of_ble_eq_true rfl) (Nat.le_of_ble_eq_true rfl) ⟨Nat.zero_le _, Nat.zero_le _⟩ rfl rfl (Nat.le_of_ble_eq_true rfl) rfl dX8_number_132 ?_
  refine j_if_ne (pc := 135) (tgt := 144) F dX8_number_135 rfl (fun c_3 => ?_) (fun c_3 => ?_)
  · have hf := of_neg c_3 hf
    refine j_iload (pc := 144) F 4 dX8_number_144 rfl ?_
    have hf := (Option.some.inj hf)
    subst hf
    exact j_iretW (pc := 146) F dX8_number_146 rfl rfl
  · have hf := of_pos c_3 hf
    refine j_aload_n (pc := 138) F 0 dX8_number_138 rfl rfl ?_
    refine j_iconst (pc := 139) F (v := 4) dX8_number_139 rfl ?_
    refine j_iload_n (pc := 140) F 3 dX8_number_140 rfl rfl ?_
    refine j_callWs (pc := 141) (st := []) (st1 := []) (w' := wM aM cy (f_X8_fail (up2 σM.1 0 17 z_1, σM.2) 4 y3)) F hK hS hA (c_X8_fail (l := l) (D := D) (cy := cy) (g := g) (aM := aM) (rfl : f_X8_fail (up2 σM.1 0 17 z_1, σM.2) 4 y3 = _)) tm_1121 cf_X8_fail (Nat.le_of_ble_eq_true rfl) (Nat.le_of_ble_eq_true rfl) ⟨Nat.zero_le _, Nat.zero_le _⟩ 0 rfl rfl rfl rfl rfl (Nat.le_of_ble_eq_true rfl) rfl dX8_number_141 ?_
    refine j_iload (pc := 144) F 4 dX8_number_144 rfl ?_
    have hf := (Option.some.inj hf)
    subst hf
    exact j_iretW (pc := 146) F dX8_number_146 rfl rfl
set_option maxHeartbeats 4000000 in
set_option maxRecDepth 100000 in
theorem b_X8_number_40 {l : Launch} {D : va_G} {cy : Nat → ClassId} {g : Gs} {p : Program} {e : Env} {s : State} {m : MethodId} {args : Array Value} {below : List Frame} {meth : Method} {c : Code} {A : Nat → Prop} {aM : Nat → Nat} {N : Nat} {out : Int32 × (St2 × (Nat → Int64))} (F : Fx p s m args meth c cX8_number RX8 5 (some .int)) (hK : va_K D vwCl (tys cy) s) (hS : St g A s s.heap) (hA : ∀ q, s.heap.size ≤ q → A q) :
    ∀ (n : Nat) (σM : St2 × (Nat → Int64)) (y1 : Int32) (y2 : Int32) (y3 : Int32) (y4 : Int32), f_X8_number_40 N n σM y1 y2 y3 y4 = some out → J p l e { frames := 1, cells := 0, slots := 0, locals := 22 } s m args below meth c 5 (hW D A s (wM aM cy σM)) 0 0 (MQ below (QW D A (some (.int out.1)) (wM aM cy out.2)) args s 0 0 A) 40 [(0, .ref (aM 0)), (1, .int y1), (2, .int y2), (3, .int y3), (4, .int y4)] [] := by
  intro n
  induction n with
  | zero =>
    intro σM y1 y2 y3 y4 hf
    cases hf
  | succ n ih =>
    intro σM y1 y2 y3 y4 hf
    rw [f_X8_number_40] at hf
    refine j_aload_n (pc := 40) F 0 dX8_number_40 rfl rfl ?_
    refine jw_get (pc := 41) (v := .int (σM.1 0 15)) F hK ix_8 0 rfl rfl 15 (by decide) tm_830 rfl rfl dX8_number_41 ?_
    refine j_aload_n (pc := 44) F 0 dX8_number_44 rfl rfl ?_
    refine jw_get (pc := 45) (v := .int (σM.1 0 16)) F hK ix_8 0 rfl rfl 16 (by decide) tm_831 rfl rfl dX8_number_45 ?_
    refine j_icmp_ge (pc := 48) (tgt := 120) F dX8_number_48 rfl (fun c_1 => ?_) (fun c_1 => ?_)
    · have hf := of_pos c_1 hf
      exact b_X8_number_120 F hK hS hA σM y1 y2 y3 y4 hf
    · have hf := of_neg c_1 hf
      refine j_aload_n (pc := 51) F 0 dX8_number_51 rfl rfl ?_
      refine jw_get (pc := 52) (v := .ref (aM 14)) F hK ix_8 0 rfl rfl 13 (by decide) tm_828 rfl rfl dX8_number_52 ?_
      refine j_aload_n (pc := 55) F 0 dX8_number_55 rfl rfl ?_
      refine jw_get (pc := 56) (v := .int (σM.1 0 15)) F hK ix_8 0 rfl rfl 15 (by decide) tm_830 rfl rfl dX8_number_56 ?_
      have c_2 : ¬ ((σM.1 0 15) < 0 ∨ 200 ≤ Int32.toNatClampNeg (σM.1 0 15)) := fun z => by rw [if_pos z] at hf; cases hf
      have hf := of_neg c_2 hf
      refine jw_iald (pc := 59) F hK 6 rfl c_2 dX8_number_59 ?_
      refine j_callRS (pc := 60) (st := []) (st1 := [.int (bI (f_X8_isDigit (σM.1 14 (Int32.toNatClampNeg (σM.1 0 15)))))]) F hK (hpW hS hp_nil) (c_X8_isDigit (l := l) (D := D) (cy := cy) (g := g) (rfl : f_X8_isDigit (σM.1 14 (Int32.toNatClampNeg (σM.1 0 15))) = _)) tm_1133 cf_X8_isDigit (Nat.le_of_ble_eq_true rfl) (Nat.le_of_ble_eq_true rfl) ⟨Nat.zero_le _, Nat.zero_le _⟩ rfl rfl (Nat.le_of_ble_eq_true rfl) rfl dX8_number_60 ?_
      refine j_if_eq (pc := 63) (tgt := 120) F dX8_number_63 rfl (fun c_4 => ?_) (fun c_4 => ?_)
      · have hf := of_pos c_4 hf
        exact b_X8_number_120 F hK hS hA σM y1 y2 y3 y4 hf
      · have hf := of_neg c_4 hf
        refine j_aload_n (pc := 66) F 0 dX8_number_66 rfl rfl ?_
        refine jw_get (pc := 67) (v := .int (σM.1 0 15)) F hK ix_8 0 rfl rfl 15 (by decide) tm_830 rfl rfl dX8_number_67 ?_
        refine j_iload_n (pc := 70) F 3 dX8_number_70 rfl rfl ?_
        refine j_isub (pc := 71) F dX8_number_71 ?_
        refine j_iconst (pc := 72) F (v := 3) dX8_number_72 rfl ?_
        refine j_icmp_ne (pc := 73) (tgt := 87) F dX8_number_73 rfl (fun c_5 => ?_) (fun c_5 => ?_)
        · have hf := of_neg c_5 hf
          refine j_bipush (pc := 87) F (v := 10) dX8_number_87 rfl ?_
          refine j_iload (pc := 89) F 4 dX8_number_89 rfl ?_
          refine j_imul (pc := 91) F dX8_number_91 ?_
          refine j_aload_n (pc := 92) F 0 dX8_number_92 rfl rfl ?_
          refine jw_get (pc := 93) (v := .ref (aM 14)) F hK ix_8 0 rfl rfl 13 (by decide) tm_828 rfl rfl dX8_number_93 ?_
          refine j_aload_n (pc := 96) F 0 dX8_number_96 rfl rfl ?_
          refine jw_get (pc := 97) (v := .int (σM.1 0 15)) F hK ix_8 0 rfl rfl 15 (by decide) tm_830 rfl rfl dX8_number_97 ?_
          have c_6 : ¬ ((σM.1 0 15) < 0 ∨ 200 ≤ Int32.toNatClampNeg (σM.1 0 15)) := fun z => by rw [if_pos z] at hf; cases hf
          have hf := of_neg c_6 hf
          refine jw_iald (pc := 100) F hK 6 rfl c_6 dX8_number_100 ?_
          refine j_iadd (pc := 101) F dX8_number_101 ?_
          refine j_bipush (pc := 102) F (v := 48) dX8_number_102 rfl ?_
          refine j_isub (pc := 104) F dX8_number_104 ?_
          obtain ⟨z_7, ez_7, hf⟩ := of_lt hf
          refine j_topi ez_7 ?_
          refine j_istore (pc := 105) (lv' := [(4, .int z_7), (0, .ref (aM 0)), (1, .int y1), (2, .int y2), (3, .int y3)]) F dX8_number_105 (by decide) rfl ?_
          refine j_aload_n (pc := 107) F 1 dX8_number_107 rfl rfl ?_
          refine j_dup (pc := 108) F dX8_number_108 rfl ?_
          refine jw_get (pc := 109) (v := .int (σM.1 0 15)) F hK ix_8 0 rfl rfl 15 (by decide) tm_830 rfl rfl dX8_number_109 ?_
          refine j_iconst (pc := 112) F (v := 1) dX8_number_112 rfl ?_
          refine j_iadd (pc := 113) F dX8_number_113 ?_
          obtain ⟨z_8, ez_8, hf⟩ := of_lt hf
          refine j_topi ez_8 ?_
          refine jw_put (pc := 114) (w' := wM aM cy (up2 σM.1 0 15 z_8, σM.2)) F hK ix_8 tyX8 tyX8_ok nmX8 0 rfl rfl 15 (by decide) tm_830 rfl rfl rfl rfl rfl (Nat.le_of_ble_eq_true rfl) (wM_put_15 _ _ _ _) dX8_number_114 ?_
          refine j_goto (pc := 117) F (tgt := 40) dX8_number_117 rfl ?_
          refine j_sub [1, 2, 3, 4, 0] rfl ?_
          exact ih (up2 σM.1 0 15 z_8, σM.2) y1 y2 y3 z_7 hf
        · have hf := of_pos c_5 hf
          refine j_aload_n (pc := 76) F 0 dX8_number_76 rfl rfl ?_
          refine j_iconst (pc := 77) F (v := 1) dX8_number_77 rfl ?_
          refine j_aload_n (pc := 78) F 0 dX8_number_78 rfl rfl ?_
          refine jw_get (pc := 79) (v := .int (σM.1 0 15)) F hK ix_8 0 rfl rfl 15 (by decide) tm_830 rfl rfl dX8_number_79 ?_
          refine j_callWs (pc := 82) (st := []) (st1 := []) (w' := wM aM cy (f_X8_fail σM 1 (σM.1 0 15))) F hK hS hA (c_X8_fail (l := l) (D := D) (cy := cy) (g := g) (aM := aM) (rfl : f_X8_fail σM 1 (σM.1 0 15) = _)) tm_1121 cf_X8_fail (Nat.le_of_ble_eq_true rfl) (Nat.le_of_ble_eq_true rfl) ⟨Nat.zero_le _, Nat.zero_le _⟩ 0 rfl rfl rfl rfl rfl (Nat.le_of_ble_eq_true rfl) rfl dX8_number_82 ?_
          refine j_iconst (pc := 85) F (v := 0) dX8_number_85 rfl ?_
          have hf := (Option.some.inj hf)
          subst hf
          exact j_iretW (pc := 86) F dX8_number_86 rfl rfl
set_option maxHeartbeats 4000000 in
set_option maxRecDepth 100000 in
theorem c_X8_number {l : Launch} {D : va_G} {cy : Nat → ClassId} {g : Gs} {aM : Nat → Nat} {σM : St2 × (Nat → Int64)} {N : Nat} {x1 : Int32} {x2 : Int32} {out : Int32 × (St2 × (Nat → Int64))} (hf : f_X8_number N σM x1 x2 = some out) : CW l D cy g yX8_number cX8_number 5 (some .int) 1 22 (wM aM cy σM) [.ref (aM 0), .int x1, .int x2] (some (.int out.1)) (wM aM cy out.2) := by
  unfold f_X8_number at hf
  refine met_W (lv := [(0, .ref (aM 0)), (1, .int x1), (2, .int x2)]) (by decide) (Nat.le_of_ble_eq_true rfl) rfl ?_
  intro p e s m args below meth c A F hK hS hA
  refine j_aload_n (pc := 0) F 0 dX8_number_0 rfl rfl ?_
  obtain ⟨o_1, ho_1, hf⟩ := of_bnd hf
  refine j_callWs (pc := 1) (st := []) (st1 := [.int o_1.1]) (w' := wM aM cy o_1.2) F hK hS hA (c_X8_next_ (l := l) (D := D) (cy := cy) (g := g) (aM := aM) ho_1) tm_1113 cf_X8_next_ (Nat.le_of_ble_eq_true rfl) (Nat.le_of_ble_eq_true rfl) ⟨Nat.zero_le _, Nat.zero_le _⟩ 0 rfl rfl rfl rfl rfl (Nat.le_of_ble_eq_true rfl) rfl dX8_number_1 ?_
  refine j_callRS (pc := 4) (st := []) (st1 := [.int (bI (f_X8_isDigit o_1.1))]) F hK (hpW hS hp_nil) (c_X8_isDigit (l := l) (D := D) (cy := cy) (g := g) (rfl : f_X8_isDigit o_1.1 = _)) tm_1133 cf_X8_isDigit (Nat.le_of_ble_eq_true rfl) (Nat.le_of_ble_eq_true rfl) ⟨Nat.zero_le _, Nat.zero_le _⟩ rfl rfl (Nat.le_of_ble_eq_true rfl) rfl dX8_number_4 ?_
  refine j_if_eq (pc := 7) (tgt := 21) F dX8_number_7 rfl (fun c_3 => ?_) (fun c_3 => ?_)
  · have hf := of_pos c_3 hf
    refine j_aload_n (pc := 21) F 0 dX8_number_21 rfl rfl ?_
    refine j_iconst (pc := 22) F (v := 1) dX8_number_22 rfl ?_
    refine j_aload_n (pc := 23) F 0 dX8_number_23 rfl rfl ?_
    refine jw_get (pc := 24) (v := .int (o_1.2.1 0 15)) F hK ix_8 0 rfl rfl 15 (by decide) tm_830 rfl rfl dX8_number_24 ?_
    refine j_callWs (pc := 27) (st := []) (st1 := []) (w' := wM aM cy (f_X8_fail o_1.2 1 (o_1.2.1 0 15))) F hK hS hA (c_X8_fail (l := l) (D := D) (cy := cy) (g := g) (aM := aM) (rfl : f_X8_fail o_1.2 1 (o_1.2.1 0 15) = _)) tm_1121 cf_X8_fail (Nat.le_of_ble_eq_true rfl) (Nat.le_of_ble_eq_true rfl) ⟨Nat.zero_le _, Nat.zero_le _⟩ 0 rfl rfl rfl rfl rfl (Nat.le_of_ble_eq_true rfl) rfl dX8_number_27 ?_
    refine j_iconst (pc := 30) F (v := 0) dX8_number_30 rfl ?_
    have hf := (Option.some.inj hf)
    subst hf
    exact j_iretW (pc := 31) F dX8_number_31 rfl rfl
  · have hf := of_neg c_3 hf
    refine j_aload_n (pc := 10) F 0 dX8_number_10 rfl rfl ?_
    refine jw_get (pc := 11) (v := .int (o_1.2.1 0 15)) F hK ix_8 0 rfl rfl 15 (by decide) tm_830 rfl rfl dX8_number_11 ?_
    refine j_aload_n (pc := 14) F 0 dX8_number_14 rfl rfl ?_
    refine jw_get (pc := 15) (v := .int (o_1.2.1 0 17)) F hK ix_8 0 rfl rfl 17 (by decide) tm_832 rfl rfl dX8_number_15 ?_
    refine j_icmp_ne (pc := 18) (tgt := 32) F dX8_number_18 rfl (fun c_5 => ?_) (fun c_5 => ?_)
    · have hf := of_neg c_5 hf
      refine j_aload_n (pc := 32) F 0 dX8_number_32 rfl rfl ?_
      refine jw_get (pc := 33) (v := .int (o_1.2.1 0 15)) F hK ix_8 0 rfl rfl 15 (by decide) tm_830 rfl rfl dX8_number_33 ?_
      refine j_istore_n (pc := 36) (lv' := [(3, .int (o_1.2.1 0 15)), (0, .ref (aM 0)), (1, .int x1), (2, .int x2)]) F dX8_number_36 rfl (by decide) rfl ?_
      refine j_iconst (pc := 37) F (v := 0) dX8_number_37 rfl ?_
      refine j_istore (pc := 38) (lv' := [(4, .int 0), (3, .int (o_1.2.1 0 15)), (0, .ref (aM 0)), (1, .int x1), (2, .int x2)]) F dX8_number_38 (by decide) rfl ?_
      refine j_sub [2, 3, 4, 1, 0] rfl ?_
      exact b_X8_number_40 F hK hS hA N o_1.2 x1 x2 (o_1.2.1 0 15) 0 hf
    · have hf := of_pos c_5 hf
      refine j_aload_n (pc := 21) F 0 dX8_number_21 rfl rfl ?_
      refine j_iconst (pc := 22) F (v := 1) dX8_number_22 rfl ?_
      refine j_aload_n (pc := 23) F 0 dX8_number_23 rfl rfl ?_
      refine jw_get (pc := 24) (v := .int (o_1.2.1 0 15)) F hK ix_8 0 rfl rfl 15 (by decide) tm_830 rfl rfl dX8_number_24 ?_
      refine j_callWs (pc := 27) (st := []) (st1 := []) (w' := wM aM cy (f_X8_fail o_1.2 1 (o_1.2.1 0 15))) F hK hS hA (c_X8_fail (l := l) (D := D) (cy := cy) (g := g) (aM := aM) (rfl : f_X8_fail o_1.2 1 (o_1.2.1 0 15) = _)) tm_1121 cf_X8_fail (Nat.le_of_ble_eq_true rfl) (Nat.le_of_ble_eq_true rfl) ⟨Nat.zero_le _, Nat.zero_le _⟩ 0 rfl rfl rfl rfl rfl (Nat.le_of_ble_eq_true rfl) rfl dX8_number_27 ?_
      refine j_iconst (pc := 30) F (v := 0) dX8_number_30 rfl ?_
      have hf := (Option.some.inj hf)
      subst hf
      exact j_iretW (pc := 31) F dX8_number_31 rfl rfl
theorem cf_X8_number : cfV yX8_number cX8_number 5 (some .int) 2 := ⟨tm_1131, tm_46, tm_60, tm_1132, by decide, by decide, by decide +kernel⟩

def f_X8_packed_5 (N : Nat) : Nat → (St2 × (Nat → Int64)) → Int32 → Int64 → Int32 → Option (Int64)
  | 0, _, _, _, _ => none
  | n + 1, σM, y2, y3, y5 => if y2 ≤ y5 then some y3 else if y5 < 0 ∨ 200 ≤ Int32.toNatClampNeg y5 then none else lt ((((27 * y3) + ((σM.1 14 (Int32.toNatClampNeg y5)).toInt64)) - 97) + 1 : Int64) fun z_3 => f_X8_packed_5 N n σM y2 z_3 (y5 + 1)
def f_X8_packed (N : Nat) (σM : St2 × (Nat → Int64)) (x1 : Int32) (x2 : Int32) : Option (Int64) := f_X8_packed_5 N N σM x2 0 x1
set_option maxHeartbeats 4000000 in
set_option maxRecDepth 100000 in
theorem b_X8_packed_5 {l : Launch} {D : va_G} {cy : Nat → ClassId} {g : Gs} {p : Program} {e : Env} {s : State} {m : MethodId} {args : Array Value} {below : List Frame} {meth : Method} {c : Code} {aM : Nat → Nat} {σM : St2 × (Nat → Int64)} {N : Nat} {out : Int64} (F : Fx p s m args meth c cX8_packed RX8 6 (some .long)) (hP : va_P D vwCl (wM aM cy σM) s.heap) (hK : va_K D vwCl (tys cy) s) (hS : St g nA s s.heap) :
    ∀ (n : Nat) (y2 : Int32) (y3 : Int64) (y5 : Int32), f_X8_packed_5 N n σM y2 y3 y5 = some out → J p l e { frames := 0, cells := 0, slots := 0, locals := 0 } s m args below meth c 6 (hR s) 0 0 (MQ below (QR (some (.long out))) args s 0 0 nA) 5 [(0, .ref (aM 0)), (2, .int y2), (3, .long y3), (5, .int y5)] [] := by
  intro n
  induction n with
  | zero =>
    intro y2 y3 y5 hf
    cases hf
  | succ n ih =>
    intro y2 y3 y5 hf
    rw [f_X8_packed_5] at hf
    refine j_iload (pc := 5) F 3 dX8_packed_5 rfl ?_
    refine j_iload_n (pc := 7) F 1 dX8_packed_7 rfl rfl ?_
    refine j_icmp_ge (pc := 8) (tgt := 38) F dX8_packed_8 rfl (fun c_1 => ?_) (fun c_1 => ?_)
    · have hf := of_pos c_1 hf
      refine j_lload_n (pc := 38) F 2 dX8_packed_38 rfl rfl ?_
      exact j_lretR (pc := 39) F dX8_packed_39 (Option.some.inj hf)
    · have hf := of_neg c_1 hf
      refine j_ldc2 (pc := 11) F tm_1091 dX8_packed_11 ?_
      refine j_lload_n (pc := 14) F 2 dX8_packed_14 rfl rfl ?_
      refine j_lmul (pc := 15) F dX8_packed_15 ?_
      refine j_aload_n (pc := 16) F 0 dX8_packed_16 rfl rfl ?_
      refine jr_get (pc := 17) (v := .ref (aM 14)) F hK hP ix_8 0 rfl rfl 13 (by decide) tm_828 rfl rfl dX8_packed_17 ?_
      refine j_iload (pc := 20) F 3 dX8_packed_20 rfl ?_
      have c_2 : ¬ (y5 < 0 ∨ 200 ≤ Int32.toNatClampNeg y5) := fun z => by rw [if_pos z] at hf; cases hf
      have hf := of_neg c_2 hf
      refine jr_iald (pc := 22) F hK hP 6 rfl c_2 dX8_packed_22 ?_
      refine j_i2l (pc := 23) F dX8_packed_23 ?_
      refine j_ladd (pc := 24) F dX8_packed_24 ?_
      refine j_ldc2 (pc := 25) F tm_1092 dX8_packed_25 ?_
      refine j_lsub (pc := 28) F dX8_packed_28 ?_
      refine j_lconst (pc := 29) F (v := 1) dX8_packed_29 rfl ?_
      refine j_ladd (pc := 30) F dX8_packed_30 ?_
      obtain ⟨z_3, ez_3, hf⟩ := of_lt hf
      refine j_topl ez_3 ?_
      refine j_lstore_n (pc := 31) (lv' := [(3, .long z_3), (0, .ref (aM 0)), (2, .int y2), (5, .int y5)]) F dX8_packed_31 rfl (by decide) rfl ?_
      refine j_iinc (pc := 32) (v := y5 + 1) (lv' := [(5, .int (y5 + 1)), (3, .long z_3), (0, .ref (aM 0)), (2, .int y2)]) F 3 dX8_packed_32 rfl rfl (by decide) rfl ?_
      refine j_goto (pc := 35) F (tgt := 5) dX8_packed_35 rfl ?_
      refine j_sub [2, 3, 1, 0] rfl ?_
      exact ih y2 z_3 (y5 + 1) hf
set_option maxHeartbeats 4000000 in
set_option maxRecDepth 100000 in
theorem c_X8_packed {l : Launch} {D : va_G} {cy : Nat → ClassId} {g : Gs} {aM : Nat → Nat} {σM : St2 × (Nat → Int64)} {N : Nat} {x1 : Int32} {x2 : Int32} {out : Int64} (hf : f_X8_packed N σM x1 x2 = some out) : CR l D cy g yX8_packed cX8_packed 6 (some .long) 0 0 (wM aM cy σM) [.ref (aM 0), .int x1, .int x2] (some (.long out)) := by
  unfold f_X8_packed at hf
  refine met_R (lv := [(0, .ref (aM 0)), (1, .int x1), (2, .int x2)]) (by decide) (Nat.le_of_ble_eq_true rfl) rfl ?_
  intro p e s m args below meth c F hP hK hS
  refine j_lconst (pc := 0) F (v := 0) dX8_packed_0 rfl ?_
  refine j_lstore_n (pc := 1) (lv' := [(3, .long 0), (0, .ref (aM 0)), (1, .int x1), (2, .int x2)]) F dX8_packed_1 rfl (by decide) rfl ?_
  refine j_iload_n (pc := 2) F 2 dX8_packed_2 rfl rfl ?_
  refine j_istore (pc := 3) (lv' := [(5, .int x1), (3, .long 0), (0, .ref (aM 0)), (1, .int x1), (2, .int x2)]) F dX8_packed_3 (by decide) rfl ?_
  refine j_sub [2, 4, 1, 0] rfl ?_
  exact b_X8_packed_5 F hP hK hS N x2 0 x1 hf
theorem cf_X8_packed : cfV yX8_packed cX8_packed 6 (some .long) 2 := ⟨tm_1089, tm_37, tm_60, tm_1090, by decide, by decide, by decide +kernel⟩

def f_X8_reignOf_2 (N : Nat) : Nat → (St2 × (Nat → Int64)) → Int64 → Int32 → Option (Int32)
  | 0, _, _, _ => none
  | n + 1, σM, y1, y3 => if (σM.1 0 22) ≤ y3 then some (-1) else if y3 < 0 ∨ 12 ≤ Int32.toNatClampNeg y3 then none else if (lg_cmp (σM.2 (Int32.toNatClampNeg y3)) y1) = 0 then some y3 else f_X8_reignOf_2 N n σM y1 (y3 + 1)
def f_X8_reignOf (N : Nat) (σM : St2 × (Nat → Int64)) (x1 : Int64) : Option (Int32) := f_X8_reignOf_2 N N σM x1 0
set_option maxHeartbeats 4000000 in
set_option maxRecDepth 100000 in
theorem b_X8_reignOf_2 {l : Launch} {D : va_G} {cy : Nat → ClassId} {g : Gs} {p : Program} {e : Env} {s : State} {m : MethodId} {args : Array Value} {below : List Frame} {meth : Method} {c : Code} {aM : Nat → Nat} {σM : St2 × (Nat → Int64)} {N : Nat} {out : Int32} (F : Fx p s m args meth c cX8_reignOf RX8 4 (some .int)) (hP : va_P D vwCl (wM aM cy σM) s.heap) (hK : va_K D vwCl (tys cy) s) (hS : St g nA s s.heap) :
    ∀ (n : Nat) (y1 : Int64) (y3 : Int32), f_X8_reignOf_2 N n σM y1 y3 = some out → J p l e { frames := 0, cells := 0, slots := 0, locals := 0 } s m args below meth c 4 (hR s) 0 0 (MQ below (QR (some (.int out))) args s 0 0 nA) 2 [(0, .ref (aM 0)), (1, .long y1), (3, .int y3)] [] := by
  intro n
  induction n with
  | zero =>
    intro y1 y3 hf
    cases hf
  | succ n ih =>
    intro y1 y3 hf
    rw [f_X8_reignOf_2] at hf
    refine j_iload_n (pc := 2) F 2 dX8_reignOf_2 rfl rfl ?_
    refine j_aload_n (pc := 3) F 0 dX8_reignOf_3 rfl rfl ?_
    refine jr_get (pc := 4) (v := .int (σM.1 0 22)) F hK hP ix_8 0 rfl rfl 22 (by decide) tm_837 rfl rfl dX8_reignOf_4 ?_
    refine j_icmp_ge (pc := 7) (tgt := 29) F dX8_reignOf_7 rfl (fun c_1 => ?_) (fun c_1 => ?_)
    · have hf := of_pos c_1 hf
      refine j_iconst (pc := 29) F (v := (-1)) dX8_reignOf_29 rfl ?_
      exact j_iretR (pc := 30) F dX8_reignOf_30 (Option.some.inj hf)
    · have hf := of_neg c_1 hf
      refine j_aload_n (pc := 10) F 0 dX8_reignOf_10 rfl rfl ?_
      refine jr_get (pc := 11) (v := .ref (aM 24)) F hK hP ix_8 0 rfl rfl 23 (by decide) tm_838 rfl rfl dX8_reignOf_11 ?_
      refine j_iload_n (pc := 14) F 2 dX8_reignOf_14 rfl rfl ?_
      have c_2 : ¬ (y3 < 0 ∨ 12 ≤ Int32.toNatClampNeg y3) := fun z => by rw [if_pos z] at hf; cases hf
      have hf := of_neg c_2 hf
      refine jr_lald (pc := 15) F hK hP 7 rfl c_2 dX8_reignOf_15 ?_
      refine j_lload_n (pc := 16) F 1 dX8_reignOf_16 rfl rfl ?_
      refine j_lcmp (pc := 17) F dX8_reignOf_17 ?_
      refine j_if_ne (pc := 18) (tgt := 23) F dX8_reignOf_18 rfl (fun c_3 => ?_) (fun c_3 => ?_)
      · have hf := of_neg c_3 hf
        refine j_iinc (pc := 23) (v := y3 + 1) (lv' := [(3, .int (y3 + 1)), (0, .ref (aM 0)), (1, .long y1)]) F 2 dX8_reignOf_23 rfl rfl (by decide) rfl ?_
        refine j_goto (pc := 26) F (tgt := 2) dX8_reignOf_26 rfl ?_
        refine j_sub [1, 2, 0] rfl ?_
        exact ih y1 (y3 + 1) hf
      · have hf := of_pos c_3 hf
        refine j_iload_n (pc := 21) F 2 dX8_reignOf_21 rfl rfl ?_
        exact j_iretR (pc := 22) F dX8_reignOf_22 (Option.some.inj hf)
set_option maxHeartbeats 4000000 in
set_option maxRecDepth 100000 in
theorem c_X8_reignOf {l : Launch} {D : va_G} {cy : Nat → ClassId} {g : Gs} {aM : Nat → Nat} {σM : St2 × (Nat → Int64)} {N : Nat} {x1 : Int64} {out : Int32} (hf : f_X8_reignOf N σM x1 = some out) : CR l D cy g yX8_reignOf cX8_reignOf 4 (some .int) 0 0 (wM aM cy σM) [.ref (aM 0), .long x1] (some (.int out)) := by
  unfold f_X8_reignOf at hf
  refine met_R (lv := [(0, .ref (aM 0)), (1, .long x1)]) (by decide) (Nat.le_of_ble_eq_true rfl) rfl ?_
  intro p e s m args below meth c F hP hK hS
  refine j_iconst (pc := 0) F (v := 0) dX8_reignOf_0 rfl ?_
  refine j_istore_n (pc := 1) (lv' := [(3, .int 0), (0, .ref (aM 0)), (1, .long x1)]) F dX8_reignOf_1 rfl (by decide) rfl ?_
  refine j_sub [1, 2, 0] rfl ?_
  exact b_X8_reignOf_2 F hP hK hS N x1 0 hf
theorem cf_X8_reignOf : cfV yX8_reignOf cX8_reignOf 4 (some .int) 1 := ⟨tm_1095, tm_38, tm_60, tm_1096, by decide, by decide, by decide +kernel⟩

def f_X8_reign_88 (N : Nat) (σM : St2 × (Nat → Int64)) (y1 : Int32) (y2 : Int32) (y3 : Int32) (y4 : Int32) : Option (Int32 × (St2 × (Nat → Int64))) := if y4 = 0 then some ((-1), σM) else (f_X8_packed N σM 0 y3).bind fun o_2 => (f_X8_reignOf N σM o_2).bind fun o_3 => if o_3 = (-1) then (f_X8_packed N σM 0 y3).bind fun o_5 => if (σM.1 0 22) < 0 ∨ 12 ≤ Int32.toNatClampNeg (σM.1 0 22) then none else if (σM.1 0 22) < 0 ∨ 12 ≤ Int32.toNatClampNeg (σM.1 0 22) then none else if (σM.1 0 22) < 0 ∨ 12 ≤ Int32.toNatClampNeg (σM.1 0 22) then none else lt ((σM.1 0 22) + 1 : Int32) fun z_9 => some (z_9, (up2 (up2 (up2 σM.1 25 (Int32.toNatClampNeg (σM.1 0 22)) y1) 26 (Int32.toNatClampNeg (σM.1 0 22)) y2) 0 22 z_9, vp_updL σM.2 (Int32.toNatClampNeg (σM.1 0 22)) o_5)) else some ((-1), σM)
def f_X8_reign_59 (N : Nat) : Nat → (St2 × (Nat → Int64)) → Int32 → Int32 → Int32 → Int32 → Int32 → Option (Int32 × (St2 × (Nat → Int64)))
  | 0, _, _, _, _, _, _ => none
  | n + 1, σM, y1, y2, y3, y4, y5 => if y3 ≤ y5 then f_X8_reign_88 N σM y1 y2 y3 y4 else if y4 = 0 then f_X8_reign_88 N σM y1 y2 y3 y4 else if y5 < 0 ∨ 200 ≤ Int32.toNatClampNeg y5 then none else lt (bI (f_X8_isLetter (σM.1 14 (Int32.toNatClampNeg y5))) : Int32) fun z_5 => f_X8_reign_59 N n σM y1 y2 y3 z_5 (y5 + 1)
def f_X8_reign_54 (N : Nat) (σM : St2 × (Nat → Int64)) (y1 : Int32) (y2 : Int32) (y3 : Int32) (t0 : Int32) : Option (Int32 × (St2 × (Nat → Int64))) := f_X8_reign_59 N N σM y1 y2 y3 t0 0
def f_X8_reign_53 (N : Nat) (σM : St2 × (Nat → Int64)) (y1 : Int32) (y2 : Int32) (y3 : Int32) : Option (Int32 × (St2 × (Nat → Int64))) := f_X8_reign_54 N σM y1 y2 y3 0
def f_X8_reign (N : Nat) (σM : St2 × (Nat → Int64)) (x1 : Int32) (x2 : Int32) : Option (Int32 × (St2 × (Nat → Int64))) := if (σM.1 0 14) ≤ 0 then f_X8_reign_53 N (up2 σM.1 0 14 0, σM.2) x1 x2 (σM.1 0 14) else if 7 ≤ (σM.1 0 14) then f_X8_reign_53 N (up2 σM.1 0 14 0, σM.2) x1 x2 (σM.1 0 14) else if (bI (f_X8_isIn x1 0 2)) = 0 then f_X8_reign_53 N (up2 σM.1 0 14 0, σM.2) x1 x2 (σM.1 0 14) else if (bI (f_X8_isIn x2 0 600)) = 0 then f_X8_reign_53 N (up2 σM.1 0 14 0, σM.2) x1 x2 (σM.1 0 14) else if 12 ≤ (σM.1 0 22) then f_X8_reign_53 N (up2 σM.1 0 14 0, σM.2) x1 x2 (σM.1 0 14) else f_X8_reign_54 N (up2 σM.1 0 14 0, σM.2) x1 x2 (σM.1 0 14) 1
set_option maxHeartbeats 4000000 in
set_option maxRecDepth 100000 in
theorem b_X8_reign_88 {l : Launch} {D : va_G} {cy : Nat → ClassId} {g : Gs} {p : Program} {e : Env} {s : State} {m : MethodId} {args : Array Value} {below : List Frame} {meth : Method} {c : Code} {A : Nat → Prop} {aM : Nat → Nat} {N : Nat} {out : Int32 × (St2 × (Nat → Int64))} (F : Fx p s m args meth c cX8_reign RX8 6 (some .int)) (hK : va_K D vwCl (tys cy) s) (hS : St g A s s.heap) (hA : ∀ q, s.heap.size ≤ q → A q) :
    ∀ (σM : St2 × (Nat → Int64)) (y1 : Int32) (y2 : Int32) (y3 : Int32) (y4 : Int32), f_X8_reign_88 N σM y1 y2 y3 y4 = some out → J p l e { frames := 1, cells := 0, slots := 0, locals := 25 } s m args below meth c 6 (hW D A s (wM aM cy σM)) 0 0 (MQ below (QW D A (some (.int out.1)) (wM aM cy out.2)) args s 0 0 A) 88 [(0, .ref (aM 0)), (1, .int y1), (2, .int y2), (3, .int y3), (4, .int y4)] [] := by
  intro σM y1 y2 y3 y4 hf
  unfold f_X8_reign_88 at hf
  refine j_iload (pc := 88) F 4 dX8_reign_88 rfl ?_
  refine j_if_eq (pc := 90) (tgt := 107) F dX8_reign_90 rfl (fun c_1 => ?_) (fun c_1 => ?_)
  · have hf := of_pos c_1 hf
    refine j_iconst (pc := 107) F (v := (-1)) dX8_reign_107 rfl ?_
    have hf := (Option.some.inj hf)
    subst hf
    exact j_iretW (pc := 108) F dX8_reign_108 rfl rfl
  · have hf := of_neg c_1 hf
    refine j_aload_n (pc := 93) F 0 dX8_reign_93 rfl rfl ?_
    refine j_aload_n (pc := 94) F 0 dX8_reign_94 rfl rfl ?_
    refine j_iconst (pc := 95) F (v := 0) dX8_reign_95 rfl ?_
    refine j_iload_n (pc := 96) F 3 dX8_reign_96 rfl rfl ?_
    obtain ⟨o_2, ho_2, hf⟩ := of_bnd hf
    refine j_callRV (pc := 97) (st := [.ref (aM 0)]) (st1 := [.long o_2, .ref (aM 0)]) F hK (hpW hS hp_id) (c_X8_packed (l := l) (D := D) (cy := cy) (g := g) (aM := aM) ho_2) tm_1087 cf_X8_packed (Nat.le_of_ble_eq_true rfl) (Nat.le_of_ble_eq_true rfl) ⟨Nat.zero_le _, Nat.zero_le _⟩ 0 rfl rfl rfl rfl rfl (Nat.le_of_ble_eq_true rfl) rfl dX8_reign_97 ?_
    obtain ⟨o_3, ho_3, hf⟩ := of_bnd hf
    refine j_callRV (pc := 100) (st := []) (st1 := [.int o_3]) F hK (hpW hS hp_id) (c_X8_reignOf (l := l) (D := D) (cy := cy) (g := g) (aM := aM) ho_3) tm_1093 cf_X8_reignOf (Nat.le_of_ble_eq_true rfl) (Nat.le_of_ble_eq_true rfl) ⟨Nat.zero_le _, Nat.zero_le _⟩ 0 rfl rfl rfl rfl rfl (Nat.le_of_ble_eq_true rfl) rfl dX8_reign_100 ?_
    refine j_iconst (pc := 103) F (v := (-1)) dX8_reign_103 rfl ?_
    refine j_icmp_eq (pc := 104) (tgt := 109) F dX8_reign_104 rfl (fun c_4 => ?_) (fun c_4 => ?_)
    · have hf := of_pos c_4 hf
      refine j_aload_n (pc := 109) F 0 dX8_reign_109 rfl rfl ?_
      refine jw_get (pc := 110) (v := .ref (aM 24)) F hK ix_8 0 rfl rfl 23 (by decide) tm_838 rfl rfl dX8_reign_110 ?_
      refine j_aload_n (pc := 113) F 0 dX8_reign_113 rfl rfl ?_
      refine jw_get (pc := 114) (v := .int (σM.1 0 22)) F hK ix_8 0 rfl rfl 22 (by decide) tm_837 rfl rfl dX8_reign_114 ?_
      refine j_aload_n (pc := 117) F 0 dX8_reign_117 rfl rfl ?_
      refine j_iconst (pc := 118) F (v := 0) dX8_reign_118 rfl ?_
      refine j_iload_n (pc := 119) F 3 dX8_reign_119 rfl rfl ?_
      obtain ⟨o_5, ho_5, hf⟩ := of_bnd hf
      refine j_callRV (pc := 120) (st := [.int (σM.1 0 22), .ref (aM 24)]) (st1 := [.long o_5, .int (σM.1 0 22), .ref (aM 24)]) F hK (hpW hS hp_id) (c_X8_packed (l := l) (D := D) (cy := cy) (g := g) (aM := aM) ho_5) tm_1087 cf_X8_packed (Nat.le_of_ble_eq_true rfl) (Nat.le_of_ble_eq_true rfl) ⟨Nat.zero_le _, Nat.zero_le _⟩ 0 rfl rfl rfl rfl rfl (Nat.le_of_ble_eq_true rfl) rfl dX8_reign_120 ?_
      have c_6 : ¬ ((σM.1 0 22) < 0 ∨ 12 ≤ Int32.toNatClampNeg (σM.1 0 22)) := fun z => by rw [if_pos z] at hf; cases hf
      have hf := of_neg c_6 hf
      refine jw_last (pc := 123) (w' := wM aM cy (σM.1, vp_updL σM.2 (Int32.toNatClampNeg (σM.1 0 22)) o_5)) F hK 7 rfl c_6 (wM_row_24 _ _ _ _ _) dX8_reign_123 ?_
      refine j_aload_n (pc := 124) F 0 dX8_reign_124 rfl rfl ?_
      refine jw_get (pc := 125) (v := .ref (aM 25)) F hK ix_8 0 rfl rfl 24 (by decide) tm_839 rfl rfl dX8_reign_125 ?_
      refine j_aload_n (pc := 128) F 0 dX8_reign_128 rfl rfl ?_
      refine jw_get (pc := 129) (v := .int (σM.1 0 22)) F hK ix_8 0 rfl rfl 22 (by decide) tm_837 rfl rfl dX8_reign_129 ?_
      refine j_iload_n (pc := 132) F 1 dX8_reign_132 rfl rfl ?_
      have c_7 : ¬ ((σM.1 0 22) < 0 ∨ 12 ≤ Int32.toNatClampNeg (σM.1 0 22)) := fun z => by rw [if_pos z] at hf; cases hf
      have hf := of_neg c_7 hf
      refine jw_iast (pc := 133) (w' := wM aM cy (up2 σM.1 25 (Int32.toNatClampNeg (σM.1 0 22)) y1, vp_updL σM.2 (Int32.toNatClampNeg (σM.1 0 22)) o_5)) F hK 8 rfl c_7 (wM_row_25 _ _ _ _ _) dX8_reign_133 ?_
      refine j_aload_n (pc := 134) F 0 dX8_reign_134 rfl rfl ?_
      refine jw_get (pc := 135) (v := .ref (aM 26)) F hK ix_8 0 rfl rfl 25 (by decide) tm_840 rfl rfl dX8_reign_135 ?_
      refine j_aload_n (pc := 138) F 0 dX8_reign_138 rfl rfl ?_
      refine jw_get (pc := 139) (v := .int (σM.1 0 22)) F hK ix_8 0 rfl rfl 22 (by decide) tm_837 rfl rfl dX8_reign_139 ?_
      refine j_iload_n (pc := 142) F 2 dX8_reign_142 rfl rfl ?_
      have c_8 : ¬ ((σM.1 0 22) < 0 ∨ 12 ≤ Int32.toNatClampNeg (σM.1 0 22)) := fun z => by rw [if_pos z] at hf; cases hf
      have hf := of_neg c_8 hf
      refine jw_iast (pc := 143) (w' := wM aM cy (up2 (up2 σM.1 25 (Int32.toNatClampNeg (σM.1 0 22)) y1) 26 (Int32.toNatClampNeg (σM.1 0 22)) y2, vp_updL σM.2 (Int32.toNatClampNeg (σM.1 0 22)) o_5)) F hK 9 rfl c_8 (wM_row_26 _ _ _ _ _) dX8_reign_143 ?_
      refine j_aload_n (pc := 144) F 0 dX8_reign_144 rfl rfl ?_
      refine j_dup (pc := 145) F dX8_reign_145 rfl ?_
      refine jw_get (pc := 146) (v := .int (σM.1 0 22)) F hK ix_8 0 rfl rfl 22 (by decide) tm_837 rfl rfl dX8_reign_146 ?_
      refine j_iconst (pc := 149) F (v := 1) dX8_reign_149 rfl ?_
      refine j_iadd (pc := 150) F dX8_reign_150 ?_
      obtain ⟨z_9, ez_9, hf⟩ := of_lt hf
      refine j_topi ez_9 ?_
      refine jw_put (pc := 151) (w' := wM aM cy (up2 (up2 (up2 σM.1 25 (Int32.toNatClampNeg (σM.1 0 22)) y1) 26 (Int32.toNatClampNeg (σM.1 0 22)) y2) 0 22 z_9, vp_updL σM.2 (Int32.toNatClampNeg (σM.1 0 22)) o_5)) F hK ix_8 tyX8 tyX8_ok nmX8 0 rfl rfl 22 (by decide) tm_837 rfl rfl rfl rfl rfl (Nat.le_of_ble_eq_true rfl) (wM_put_22 _ _ _ _) dX8_reign_151 ?_
      refine j_aload_n (pc := 154) F 0 dX8_reign_154 rfl rfl ?_
      refine jw_get (pc := 155) (v := .int z_9) F hK ix_8 0 rfl rfl 22 (by decide) tm_837 rfl rfl dX8_reign_155 ?_
      have hf := (Option.some.inj hf)
      subst hf
      exact j_iretW (pc := 158) F dX8_reign_158 rfl rfl
    · have hf := of_neg c_4 hf
      refine j_iconst (pc := 107) F (v := (-1)) dX8_reign_107 rfl ?_
      have hf := (Option.some.inj hf)
      subst hf
      exact j_iretW (pc := 108) F dX8_reign_108 rfl rfl
set_option maxHeartbeats 4000000 in
set_option maxRecDepth 100000 in
theorem b_X8_reign_59 {l : Launch} {D : va_G} {cy : Nat → ClassId} {g : Gs} {p : Program} {e : Env} {s : State} {m : MethodId} {args : Array Value} {below : List Frame} {meth : Method} {c : Code} {A : Nat → Prop} {aM : Nat → Nat} {N : Nat} {out : Int32 × (St2 × (Nat → Int64))} (F : Fx p s m args meth c cX8_reign RX8 6 (some .int)) (hK : va_K D vwCl (tys cy) s) (hS : St g A s s.heap) (hA : ∀ q, s.heap.size ≤ q → A q) :
    ∀ (n : Nat) (σM : St2 × (Nat → Int64)) (y1 : Int32) (y2 : Int32) (y3 : Int32) (y4 : Int32) (y5 : Int32), f_X8_reign_59 N n σM y1 y2 y3 y4 y5 = some out → J p l e { frames := 1, cells := 0, slots := 0, locals := 25 } s m args below meth c 6 (hW D A s (wM aM cy σM)) 0 0 (MQ below (QW D A (some (.int out.1)) (wM aM cy out.2)) args s 0 0 A) 59 [(0, .ref (aM 0)), (1, .int y1), (2, .int y2), (3, .int y3), (4, .int y4), (5, .int y5)] [] := by
  intro n
  induction n with
  | zero =>
    intro σM y1 y2 y3 y4 y5 hf
    cases hf
  | succ n ih =>
    intro σM y1 y2 y3 y4 y5 hf
    rw [f_X8_reign_59] at hf
    refine j_iload (pc := 59) F 5 dX8_reign_59 rfl ?_
    refine j_iload_n (pc := 61) F 3 dX8_reign_61 rfl rfl ?_
    refine j_icmp_ge (pc := 62) (tgt := 88) F dX8_reign_62 rfl (fun c_1 => ?_) (fun c_1 => ?_)
    · have hf := of_pos c_1 hf
      refine j_sub [0, 1, 2, 3, 4] rfl ?_
      exact b_X8_reign_88 F hK hS hA σM y1 y2 y3 y4 hf
    · have hf := of_neg c_1 hf
      refine j_iload (pc := 65) F 4 dX8_reign_65 rfl ?_
      refine j_if_eq (pc := 67) (tgt := 88) F dX8_reign_67 rfl (fun c_2 => ?_) (fun c_2 => ?_)
      · have hf := of_pos c_2 hf
        refine j_sub [0, 1, 2, 3, 4] rfl ?_
        exact b_X8_reign_88 F hK hS hA σM y1 y2 y3 y4 hf
      · have hf := of_neg c_2 hf
        refine j_aload_n (pc := 70) F 0 dX8_reign_70 rfl rfl ?_
        refine jw_get (pc := 71) (v := .ref (aM 14)) F hK ix_8 0 rfl rfl 13 (by decide) tm_828 rfl rfl dX8_reign_71 ?_
        refine j_iload (pc := 74) F 5 dX8_reign_74 rfl ?_
        have c_3 : ¬ (y5 < 0 ∨ 200 ≤ Int32.toNatClampNeg y5) := fun z => by rw [if_pos z] at hf; cases hf
        have hf := of_neg c_3 hf
        refine jw_iald (pc := 76) F hK 6 rfl c_3 dX8_reign_76 ?_
        refine j_callRS (pc := 77) (st := []) (st1 := [.int (bI (f_X8_isLetter (σM.1 14 (Int32.toNatClampNeg y5))))]) F hK (hpW hS hp_nil) (c_X8_isLetter (l := l) (D := D) (cy := cy) (g := g) (rfl : f_X8_isLetter (σM.1 14 (Int32.toNatClampNeg y5)) = _)) tm_1084 cf_X8_isLetter (Nat.le_of_ble_eq_true rfl) (Nat.le_of_ble_eq_true rfl) ⟨Nat.zero_le _, Nat.zero_le _⟩ rfl rfl (Nat.le_of_ble_eq_true rfl) rfl dX8_reign_77 ?_
        obtain ⟨z_5, ez_5, hf⟩ := of_lt hf
        refine j_topi ez_5 ?_
        refine j_istore (pc := 80) (lv' := [(4, .int z_5), (0, .ref (aM 0)), (1, .int y1), (2, .int y2), (3, .int y3), (5, .int y5)]) F dX8_reign_80 (by decide) rfl ?_
        refine j_iinc (pc := 82) (v := y5 + 1) (lv' := [(5, .int (y5 + 1)), (4, .int z_5), (0, .ref (aM 0)), (1, .int y1), (2, .int y2), (3, .int y3)]) F 5 dX8_reign_82 rfl rfl (by decide) rfl ?_
        refine j_goto (pc := 85) F (tgt := 59) dX8_reign_85 rfl ?_
        refine j_sub [2, 3, 4, 5, 1, 0] rfl ?_
        exact ih σM y1 y2 y3 z_5 (y5 + 1) hf
set_option maxHeartbeats 4000000 in
set_option maxRecDepth 100000 in
theorem b_X8_reign_54 {l : Launch} {D : va_G} {cy : Nat → ClassId} {g : Gs} {p : Program} {e : Env} {s : State} {m : MethodId} {args : Array Value} {below : List Frame} {meth : Method} {c : Code} {A : Nat → Prop} {aM : Nat → Nat} {N : Nat} {out : Int32 × (St2 × (Nat → Int64))} (F : Fx p s m args meth c cX8_reign RX8 6 (some .int)) (hK : va_K D vwCl (tys cy) s) (hS : St g A s s.heap) (hA : ∀ q, s.heap.size ≤ q → A q) :
    ∀ (σM : St2 × (Nat → Int64)) (y1 : Int32) (y2 : Int32) (y3 : Int32) (t0 : Int32), f_X8_reign_54 N σM y1 y2 y3 t0 = some out → J p l e { frames := 1, cells := 0, slots := 0, locals := 25 } s m args below meth c 6 (hW D A s (wM aM cy σM)) 0 0 (MQ below (QW D A (some (.int out.1)) (wM aM cy out.2)) args s 0 0 A) 54 [(0, .ref (aM 0)), (1, .int y1), (2, .int y2), (3, .int y3)] [.int t0] := by
  intro σM y1 y2 y3 t0 hf
  unfold f_X8_reign_54 at hf
  refine j_istore (pc := 54) (lv' := [(4, .int t0), (0, .ref (aM 0)), (1, .int y1), (2, .int y2), (3, .int y3)]) F dX8_reign_54 (by decide) rfl ?_
  refine j_iconst (pc := 56) F (v := 0) dX8_reign_56 rfl ?_
  refine j_istore (pc := 57) (lv' := [(5, .int 0), (4, .int t0), (0, .ref (aM 0)), (1, .int y1), (2, .int y2), (3, .int y3)]) F dX8_reign_57 (by decide) rfl ?_
  refine j_sub [2, 3, 4, 5, 1, 0] rfl ?_
  exact b_X8_reign_59 F hK hS hA N σM y1 y2 y3 t0 0 hf
set_option maxHeartbeats 4000000 in
set_option maxRecDepth 100000 in
theorem b_X8_reign_53 {l : Launch} {D : va_G} {cy : Nat → ClassId} {g : Gs} {p : Program} {e : Env} {s : State} {m : MethodId} {args : Array Value} {below : List Frame} {meth : Method} {c : Code} {A : Nat → Prop} {aM : Nat → Nat} {N : Nat} {out : Int32 × (St2 × (Nat → Int64))} (F : Fx p s m args meth c cX8_reign RX8 6 (some .int)) (hK : va_K D vwCl (tys cy) s) (hS : St g A s s.heap) (hA : ∀ q, s.heap.size ≤ q → A q) :
    ∀ (σM : St2 × (Nat → Int64)) (y1 : Int32) (y2 : Int32) (y3 : Int32), f_X8_reign_53 N σM y1 y2 y3 = some out → J p l e { frames := 1, cells := 0, slots := 0, locals := 25 } s m args below meth c 6 (hW D A s (wM aM cy σM)) 0 0 (MQ below (QW D A (some (.int out.1)) (wM aM cy out.2)) args s 0 0 A) 53 [(0, .ref (aM 0)), (1, .int y1), (2, .int y2), (3, .int y3)] [] := by
  intro σM y1 y2 y3 hf
  unfold f_X8_reign_53 at hf
  refine j_iconst (pc := 53) F (v := 0) dX8_reign_53 rfl ?_
  exact b_X8_reign_54 F hK hS hA σM y1 y2 y3 0 hf
set_option maxHeartbeats 4000000 in
set_option maxRecDepth 100000 in
theorem c_X8_reign {l : Launch} {D : va_G} {cy : Nat → ClassId} {g : Gs} {aM : Nat → Nat} {σM : St2 × (Nat → Int64)} {N : Nat} {x1 : Int32} {x2 : Int32} {out : Int32 × (St2 × (Nat → Int64))} (hf : f_X8_reign N σM x1 x2 = some out) : CW l D cy g yX8_reign cX8_reign 6 (some .int) 1 25 (wM aM cy σM) [.ref (aM 0), .int x1, .int x2] (some (.int out.1)) (wM aM cy out.2) := by
  unfold f_X8_reign at hf
  refine met_W (lv := [(0, .ref (aM 0)), (1, .int x1), (2, .int x2)]) (by decide) (Nat.le_of_ble_eq_true rfl) rfl ?_
  intro p e s m args below meth c A F hK hS hA
  refine j_aload_n (pc := 0) F 0 dX8_reign_0 rfl rfl ?_
  refine jw_get (pc := 1) (v := .int (σM.1 0 14)) F hK ix_8 0 rfl rfl 14 (by decide) tm_829 rfl rfl dX8_reign_1 ?_
  refine j_istore_n (pc := 4) (lv' := [(3, .int (σM.1 0 14)), (0, .ref (aM 0)), (1, .int x1), (2, .int x2)]) F dX8_reign_4 rfl (by decide) rfl ?_
  refine j_aload_n (pc := 5) F 1 dX8_reign_5 rfl rfl ?_
  refine j_iconst (pc := 6) F (v := 0) dX8_reign_6 rfl ?_
  refine jw_put (pc := 7) (w' := wM aM cy (up2 σM.1 0 14 0, σM.2)) F hK ix_8 tyX8 tyX8_ok nmX8 0 rfl rfl 14 (by decide) tm_829 rfl rfl rfl rfl rfl (Nat.le_of_ble_eq_true rfl) (wM_put_14 _ _ _ _) dX8_reign_7 ?_
  refine j_iload_n (pc := 10) F 0 dX8_reign_10 rfl rfl ?_
  refine j_if_le (pc := 11) (tgt := 53) F dX8_reign_11 rfl (fun c_1 => ?_) (fun c_1 => ?_)
  · have hf := of_pos c_1 hf
    refine j_sub [1, 2, 3, 0] rfl ?_
    exact b_X8_reign_53 F hK hS hA (up2 σM.1 0 14 0, σM.2) x1 x2 (σM.1 0 14) hf
  · have hf := of_neg c_1 hf
    refine j_iload_n (pc := 14) F 0 dX8_reign_14 rfl rfl ?_
    refine j_bipush (pc := 15) F (v := 7) dX8_reign_15 rfl ?_
    refine j_icmp_ge (pc := 17) (tgt := 53) F dX8_reign_17 rfl (fun c_2 => ?_) (fun c_2 => ?_)
    · have hf := of_pos c_2 hf
      refine j_sub [1, 2, 3, 0] rfl ?_
      exact b_X8_reign_53 F hK hS hA (up2 σM.1 0 14 0, σM.2) x1 x2 (σM.1 0 14) hf
    · have hf := of_neg c_2 hf
      refine j_iload_n (pc := 20) F 2 dX8_reign_20 rfl rfl ?_
      refine j_iconst (pc := 21) F (v := 0) dX8_reign_21 rfl ?_
      refine j_iconst (pc := 22) F (v := 2) dX8_reign_22 rfl ?_
      refine j_callRS (pc := 23) (st := []) (st1 := [.int (bI (f_X8_isIn x1 0 2))]) F hK (hpW hS hp_nil) (c_X8_isIn (l := l) (D := D) (cy := cy) (g := g) (rfl : f_X8_isIn x1 0 2 = _)) tm_973 cf_X8_isIn (Nat.le_of_ble_eq_true rfl) (Nat.le_of_ble_eq_true rfl) ⟨Nat.zero_le _, Nat.zero_le _⟩ rfl rfl (Nat.le_of_ble_eq_true rfl) rfl dX8_reign_23 ?_
      refine j_if_eq (pc := 26) (tgt := 53) F dX8_reign_26 rfl (fun c_4 => ?_) (fun c_4 => ?_)
      · have hf := of_pos c_4 hf
        refine j_sub [1, 2, 3, 0] rfl ?_
        exact b_X8_reign_53 F hK hS hA (up2 σM.1 0 14 0, σM.2) x1 x2 (σM.1 0 14) hf
      · have hf := of_neg c_4 hf
        refine j_iload_n (pc := 29) F 3 dX8_reign_29 rfl rfl ?_
        refine j_iconst (pc := 30) F (v := 0) dX8_reign_30 rfl ?_
        refine j_sipush (pc := 31) F (v := 600) dX8_reign_31 rfl ?_
        refine j_callRS (pc := 34) (st := []) (st1 := [.int (bI (f_X8_isIn x2 0 600))]) F hK (hpW hS hp_nil) (c_X8_isIn (l := l) (D := D) (cy := cy) (g := g) (rfl : f_X8_isIn x2 0 600 = _)) tm_973 cf_X8_isIn (Nat.le_of_ble_eq_true rfl) (Nat.le_of_ble_eq_true rfl) ⟨Nat.zero_le _, Nat.zero_le _⟩ rfl rfl (Nat.le_of_ble_eq_true rfl) rfl dX8_reign_34 ?_
        refine j_if_eq (pc := 37) (tgt := 53) F dX8_reign_37 rfl (fun c_6 => ?_) (fun c_6 => ?_)
        · have hf := of_pos c_6 hf
          refine j_sub [1, 2, 3, 0] rfl ?_
          exact b_X8_reign_53 F hK hS hA (up2 σM.1 0 14 0, σM.2) x1 x2 (σM.1 0 14) hf
        · have hf := of_neg c_6 hf
          refine j_aload_n (pc := 40) F 1 dX8_reign_40 rfl rfl ?_
          refine jw_get (pc := 41) (v := .int (σM.1 0 22)) F hK ix_8 0 rfl rfl 22 (by decide) tm_837 rfl rfl dX8_reign_41 ?_
          refine j_bipush (pc := 44) F (v := 12) dX8_reign_44 rfl ?_
          refine j_icmp_ge (pc := 46) (tgt := 53) F dX8_reign_46 rfl (fun c_7 => ?_) (fun c_7 => ?_)
          · have hf := of_pos c_7 hf
            refine j_sub [1, 2, 3, 0] rfl ?_
            exact b_X8_reign_53 F hK hS hA (up2 σM.1 0 14 0, σM.2) x1 x2 (σM.1 0 14) hf
          · have hf := of_neg c_7 hf
            refine j_iconst (pc := 49) F (v := 1) dX8_reign_49 rfl ?_
            refine j_goto (pc := 50) F (tgt := 54) dX8_reign_50 rfl ?_
            refine j_sub [1, 2, 3, 0] rfl ?_
            exact b_X8_reign_54 F hK hS hA (up2 σM.1 0 14 0, σM.2) x1 x2 (σM.1 0 14) 1 hf
theorem cf_X8_reign : cfV yX8_reign cX8_reign 6 (some .int) 2 := ⟨tm_1081, tm_1082, tm_60, tm_1083, by decide, by decide, by decide +kernel⟩

def f_X8_whats (N : Nat) (σM : St2 × (Nat → Int64)) : Option (Int32 × (St2 × (Nat → Int64))) := (f_X8_takes N σM 34).bind fun o_1 => if (bI o_1.1) = 0 then (f_X8_takes N o_1.2 35).bind fun o_3 => if (bI o_3.1) = 0 then some (0, (f_X8_fail o_3.2 1 (o_3.2.1 0 15))) else (f_X8_takes N o_3.2 39).bind fun o_6 => if (bI o_6.1) = 0 then (f_X8_takes N o_6.2 40).bind fun o_8 => if (bI o_8.1) = 0 then some (48, o_8.2) else some (32, o_8.2) else some (16, o_6.2) else (f_X8_takes N o_1.2 36).bind fun o_10 => if (bI o_10.1) = 0 then (f_X8_takes N o_10.2 37).bind fun o_12 => if (bI o_12.1) = 0 then (f_X8_takes N o_12.2 38).bind fun o_14 => if (bI o_14.1) = 0 then some (14, o_14.2) else some (8, o_14.2) else some (4, o_12.2) else some (2, o_10.2)
set_option maxHeartbeats 4000000 in
set_option maxRecDepth 100000 in
theorem c_X8_whats {l : Launch} {D : va_G} {cy : Nat → ClassId} {g : Gs} {aM : Nat → Nat} {σM : St2 × (Nat → Int64)} {N : Nat} {out : Int32 × (St2 × (Nat → Int64))} (hf : f_X8_whats N σM = some out) : CW l D cy g yX8_whats cX8_whats 1 (some .int) 3 63 (wM aM cy σM) [.ref (aM 0)] (some (.int out.1)) (wM aM cy out.2) := by
  unfold f_X8_whats at hf
  refine met_W (lv := [(0, .ref (aM 0))]) (by decide) (Nat.le_of_ble_eq_true rfl) rfl ?_
  intro p e s m args below meth c A F hK hS hA
  refine j_aload_n (pc := 0) F 0 dX8_whats_0 rfl rfl ?_
  refine j_aload_n (pc := 1) F 0 dX8_whats_1 rfl rfl ?_
  refine jw_get (pc := 2) (v := .ref (aM 35)) F hK ix_8 0 rfl rfl 34 (by decide) tm_849 rfl rfl dX8_whats_2 ?_
  obtain ⟨o_1, ho_1, hf⟩ := of_bnd hf
  refine j_callWs (pc := 5) (st := []) (st1 := [.int (bI o_1.1)]) (w' := wM aM cy o_1.2) F hK hS hA (c_X8_takes (l := l) (D := D) (cy := cy) (g := g) (aM := aM) (hkw := by decide) ho_1) tm_1109 cf_X8_takes (Nat.le_of_ble_eq_true rfl) (Nat.le_of_ble_eq_true rfl) ⟨Nat.zero_le _, Nat.zero_le _⟩ 0 rfl rfl rfl rfl rfl (Nat.le_of_ble_eq_true rfl) rfl dX8_whats_5 ?_
  refine j_if_eq (pc := 8) (tgt := 60) F dX8_whats_8 rfl (fun c_2 => ?_) (fun c_2 => ?_)
  · have hf := of_pos c_2 hf
    refine j_aload_n (pc := 60) F 0 dX8_whats_60 rfl rfl ?_
    refine j_aload_n (pc := 61) F 0 dX8_whats_61 rfl rfl ?_
    refine jw_get (pc := 62) (v := .ref (aM 36)) F hK ix_8 0 rfl rfl 35 (by decide) tm_850 rfl rfl dX8_whats_62 ?_
    obtain ⟨o_3, ho_3, hf⟩ := of_bnd hf
    refine j_callWs (pc := 65) (st := []) (st1 := [.int (bI o_3.1)]) (w' := wM aM cy o_3.2) F hK hS hA (c_X8_takes (l := l) (D := D) (cy := cy) (g := g) (aM := aM) (hkw := by decide) ho_3) tm_1109 cf_X8_takes (Nat.le_of_ble_eq_true rfl) (Nat.le_of_ble_eq_true rfl) ⟨Nat.zero_le _, Nat.zero_le _⟩ 0 rfl rfl rfl rfl rfl (Nat.le_of_ble_eq_true rfl) rfl dX8_whats_65 ?_
    refine j_if_eq (pc := 68) (tgt := 106) F dX8_whats_68 rfl (fun c_4 => ?_) (fun c_4 => ?_)
    · have hf := of_pos c_4 hf
      refine j_aload_n (pc := 106) F 0 dX8_whats_106 rfl rfl ?_
      refine j_iconst (pc := 107) F (v := 1) dX8_whats_107 rfl ?_
      refine j_aload_n (pc := 108) F 0 dX8_whats_108 rfl rfl ?_
      refine jw_get (pc := 109) (v := .int (o_3.2.1 0 15)) F hK ix_8 0 rfl rfl 15 (by decide) tm_830 rfl rfl dX8_whats_109 ?_
      refine j_callWs (pc := 112) (st := []) (st1 := []) (w' := wM aM cy (f_X8_fail o_3.2 1 (o_3.2.1 0 15))) F hK hS hA (c_X8_fail (l := l) (D := D) (cy := cy) (g := g) (aM := aM) (rfl : f_X8_fail o_3.2 1 (o_3.2.1 0 15) = _)) tm_1121 cf_X8_fail (Nat.le_of_ble_eq_true rfl) (Nat.le_of_ble_eq_true rfl) ⟨Nat.zero_le _, Nat.zero_le _⟩ 0 rfl rfl rfl rfl rfl (Nat.le_of_ble_eq_true rfl) rfl dX8_whats_112 ?_
      refine j_iconst (pc := 115) F (v := 0) dX8_whats_115 rfl ?_
      have hf := (Option.some.inj hf)
      subst hf
      exact j_iretW (pc := 116) F dX8_whats_116 rfl rfl
    · have hf := of_neg c_4 hf
      refine j_aload_n (pc := 71) F 0 dX8_whats_71 rfl rfl ?_
      refine j_aload_n (pc := 72) F 0 dX8_whats_72 rfl rfl ?_
      refine jw_get (pc := 73) (v := .ref (aM 40)) F hK ix_8 0 rfl rfl 39 (by decide) tm_854 rfl rfl dX8_whats_73 ?_
      obtain ⟨o_6, ho_6, hf⟩ := of_bnd hf
      refine j_callWs (pc := 76) (st := []) (st1 := [.int (bI o_6.1)]) (w' := wM aM cy o_6.2) F hK hS hA (c_X8_takes (l := l) (D := D) (cy := cy) (g := g) (aM := aM) (hkw := by decide) ho_6) tm_1109 cf_X8_takes (Nat.le_of_ble_eq_true rfl) (Nat.le_of_ble_eq_true rfl) ⟨Nat.zero_le _, Nat.zero_le _⟩ 0 rfl rfl rfl rfl rfl (Nat.le_of_ble_eq_true rfl) rfl dX8_whats_76 ?_
      refine j_if_eq (pc := 79) (tgt := 87) F dX8_whats_79 rfl (fun c_7 => ?_) (fun c_7 => ?_)
      · have hf := of_pos c_7 hf
        refine j_aload_n (pc := 87) F 0 dX8_whats_87 rfl rfl ?_
        refine j_aload_n (pc := 88) F 0 dX8_whats_88 rfl rfl ?_
        refine jw_get (pc := 89) (v := .ref (aM 41)) F hK ix_8 0 rfl rfl 40 (by decide) tm_855 rfl rfl dX8_whats_89 ?_
        obtain ⟨o_8, ho_8, hf⟩ := of_bnd hf
        refine j_callWs (pc := 92) (st := []) (st1 := [.int (bI o_8.1)]) (w' := wM aM cy o_8.2) F hK hS hA (c_X8_takes (l := l) (D := D) (cy := cy) (g := g) (aM := aM) (hkw := by decide) ho_8) tm_1109 cf_X8_takes (Nat.le_of_ble_eq_true rfl) (Nat.le_of_ble_eq_true rfl) ⟨Nat.zero_le _, Nat.zero_le _⟩ 0 rfl rfl rfl rfl rfl (Nat.le_of_ble_eq_true rfl) rfl dX8_whats_92 ?_
        refine j_if_eq (pc := 95) (tgt := 103) F dX8_whats_95 rfl (fun c_9 => ?_) (fun c_9 => ?_)
        · have hf := of_pos c_9 hf
          refine j_bipush (pc := 103) F (v := 48) dX8_whats_103 rfl ?_
          have hf := (Option.some.inj hf)
          subst hf
          exact j_iretW (pc := 105) F dX8_whats_105 rfl rfl
        · have hf := of_neg c_9 hf
          refine j_bipush (pc := 98) F (v := 32) dX8_whats_98 rfl ?_
          refine j_goto (pc := 100) F (tgt := 105) dX8_whats_100 rfl ?_
          have hf := (Option.some.inj hf)
          subst hf
          exact j_iretW (pc := 105) F dX8_whats_105 rfl rfl
      · have hf := of_neg c_7 hf
        refine j_bipush (pc := 82) F (v := 16) dX8_whats_82 rfl ?_
        refine j_goto (pc := 84) F (tgt := 105) dX8_whats_84 rfl ?_
        have hf := (Option.some.inj hf)
        subst hf
        exact j_iretW (pc := 105) F dX8_whats_105 rfl rfl
  · have hf := of_neg c_2 hf
    refine j_aload_n (pc := 11) F 0 dX8_whats_11 rfl rfl ?_
    refine j_aload_n (pc := 12) F 0 dX8_whats_12 rfl rfl ?_
    refine jw_get (pc := 13) (v := .ref (aM 37)) F hK ix_8 0 rfl rfl 36 (by decide) tm_851 rfl rfl dX8_whats_13 ?_
    obtain ⟨o_10, ho_10, hf⟩ := of_bnd hf
    refine j_callWs (pc := 16) (st := []) (st1 := [.int (bI o_10.1)]) (w' := wM aM cy o_10.2) F hK hS hA (c_X8_takes (l := l) (D := D) (cy := cy) (g := g) (aM := aM) (hkw := by decide) ho_10) tm_1109 cf_X8_takes (Nat.le_of_ble_eq_true rfl) (Nat.le_of_ble_eq_true rfl) ⟨Nat.zero_le _, Nat.zero_le _⟩ 0 rfl rfl rfl rfl rfl (Nat.le_of_ble_eq_true rfl) rfl dX8_whats_16 ?_
    refine j_if_eq (pc := 19) (tgt := 26) F dX8_whats_19 rfl (fun c_11 => ?_) (fun c_11 => ?_)
    · have hf := of_pos c_11 hf
      refine j_aload_n (pc := 26) F 0 dX8_whats_26 rfl rfl ?_
      refine j_aload_n (pc := 27) F 0 dX8_whats_27 rfl rfl ?_
      refine jw_get (pc := 28) (v := .ref (aM 38)) F hK ix_8 0 rfl rfl 37 (by decide) tm_852 rfl rfl dX8_whats_28 ?_
      obtain ⟨o_12, ho_12, hf⟩ := of_bnd hf
      refine j_callWs (pc := 31) (st := []) (st1 := [.int (bI o_12.1)]) (w' := wM aM cy o_12.2) F hK hS hA (c_X8_takes (l := l) (D := D) (cy := cy) (g := g) (aM := aM) (hkw := by decide) ho_12) tm_1109 cf_X8_takes (Nat.le_of_ble_eq_true rfl) (Nat.le_of_ble_eq_true rfl) ⟨Nat.zero_le _, Nat.zero_le _⟩ 0 rfl rfl rfl rfl rfl (Nat.le_of_ble_eq_true rfl) rfl dX8_whats_31 ?_
      refine j_if_eq (pc := 34) (tgt := 41) F dX8_whats_34 rfl (fun c_13 => ?_) (fun c_13 => ?_)
      · have hf := of_pos c_13 hf
        refine j_aload_n (pc := 41) F 0 dX8_whats_41 rfl rfl ?_
        refine j_aload_n (pc := 42) F 0 dX8_whats_42 rfl rfl ?_
        refine jw_get (pc := 43) (v := .ref (aM 39)) F hK ix_8 0 rfl rfl 38 (by decide) tm_853 rfl rfl dX8_whats_43 ?_
        obtain ⟨o_14, ho_14, hf⟩ := of_bnd hf
        refine j_callWs (pc := 46) (st := []) (st1 := [.int (bI o_14.1)]) (w' := wM aM cy o_14.2) F hK hS hA (c_X8_takes (l := l) (D := D) (cy := cy) (g := g) (aM := aM) (hkw := by decide) ho_14) tm_1109 cf_X8_takes (Nat.le_of_ble_eq_true rfl) (Nat.le_of_ble_eq_true rfl) ⟨Nat.zero_le _, Nat.zero_le _⟩ 0 rfl rfl rfl rfl rfl (Nat.le_of_ble_eq_true rfl) rfl dX8_whats_46 ?_
        refine j_if_eq (pc := 49) (tgt := 57) F dX8_whats_49 rfl (fun c_15 => ?_) (fun c_15 => ?_)
        · have hf := of_pos c_15 hf
          refine j_bipush (pc := 57) F (v := 14) dX8_whats_57 rfl ?_
          have hf := (Option.some.inj hf)
          subst hf
          exact j_iretW (pc := 59) F dX8_whats_59 rfl rfl
        · have hf := of_neg c_15 hf
          refine j_bipush (pc := 52) F (v := 8) dX8_whats_52 rfl ?_
          refine j_goto (pc := 54) F (tgt := 59) dX8_whats_54 rfl ?_
          have hf := (Option.some.inj hf)
          subst hf
          exact j_iretW (pc := 59) F dX8_whats_59 rfl rfl
      · have hf := of_neg c_13 hf
        refine j_iconst (pc := 37) F (v := 4) dX8_whats_37 rfl ?_
        refine j_goto (pc := 38) F (tgt := 59) dX8_whats_38 rfl ?_
        have hf := (Option.some.inj hf)
        subst hf
        exact j_iretW (pc := 59) F dX8_whats_59 rfl rfl
    · have hf := of_neg c_11 hf
      refine j_iconst (pc := 22) F (v := 2) dX8_whats_22 rfl ?_
      refine j_goto (pc := 23) F (tgt := 59) dX8_whats_23 rfl ?_
      have hf := (Option.some.inj hf)
      subst hf
      exact j_iretW (pc := 59) F dX8_whats_59 rfl rfl
theorem cf_X8_whats : cfV yX8_whats cX8_whats 1 (some .int) 0 := ⟨tm_1107, tm_40, tm_60, tm_1108, by decide, by decide, by decide +kernel⟩

def f_X8_partOf (N : Nat) (σM : St2 × (Nat → Int64)) : Option (Int32 × (St2 × (Nat → Int64))) := (f_X8_takes N σM 41).bind fun o_1 => if (bI o_1.1) = 0 then (f_X8_takes N o_1.2 42).bind fun o_3 => if (bI o_3.1) = 0 then (f_X8_takes N o_3.2 43).bind fun o_5 => if (bI o_5.1) = 0 then (f_X8_takes N o_5.2 44).bind fun o_7 => if (bI o_7.1) = 0 then some ((-1), o_7.2) else some (3, o_7.2) else some (2, o_5.2) else some (1, o_3.2) else some (0, o_1.2)
set_option maxHeartbeats 4000000 in
set_option maxRecDepth 100000 in
theorem c_X8_partOf {l : Launch} {D : va_G} {cy : Nat → ClassId} {g : Gs} {aM : Nat → Nat} {σM : St2 × (Nat → Int64)} {N : Nat} {out : Int32 × (St2 × (Nat → Int64))} (hf : f_X8_partOf N σM = some out) : CW l D cy g yX8_partOf cX8_partOf 1 (some .int) 3 63 (wM aM cy σM) [.ref (aM 0)] (some (.int out.1)) (wM aM cy out.2) := by
  unfold f_X8_partOf at hf
  refine met_W (lv := [(0, .ref (aM 0))]) (by decide) (Nat.le_of_ble_eq_true rfl) rfl ?_
  intro p e s m args below meth c A F hK hS hA
  refine j_aload_n (pc := 0) F 0 dX8_partOf_0 rfl rfl ?_
  refine j_aload_n (pc := 1) F 0 dX8_partOf_1 rfl rfl ?_
  refine jw_get (pc := 2) (v := .ref (aM 42)) F hK ix_8 0 rfl rfl 41 (by decide) tm_856 rfl rfl dX8_partOf_2 ?_
  obtain ⟨o_1, ho_1, hf⟩ := of_bnd hf
  refine j_callWs (pc := 5) (st := []) (st1 := [.int (bI o_1.1)]) (w' := wM aM cy o_1.2) F hK hS hA (c_X8_takes (l := l) (D := D) (cy := cy) (g := g) (aM := aM) (hkw := by decide) ho_1) tm_1109 cf_X8_takes (Nat.le_of_ble_eq_true rfl) (Nat.le_of_ble_eq_true rfl) ⟨Nat.zero_le _, Nat.zero_le _⟩ 0 rfl rfl rfl rfl rfl (Nat.le_of_ble_eq_true rfl) rfl dX8_partOf_5 ?_
  refine j_if_eq (pc := 8) (tgt := 15) F dX8_partOf_8 rfl (fun c_2 => ?_) (fun c_2 => ?_)
  · have hf := of_pos c_2 hf
    refine j_aload_n (pc := 15) F 0 dX8_partOf_15 rfl rfl ?_
    refine j_aload_n (pc := 16) F 0 dX8_partOf_16 rfl rfl ?_
    refine jw_get (pc := 17) (v := .ref (aM 43)) F hK ix_8 0 rfl rfl 42 (by decide) tm_857 rfl rfl dX8_partOf_17 ?_
    obtain ⟨o_3, ho_3, hf⟩ := of_bnd hf
    refine j_callWs (pc := 20) (st := []) (st1 := [.int (bI o_3.1)]) (w' := wM aM cy o_3.2) F hK hS hA (c_X8_takes (l := l) (D := D) (cy := cy) (g := g) (aM := aM) (hkw := by decide) ho_3) tm_1109 cf_X8_takes (Nat.le_of_ble_eq_true rfl) (Nat.le_of_ble_eq_true rfl) ⟨Nat.zero_le _, Nat.zero_le _⟩ 0 rfl rfl rfl rfl rfl (Nat.le_of_ble_eq_true rfl) rfl dX8_partOf_20 ?_
    refine j_if_eq (pc := 23) (tgt := 30) F dX8_partOf_23 rfl (fun c_4 => ?_) (fun c_4 => ?_)
    · have hf := of_pos c_4 hf
      refine j_aload_n (pc := 30) F 0 dX8_partOf_30 rfl rfl ?_
      refine j_aload_n (pc := 31) F 0 dX8_partOf_31 rfl rfl ?_
      refine jw_get (pc := 32) (v := .ref (aM 44)) F hK ix_8 0 rfl rfl 43 (by decide) tm_858 rfl rfl dX8_partOf_32 ?_
      obtain ⟨o_5, ho_5, hf⟩ := of_bnd hf
      refine j_callWs (pc := 35) (st := []) (st1 := [.int (bI o_5.1)]) (w' := wM aM cy o_5.2) F hK hS hA (c_X8_takes (l := l) (D := D) (cy := cy) (g := g) (aM := aM) (hkw := by decide) ho_5) tm_1109 cf_X8_takes (Nat.le_of_ble_eq_true rfl) (Nat.le_of_ble_eq_true rfl) ⟨Nat.zero_le _, Nat.zero_le _⟩ 0 rfl rfl rfl rfl rfl (Nat.le_of_ble_eq_true rfl) rfl dX8_partOf_35 ?_
      refine j_if_eq (pc := 38) (tgt := 45) F dX8_partOf_38 rfl (fun c_6 => ?_) (fun c_6 => ?_)
      · have hf := of_pos c_6 hf
        refine j_aload_n (pc := 45) F 0 dX8_partOf_45 rfl rfl ?_
        refine j_aload_n (pc := 46) F 0 dX8_partOf_46 rfl rfl ?_
        refine jw_get (pc := 47) (v := .ref (aM 45)) F hK ix_8 0 rfl rfl 44 (by decide) tm_859 rfl rfl dX8_partOf_47 ?_
        obtain ⟨o_7, ho_7, hf⟩ := of_bnd hf
        refine j_callWs (pc := 50) (st := []) (st1 := [.int (bI o_7.1)]) (w' := wM aM cy o_7.2) F hK hS hA (c_X8_takes (l := l) (D := D) (cy := cy) (g := g) (aM := aM) (hkw := by decide) ho_7) tm_1109 cf_X8_takes (Nat.le_of_ble_eq_true rfl) (Nat.le_of_ble_eq_true rfl) ⟨Nat.zero_le _, Nat.zero_le _⟩ 0 rfl rfl rfl rfl rfl (Nat.le_of_ble_eq_true rfl) rfl dX8_partOf_50 ?_
        refine j_if_eq (pc := 53) (tgt := 60) F dX8_partOf_53 rfl (fun c_8 => ?_) (fun c_8 => ?_)
        · have hf := of_pos c_8 hf
          refine j_iconst (pc := 60) F (v := (-1)) dX8_partOf_60 rfl ?_
          have hf := (Option.some.inj hf)
          subst hf
          exact j_iretW (pc := 61) F dX8_partOf_61 rfl rfl
        · have hf := of_neg c_8 hf
          refine j_iconst (pc := 56) F (v := 3) dX8_partOf_56 rfl ?_
          refine j_goto (pc := 57) F (tgt := 61) dX8_partOf_57 rfl ?_
          have hf := (Option.some.inj hf)
          subst hf
          exact j_iretW (pc := 61) F dX8_partOf_61 rfl rfl
      · have hf := of_neg c_6 hf
        refine j_iconst (pc := 41) F (v := 2) dX8_partOf_41 rfl ?_
        refine j_goto (pc := 42) F (tgt := 61) dX8_partOf_42 rfl ?_
        have hf := (Option.some.inj hf)
        subst hf
        exact j_iretW (pc := 61) F dX8_partOf_61 rfl rfl
    · have hf := of_neg c_4 hf
      refine j_iconst (pc := 26) F (v := 1) dX8_partOf_26 rfl ?_
      refine j_goto (pc := 27) F (tgt := 61) dX8_partOf_27 rfl ?_
      have hf := (Option.some.inj hf)
      subst hf
      exact j_iretW (pc := 61) F dX8_partOf_61 rfl rfl
  · have hf := of_neg c_2 hf
    refine j_iconst (pc := 11) F (v := 0) dX8_partOf_11 rfl ?_
    refine j_goto (pc := 12) F (tgt := 61) dX8_partOf_12 rfl ?_
    have hf := (Option.some.inj hf)
    subst hf
    exact j_iretW (pc := 61) F dX8_partOf_61 rfl rfl
theorem cf_X8_partOf : cfV yX8_partOf cX8_partOf 1 (some .int) 0 := ⟨tm_1127, tm_45, tm_60, tm_1128, by decide, by decide, by decide +kernel⟩

def f_X8_name_75 (N : Nat) (σM : St2 × (Nat → Int64)) (y2 : Int32) (t0 : Int32) : Option ((St2 × (Nat → Int64))) := if t0 = (-1) then some (up2 (up2 ((f_X8_fail (up2 σM.1 0 33 t0, σM.2) 3 (σM.1 0 15)).1) 0 15 y2) 0 17 y2, (f_X8_fail (up2 σM.1 0 33 t0, σM.2) 3 (σM.1 0 15)).2) else some (up2 (up2 (up2 σM.1 0 33 t0) 0 15 y2) 0 17 y2, σM.2)
def f_X8_name (N : Nat) (σM : St2 × (Nat → Int64)) : Option ((St2 × (Nat → Int64))) := (f_X8_next_ N σM).bind fun o_1 => lt (o_1.2.1 0 15 : Int32) fun z_2 => if (bI (f_X8_isLetter o_1.1)) = 0 then some (f_X8_fail (up2 o_1.2.1 0 32 z_2, o_1.2.2) 1 (o_1.2.1 0 15)) else if (o_1.2.1 0 15) = (o_1.2.1 0 17) then some (f_X8_fail (up2 o_1.2.1 0 32 z_2, o_1.2.2) 1 (o_1.2.1 0 15)) else (f_X8_wordEnd N (up2 o_1.2.1 0 32 z_2, o_1.2.2)).bind fun o_7 => if (o_7 - (o_1.2.1 0 15)) ≤ 6 then (f_X8_packed N (up2 o_1.2.1 0 32 z_2, o_1.2.2) (o_1.2.1 0 15) o_7).bind fun o_9 => (f_X8_reignOf N (up2 o_1.2.1 0 32 z_2, o_1.2.2) o_9).bind fun o_10 => f_X8_name_75 N (up2 o_1.2.1 0 32 z_2, o_1.2.2) o_7 o_10 else f_X8_name_75 N (up2 o_1.2.1 0 32 z_2, o_1.2.2) o_7 (-1)
set_option maxHeartbeats 4000000 in
set_option maxRecDepth 100000 in
theorem b_X8_name_75 {l : Launch} {D : va_G} {cy : Nat → ClassId} {g : Gs} {p : Program} {e : Env} {s : State} {m : MethodId} {args : Array Value} {below : List Frame} {meth : Method} {c : Code} {A : Nat → Prop} {aM : Nat → Nat} {N : Nat} {out : (St2 × (Nat → Int64))} (F : Fx p s m args meth c cX8_name RX8 3 none) (hK : va_K D vwCl (tys cy) s) (hS : St g A s s.heap) (hA : ∀ q, s.heap.size ≤ q → A q) :
    ∀ (σM : St2 × (Nat → Int64)) (y2 : Int32) (t0 : Int32), f_X8_name_75 N σM y2 t0 = some out → J p l e { frames := 2, cells := 0, slots := 0, locals := 41 } s m args below meth c 3 (hW D A s (wM aM cy σM)) 0 0 (MQ below (QW D A none (wM aM cy out)) args s 0 0 A) 75 [(0, .ref (aM 0)), (2, .int y2)] [.int t0, .ref (aM 0)] := by
  intro σM y2 t0 hf
  unfold f_X8_name_75 at hf
  refine jw_put (pc := 75) (w' := wM aM cy (up2 σM.1 0 33 t0, σM.2)) F hK ix_8 tyX8 tyX8_ok nmX8 0 rfl rfl 33 (by decide) tm_848 rfl rfl rfl rfl rfl (Nat.le_of_ble_eq_true rfl) (wM_put_33 _ _ _ _) dX8_name_75 ?_
  refine j_aload_n (pc := 78) F 0 dX8_name_78 rfl rfl ?_
  refine jw_get (pc := 79) (v := .int t0) F hK ix_8 0 rfl rfl 33 (by decide) tm_848 rfl rfl dX8_name_79 ?_
  refine j_iconst (pc := 82) F (v := (-1)) dX8_name_82 rfl ?_
  refine j_icmp_ne (pc := 83) (tgt := 95) F dX8_name_83 rfl (fun c_1 => ?_) (fun c_1 => ?_)
  · have hf := of_neg c_1 hf
    refine j_aload_n (pc := 95) F 0 dX8_name_95 rfl rfl ?_
    refine j_iload_n (pc := 96) F 1 dX8_name_96 rfl rfl ?_
    refine jw_put (pc := 97) (w' := wM aM cy (up2 (up2 σM.1 0 33 t0) 0 15 y2, σM.2)) F hK ix_8 tyX8 tyX8_ok nmX8 0 rfl rfl 15 (by decide) tm_830 rfl rfl rfl rfl rfl (Nat.le_of_ble_eq_true rfl) (wM_put_15 _ _ _ _) dX8_name_97 ?_
    refine j_aload_n (pc := 100) F 0 dX8_name_100 rfl rfl ?_
    refine j_iload_n (pc := 101) F 1 dX8_name_101 rfl rfl ?_
    refine jw_put (pc := 102) (w' := wM aM cy (up2 (up2 (up2 σM.1 0 33 t0) 0 15 y2) 0 17 y2, σM.2)) F hK ix_8 tyX8 tyX8_ok nmX8 0 rfl rfl 17 (by decide) tm_832 rfl rfl rfl rfl rfl (Nat.le_of_ble_eq_true rfl) (wM_put_17 _ _ _ _) dX8_name_102 ?_
    have hf := (Option.some.inj hf)
    subst hf
    exact j_vretW (pc := 105) F dX8_name_105 rfl
  · have hf := of_pos c_1 hf
    refine j_aload_n (pc := 86) F 0 dX8_name_86 rfl rfl ?_
    refine j_iconst (pc := 87) F (v := 3) dX8_name_87 rfl ?_
    refine j_aload_n (pc := 88) F 0 dX8_name_88 rfl rfl ?_
    refine jw_get (pc := 89) (v := .int (σM.1 0 15)) F hK ix_8 0 rfl rfl 15 (by decide) tm_830 rfl rfl dX8_name_89 ?_
    refine j_callWs (pc := 92) (st := []) (st1 := []) (w' := wM aM cy (f_X8_fail (up2 σM.1 0 33 t0, σM.2) 3 (σM.1 0 15))) F hK hS hA (c_X8_fail (l := l) (D := D) (cy := cy) (g := g) (aM := aM) (rfl : f_X8_fail (up2 σM.1 0 33 t0, σM.2) 3 (σM.1 0 15) = _)) tm_1121 cf_X8_fail (Nat.le_of_ble_eq_true rfl) (Nat.le_of_ble_eq_true rfl) ⟨Nat.zero_le _, Nat.zero_le _⟩ 0 rfl rfl rfl rfl rfl (Nat.le_of_ble_eq_true rfl) rfl dX8_name_92 ?_
    refine j_aload_n (pc := 95) F 0 dX8_name_95 rfl rfl ?_
    refine j_iload_n (pc := 96) F 1 dX8_name_96 rfl rfl ?_
    refine jw_put (pc := 97) (w' := wM aM cy (up2 ((f_X8_fail (up2 σM.1 0 33 t0, σM.2) 3 (σM.1 0 15)).1) 0 15 y2, (f_X8_fail (up2 σM.1 0 33 t0, σM.2) 3 (σM.1 0 15)).2)) F hK ix_8 tyX8 tyX8_ok nmX8 0 rfl rfl 15 (by decide) tm_830 rfl rfl rfl rfl rfl (Nat.le_of_ble_eq_true rfl) (wM_put_15 _ _ _ _) dX8_name_97 ?_
    refine j_aload_n (pc := 100) F 0 dX8_name_100 rfl rfl ?_
    refine j_iload_n (pc := 101) F 1 dX8_name_101 rfl rfl ?_
    refine jw_put (pc := 102) (w' := wM aM cy (up2 (up2 ((f_X8_fail (up2 σM.1 0 33 t0, σM.2) 3 (σM.1 0 15)).1) 0 15 y2) 0 17 y2, (f_X8_fail (up2 σM.1 0 33 t0, σM.2) 3 (σM.1 0 15)).2)) F hK ix_8 tyX8 tyX8_ok nmX8 0 rfl rfl 17 (by decide) tm_832 rfl rfl rfl rfl rfl (Nat.le_of_ble_eq_true rfl) (wM_put_17 _ _ _ _) dX8_name_102 ?_
    have hf := (Option.some.inj hf)
    subst hf
    exact j_vretW (pc := 105) F dX8_name_105 rfl
set_option maxHeartbeats 4000000 in
set_option maxRecDepth 100000 in
theorem c_X8_name {l : Launch} {D : va_G} {cy : Nat → ClassId} {g : Gs} {aM : Nat → Nat} {σM : St2 × (Nat → Int64)} {N : Nat} {out : (St2 × (Nat → Int64))} (hf : f_X8_name N σM = some out) : CW l D cy g yX8_name cX8_name 3 none 2 41 (wM aM cy σM) [.ref (aM 0)] none (wM aM cy out) := by
  unfold f_X8_name at hf
  refine met_W (lv := [(0, .ref (aM 0))]) (by decide) (Nat.le_of_ble_eq_true rfl) rfl ?_
  intro p e s m args below meth c A F hK hS hA
  refine j_aload_n (pc := 0) F 0 dX8_name_0 rfl rfl ?_
  obtain ⟨o_1, ho_1, hf⟩ := of_bnd hf
  refine j_callWs (pc := 1) (st := []) (st1 := [.int o_1.1]) (w' := wM aM cy o_1.2) F hK hS hA (c_X8_next_ (l := l) (D := D) (cy := cy) (g := g) (aM := aM) ho_1) tm_1113 cf_X8_next_ (Nat.le_of_ble_eq_true rfl) (Nat.le_of_ble_eq_true rfl) ⟨Nat.zero_le _, Nat.zero_le _⟩ 0 rfl rfl rfl rfl rfl (Nat.le_of_ble_eq_true rfl) rfl dX8_name_1 ?_
  refine j_istore_n (pc := 4) (lv' := [(1, .int o_1.1), (0, .ref (aM 0))]) F dX8_name_4 rfl (by decide) rfl ?_
  refine j_aload_n (pc := 5) F 1 dX8_name_5 rfl rfl ?_
  refine j_aload_n (pc := 6) F 1 dX8_name_6 rfl rfl ?_
  refine jw_get (pc := 7) (v := .int (o_1.2.1 0 15)) F hK ix_8 0 rfl rfl 15 (by decide) tm_830 rfl rfl dX8_name_7 ?_
  obtain ⟨z_2, ez_2, hf⟩ := of_lt hf
  refine j_topi ez_2 ?_
  refine jw_put (pc := 10) (w' := wM aM cy (up2 o_1.2.1 0 32 z_2, o_1.2.2)) F hK ix_8 tyX8 tyX8_ok nmX8 0 rfl rfl 32 (by decide) tm_847 rfl rfl rfl rfl rfl (Nat.le_of_ble_eq_true rfl) (wM_put_32 _ _ _ _) dX8_name_10 ?_
  refine j_iload_n (pc := 13) F 0 dX8_name_13 rfl rfl ?_
  refine j_callRS (pc := 14) (st := []) (st1 := [.int (bI (f_X8_isLetter o_1.1))]) F hK (hpW hS hp_nil) (c_X8_isLetter (l := l) (D := D) (cy := cy) (g := g) (rfl : f_X8_isLetter o_1.1 = _)) tm_1084 cf_X8_isLetter (Nat.le_of_ble_eq_true rfl) (Nat.le_of_ble_eq_true rfl) ⟨Nat.zero_le _, Nat.zero_le _⟩ rfl rfl (Nat.le_of_ble_eq_true rfl) rfl dX8_name_14 ?_
  refine j_if_eq (pc := 17) (tgt := 31) F dX8_name_17 rfl (fun c_4 => ?_) (fun c_4 => ?_)
  · have hf := of_pos c_4 hf
    refine j_aload_n (pc := 31) F 1 dX8_name_31 rfl rfl ?_
    refine j_iconst (pc := 32) F (v := 1) dX8_name_32 rfl ?_
    refine j_aload_n (pc := 33) F 1 dX8_name_33 rfl rfl ?_
    refine jw_get (pc := 34) (v := .int (o_1.2.1 0 15)) F hK ix_8 0 rfl rfl 15 (by decide) tm_830 rfl rfl dX8_name_34 ?_
    refine j_callWs (pc := 37) (st := []) (st1 := []) (w' := wM aM cy (f_X8_fail (up2 o_1.2.1 0 32 z_2, o_1.2.2) 1 (o_1.2.1 0 15))) F hK hS hA (c_X8_fail (l := l) (D := D) (cy := cy) (g := g) (aM := aM) (rfl : f_X8_fail (up2 o_1.2.1 0 32 z_2, o_1.2.2) 1 (o_1.2.1 0 15) = _)) tm_1121 cf_X8_fail (Nat.le_of_ble_eq_true rfl) (Nat.le_of_ble_eq_true rfl) ⟨Nat.zero_le _, Nat.zero_le _⟩ 0 rfl rfl rfl rfl rfl (Nat.le_of_ble_eq_true rfl) rfl dX8_name_37 ?_
    have hf := (Option.some.inj hf)
    subst hf
    exact j_vretW (pc := 40) F dX8_name_40 rfl
  · have hf := of_neg c_4 hf
    refine j_aload_n (pc := 20) F 1 dX8_name_20 rfl rfl ?_
    refine jw_get (pc := 21) (v := .int (o_1.2.1 0 15)) F hK ix_8 0 rfl rfl 15 (by decide) tm_830 rfl rfl dX8_name_21 ?_
    refine j_aload_n (pc := 24) F 1 dX8_name_24 rfl rfl ?_
    refine jw_get (pc := 25) (v := .int (o_1.2.1 0 17)) F hK ix_8 0 rfl rfl 17 (by decide) tm_832 rfl rfl dX8_name_25 ?_
    refine j_icmp_ne (pc := 28) (tgt := 41) F dX8_name_28 rfl (fun c_6 => ?_) (fun c_6 => ?_)
    · have hf := of_neg c_6 hf
      refine j_aload_n (pc := 41) F 1 dX8_name_41 rfl rfl ?_
      obtain ⟨o_7, ho_7, hf⟩ := of_bnd hf
      refine j_callRV (pc := 42) (st := []) (st1 := [.int o_7]) F hK (hpW hS hp_id) (c_X8_wordEnd (l := l) (D := D) (cy := cy) (g := g) (aM := aM) ho_7) tm_1117 cf_X8_wordEnd (Nat.le_of_ble_eq_true rfl) (Nat.le_of_ble_eq_true rfl) ⟨Nat.zero_le _, Nat.zero_le _⟩ 0 rfl rfl rfl rfl rfl (Nat.le_of_ble_eq_true rfl) rfl dX8_name_42 ?_
      refine j_istore_n (pc := 45) (lv' := [(2, .int o_7), (1, .int o_1.1), (0, .ref (aM 0))]) F dX8_name_45 rfl (by decide) rfl ?_
      refine j_aload_n (pc := 46) F 2 dX8_name_46 rfl rfl ?_
      refine j_iload_n (pc := 47) F 0 dX8_name_47 rfl rfl ?_
      refine j_aload_n (pc := 48) F 2 dX8_name_48 rfl rfl ?_
      refine jw_get (pc := 49) (v := .int (o_1.2.1 0 15)) F hK ix_8 0 rfl rfl 15 (by decide) tm_830 rfl rfl dX8_name_49 ?_
      refine j_isub (pc := 52) F dX8_name_52 ?_
      refine j_bipush (pc := 53) F (v := 6) dX8_name_53 rfl ?_
      refine j_icmp_le (pc := 55) (tgt := 62) F dX8_name_55 rfl (fun c_8 => ?_) (fun c_8 => ?_)
      · have hf := of_pos c_8 hf
        refine j_aload_n (pc := 62) F 2 dX8_name_62 rfl rfl ?_
        refine j_aload_n (pc := 63) F 2 dX8_name_63 rfl rfl ?_
        refine j_aload_n (pc := 64) F 2 dX8_name_64 rfl rfl ?_
        refine jw_get (pc := 65) (v := .int (o_1.2.1 0 15)) F hK ix_8 0 rfl rfl 15 (by decide) tm_830 rfl rfl dX8_name_65 ?_
        refine j_iload_n (pc := 68) F 0 dX8_name_68 rfl rfl ?_
        obtain ⟨o_9, ho_9, hf⟩ := of_bnd hf
        refine j_callRV (pc := 69) (st := [.ref (aM 0), .ref (aM 0)]) (st1 := [.long o_9, .ref (aM 0), .ref (aM 0)]) F hK (hpW hS hp_id) (c_X8_packed (l := l) (D := D) (cy := cy) (g := g) (aM := aM) ho_9) tm_1087 cf_X8_packed (Nat.le_of_ble_eq_true rfl) (Nat.le_of_ble_eq_true rfl) ⟨Nat.zero_le _, Nat.zero_le _⟩ 0 rfl rfl rfl rfl rfl (Nat.le_of_ble_eq_true rfl) rfl dX8_name_69 ?_
        obtain ⟨o_10, ho_10, hf⟩ := of_bnd hf
        refine j_callRV (pc := 72) (st := [.ref (aM 0)]) (st1 := [.int o_10, .ref (aM 0)]) F hK (hpW hS hp_id) (c_X8_reignOf (l := l) (D := D) (cy := cy) (g := g) (aM := aM) ho_10) tm_1093 cf_X8_reignOf (Nat.le_of_ble_eq_true rfl) (Nat.le_of_ble_eq_true rfl) ⟨Nat.zero_le _, Nat.zero_le _⟩ 0 rfl rfl rfl rfl rfl (Nat.le_of_ble_eq_true rfl) rfl dX8_name_72 ?_
        refine j_sub [2, 0] rfl ?_
        exact b_X8_name_75 F hK hS hA (up2 o_1.2.1 0 32 z_2, o_1.2.2) o_7 o_10 hf
      · have hf := of_neg c_8 hf
        refine j_iconst (pc := 58) F (v := (-1)) dX8_name_58 rfl ?_
        refine j_goto (pc := 59) F (tgt := 75) dX8_name_59 rfl ?_
        refine j_sub [2, 0] rfl ?_
        exact b_X8_name_75 F hK hS hA (up2 o_1.2.1 0 32 z_2, o_1.2.2) o_7 (-1) hf
    · have hf := of_pos c_6 hf
      refine j_aload_n (pc := 31) F 1 dX8_name_31 rfl rfl ?_
      refine j_iconst (pc := 32) F (v := 1) dX8_name_32 rfl ?_
      refine j_aload_n (pc := 33) F 1 dX8_name_33 rfl rfl ?_
      refine jw_get (pc := 34) (v := .int (o_1.2.1 0 15)) F hK ix_8 0 rfl rfl 15 (by decide) tm_830 rfl rfl dX8_name_34 ?_
      refine j_callWs (pc := 37) (st := []) (st1 := []) (w' := wM aM cy (f_X8_fail (up2 o_1.2.1 0 32 z_2, o_1.2.2) 1 (o_1.2.1 0 15))) F hK hS hA (c_X8_fail (l := l) (D := D) (cy := cy) (g := g) (aM := aM) (rfl : f_X8_fail (up2 o_1.2.1 0 32 z_2, o_1.2.2) 1 (o_1.2.1 0 15) = _)) tm_1121 cf_X8_fail (Nat.le_of_ble_eq_true rfl) (Nat.le_of_ble_eq_true rfl) ⟨Nat.zero_le _, Nat.zero_le _⟩ 0 rfl rfl rfl rfl rfl (Nat.le_of_ble_eq_true rfl) rfl dX8_name_37 ?_
      have hf := (Option.some.inj hf)
      subst hf
      exact j_vretW (pc := 40) F dX8_name_40 rfl
theorem cf_X8_name : cfV yX8_name cX8_name 3 none 0 := ⟨tm_1138, tm_47, tm_60, tm_1139, by decide, by decide, by decide +kernel⟩

def f_X8_reads_202 (N : Nat) (K41 : (St2 × (Nat → Int64)) → Int32 → Int32 → Option ((St2 × (Nat → Int64)))) (σM : St2 × (Nat → Int64)) (y1 : Int32) (y2 : Int32) : Option ((St2 × (Nat → Int64))) := K41 σM y1 y2
def f_X8_reads_171 (N : Nat) (K41 : (St2 × (Nat → Int64)) → Int32 → Int32 → Option ((St2 × (Nat → Int64)))) (σM : St2 × (Nat → Int64)) (y1 : Int32) (y2 : Int32) (y4 : Int32) (t0 : Int32) (t1 : Int32) (t3 : Int32) : Option ((St2 × (Nat → Int64))) := (f_X8_number N σM t1 t0).bind fun o_1 => if t3 < 0 ∨ 36 ≤ Int32.toNatClampNeg t3 then none else if (o_1.2.1 0 18) = 0 then if y4 = 0 then (f_X8_takes N (up2 o_1.2.1 29 (Int32.toNatClampNeg t3) o_1.1, o_1.2.2) 45).bind fun o_5 => if (bI o_5.1) = 0 then f_X8_reads_202 N K41 o_5.2 y1 y2 else (f_X8_name N o_5.2).bind fun o_7 => f_X8_reads_202 N K41 o_7 y1 y2 else f_X8_reads_202 N K41 (up2 o_1.2.1 29 (Int32.toNatClampNeg t3) o_1.1, o_1.2.2) y1 y2 else f_X8_reads_202 N K41 (up2 o_1.2.1 29 (Int32.toNatClampNeg t3) o_1.1, o_1.2.2) y1 y2
def f_X8_reads_136 (N : Nat) (K41 : (St2 × (Nat → Int64)) → Int32 → Int32 → Option ((St2 × (Nat → Int64)))) (σM : St2 × (Nat → Int64)) (y1 : Int32) (y2 : Int32) (y4 : Int32) (t0 : Int32) (t2 : Int32) : Option ((St2 × (Nat → Int64))) := if y4 = 0 then f_X8_reads_171 N K41 σM y1 y2 y4 999 t0 t2 else if y4 = 1 then f_X8_reads_171 N K41 σM y1 y2 y4 13 t0 t2 else if y4 = 2 then f_X8_reads_171 N K41 σM y1 y2 y4 31 t0 t2 else f_X8_reads_171 N K41 σM y1 y2 y4 23 t0 t2
def f_X8_reads_131 (N : Nat) (K41 : (St2 × (Nat → Int64)) → Int32 → Int32 → Option ((St2 × (Nat → Int64)))) (σM : St2 × (Nat → Int64)) (y1 : Int32) (y2 : Int32) (y4 : Int32) (t1 : Int32) : Option ((St2 × (Nat → Int64))) := f_X8_reads_136 N K41 σM y1 y2 y4 1 t1
def f_X8_reads_100 (N : Nat) (K41 : (St2 × (Nat → Int64)) → Int32 → Int32 → Option ((St2 × (Nat → Int64)))) (σM : St2 × (Nat → Int64)) (y1 : Int32) (y2 : Int32) (y4 : Int32) : Option ((St2 × (Nat → Int64))) := if (σM.1 0 18) = 0 then if y4 = 1 then f_X8_reads_131 N K41 σM y1 y2 y4 ((4 * y1) + y4) else if y4 = 2 then f_X8_reads_131 N K41 σM y1 y2 y4 ((4 * y1) + y4) else f_X8_reads_136 N K41 σM y1 y2 y4 0 ((4 * y1) + y4) else some σM
def f_X8_reads_376 (N : Nat) (σM : St2 × (Nat → Int64)) (y1 : Int32) : Option ((St2 × (Nat → Int64))) := if (σM.1 0 18) = 0 then if (σM.1 0 33) = (-1) then some σM else if (σM.1 0 33) < 0 ∨ 12 ≤ Int32.toNatClampNeg (σM.1 0 33) then none else if y1 < 0 ∨ 9 ≤ Int32.toNatClampNeg y1 then none else if (σM.1 25 (Int32.toNatClampNeg (σM.1 0 33))) = (σM.1 31 (Int32.toNatClampNeg y1)) then some σM else some (f_X8_fail σM 3 (σM.1 0 32)) else some σM
def f_X8_reads_342 (N : Nat) (σM : St2 × (Nat → Int64)) (y1 : Int32) : Option ((St2 × (Nat → Int64))) := lt ((σM.1 0 15) + 1 : Int32) fun z_1 => if (σM.1 0 18) = 0 then (f_X8_next_ N (up2 σM.1 0 15 z_1, σM.2)).bind fun o_3 => if o_3.1 = (-1) then f_X8_reads_376 N o_3.2 y1 else f_X8_reads_376 N (f_X8_fail o_3.2 1 (o_3.2.1 0 15)) y1 else f_X8_reads_376 N (up2 σM.1 0 15 z_1, σM.2) y1
def f_X8_reads_317 (N : Nat) (σM : St2 × (Nat → Int64)) (y1 : Int32) : Option ((St2 × (Nat → Int64))) := if (σM.1 0 18) = 0 then (f_X8_next_ N σM).bind fun o_2 => if o_2.1 = 59 then f_X8_reads_342 N o_2.2 y1 else f_X8_reads_342 N (f_X8_fail o_2.2 1 (o_2.2.1 0 15)) y1 else f_X8_reads_342 N σM y1
def f_X8_reads_291 (N : Nat) (σM : St2 × (Nat → Int64)) (y1 : Int32) : Option ((St2 × (Nat → Int64))) := if (σM.1 0 18) = 0 then if y1 < 0 ∨ 9 ≤ Int32.toNatClampNeg y1 then none else if (σM.1 31 (Int32.toNatClampNeg y1)) = (-1) then f_X8_reads_317 N (f_X8_fail σM 1 (σM.1 0 15)) y1 else f_X8_reads_317 N σM y1 else f_X8_reads_317 N σM y1
def f_X8_reads_290 (N : Nat) (σM : St2 × (Nat → Int64)) (y1 : Int32) (t0 : Int32) (t1 : Int32) : Option ((St2 × (Nat → Int64))) := if t1 < 0 ∨ 9 ≤ Int32.toNatClampNeg t1 then none else f_X8_reads_291 N (up2 σM.1 31 (Int32.toNatClampNeg t1) t0, σM.2) y1
def f_X8_reads_232 (N : Nat) (σM : St2 × (Nat → Int64)) (y1 : Int32) : Option ((St2 × (Nat → Int64))) := if (σM.1 0 18) = 0 then (f_X8_takes N σM 47).bind fun o_2 => if (bI o_2.1) = 0 then (f_X8_takes N o_2.2 48).bind fun o_4 => if (bI o_4.1) = 0 then (f_X8_takes N o_4.2 49).bind fun o_6 => if (bI o_6.1) = 0 then f_X8_reads_290 N o_6.2 y1 (-1) y1 else f_X8_reads_290 N o_6.2 y1 2 y1 else f_X8_reads_290 N o_4.2 y1 1 y1 else f_X8_reads_290 N o_2.2 y1 0 y1 else f_X8_reads_291 N σM y1
def f_X8_reads_205 (N : Nat) (σM : St2 × (Nat → Int64)) (y1 : Int32) : Option ((St2 × (Nat → Int64))) := if (σM.1 0 18) = 0 then (f_X8_takes N σM 46).bind fun o_2 => if (bI o_2.1) = 0 then f_X8_reads_232 N (f_X8_fail o_2.2 1 (o_2.2.1 0 15)) y1 else f_X8_reads_232 N o_2.2 y1 else f_X8_reads_232 N σM y1
def f_X8_reads_41 (N : Nat) : Nat → (St2 × (Nat → Int64)) → Int32 → Int32 → Option ((St2 × (Nat → Int64)))
  | 0, _, _, _ => none
  | n + 1, σM, y1, y2 => if y2 = 0 then f_X8_reads_205 N σM y1 else if (σM.1 0 18) = 0 then (f_X8_next_ N σM).bind fun o_3 => (f_X8_partOf N o_3.2).bind fun o_4 => if o_4.1 = (-1) then f_X8_reads_41 N n o_4.2 y1 0 else if ((4 * y1) + o_4.1) < 0 ∨ 36 ≤ Int32.toNatClampNeg ((4 * y1) + o_4.1) then none else if (o_4.2.1 29 (Int32.toNatClampNeg ((4 * y1) + o_4.1))) = (-1) then f_X8_reads_100 N (f_X8_reads_41 N n) o_4.2 y1 y2 o_4.1 else f_X8_reads_100 N (f_X8_reads_41 N n) (f_X8_fail o_4.2 2 (o_3.2.1 0 15)) y1 y2 o_4.1 else f_X8_reads_205 N σM y1
def f_X8_reads_12 (N : Nat) : Nat → (St2 × (Nat → Int64)) → Int32 → Int32 → Option ((St2 × (Nat → Int64)))
  | 0, _, _, _ => none
  | n + 1, σM, y1, y2 => if 4 ≤ y2 then f_X8_reads_41 N N (up2 σM.1 0 33 (-1), σM.2) y1 1 else if ((4 * y1) + y2) < 0 ∨ 36 ≤ Int32.toNatClampNeg ((4 * y1) + y2) then none else f_X8_reads_12 N n (up2 σM.1 29 (Int32.toNatClampNeg ((4 * y1) + y2)) (-1), σM.2) y1 (y2 + 1)
def f_X8_reads (N : Nat) (σM : St2 × (Nat → Int64)) (x1 : Int32) : Option ((St2 × (Nat → Int64))) := (f_X8_whats N σM).bind fun o_1 => if x1 < 0 ∨ 9 ≤ Int32.toNatClampNeg x1 then none else f_X8_reads_12 N N (up2 o_1.2.1 28 (Int32.toNatClampNeg x1) o_1.1, o_1.2.2) x1 0
set_option maxHeartbeats 4000000 in
set_option maxRecDepth 100000 in
theorem b_X8_reads_202 {l : Launch} {D : va_G} {cy : Nat → ClassId} {g : Gs} {p : Program} {e : Env} {s : State} {m : MethodId} {args : Array Value} {below : List Frame} {meth : Method} {c : Code} {A : Nat → Prop} {aM : Nat → Nat} {N : Nat} {out : (St2 × (Nat → Int64))} {K41 : (St2 × (Nat → Int64)) → Int32 → Int32 → Option ((St2 × (Nat → Int64)))} (F : Fx p s m args meth c cX8_reads RX8 5 none) (hK : va_K D vwCl (tys cy) s) (hS : St g A s s.heap) (hA : ∀ q, s.heap.size ≤ q → A q) (hK41 : ∀ (σM : St2 × (Nat → Int64)) (y1 : Int32) (y2 : Int32), K41 σM y1 y2 = some out → J p l e { frames := 4, cells := 0, slots := 0, locals := 83 } s m args below meth c 5 (hW D A s (wM aM cy σM)) 0 0 (MQ below (QW D A none (wM aM cy out)) args s 0 0 A) 41 [(0, .ref (aM 0)), (1, .int y1), (2, .int y2)] []) :
    ∀ (σM : St2 × (Nat → Int64)) (y1 : Int32) (y2 : Int32), f_X8_reads_202 N K41 σM y1 y2 = some out → J p l e { frames := 4, cells := 0, slots := 0, locals := 83 } s m args below meth c 5 (hW D A s (wM aM cy σM)) 0 0 (MQ below (QW D A none (wM aM cy out)) args s 0 0 A) 202 [(0, .ref (aM 0)), (1, .int y1), (2, .int y2)] [] := by
  intro σM y1 y2 hf
  unfold f_X8_reads_202 at hf
  refine j_goto (pc := 202) F (tgt := 41) dX8_reads_202 rfl ?_
  exact hK41 σM y1 y2 hf
set_option maxHeartbeats 4000000 in
set_option maxRecDepth 100000 in
theorem b_X8_reads_171 {l : Launch} {D : va_G} {cy : Nat → ClassId} {g : Gs} {p : Program} {e : Env} {s : State} {m : MethodId} {args : Array Value} {below : List Frame} {meth : Method} {c : Code} {A : Nat → Prop} {aM : Nat → Nat} {N : Nat} {out : (St2 × (Nat → Int64))} {K41 : (St2 × (Nat → Int64)) → Int32 → Int32 → Option ((St2 × (Nat → Int64)))} (F : Fx p s m args meth c cX8_reads RX8 5 none) (hK : va_K D vwCl (tys cy) s) (hS : St g A s s.heap) (hA : ∀ q, s.heap.size ≤ q → A q) (hK41 : ∀ (σM : St2 × (Nat → Int64)) (y1 : Int32) (y2 : Int32), K41 σM y1 y2 = some out → J p l e { frames := 4, cells := 0, slots := 0, locals := 83 } s m args below meth c 5 (hW D A s (wM aM cy σM)) 0 0 (MQ below (QW D A none (wM aM cy out)) args s 0 0 A) 41 [(0, .ref (aM 0)), (1, .int y1), (2, .int y2)] []) :
    ∀ (σM : St2 × (Nat → Int64)) (y1 : Int32) (y2 : Int32) (y4 : Int32) (t0 : Int32) (t1 : Int32) (t3 : Int32), f_X8_reads_171 N K41 σM y1 y2 y4 t0 t1 t3 = some out → J p l e { frames := 4, cells := 0, slots := 0, locals := 83 } s m args below meth c 5 (hW D A s (wM aM cy σM)) 0 0 (MQ below (QW D A none (wM aM cy out)) args s 0 0 A) 171 [(0, .ref (aM 0)), (1, .int y1), (2, .int y2), (4, .int y4)] [.int t0, .int t1, .ref (aM 0), .int t3, .ref (aM 29)] := by
  intro σM y1 y2 y4 t0 t1 t3 hf
  unfold f_X8_reads_171 at hf
  obtain ⟨o_1, ho_1, hf⟩ := of_bnd hf
  refine j_callWs (pc := 171) (st := [.int t3, .ref (aM 29)]) (st1 := [.int o_1.1, .int t3, .ref (aM 29)]) (w' := wM aM cy o_1.2) F hK hS hA (c_X8_number (l := l) (D := D) (cy := cy) (g := g) (aM := aM) ho_1) tm_1129 cf_X8_number (Nat.le_of_ble_eq_true rfl) (Nat.le_of_ble_eq_true rfl) ⟨Nat.zero_le _, Nat.zero_le _⟩ 0 rfl rfl rfl rfl rfl (Nat.le_of_ble_eq_true rfl) rfl dX8_reads_171 ?_
  have c_2 : ¬ (t3 < 0 ∨ 36 ≤ Int32.toNatClampNeg t3) := fun z => by rw [if_pos z] at hf; cases hf
  have hf := of_neg c_2 hf
  refine jw_iast (pc := 174) (w' := wM aM cy (up2 o_1.2.1 29 (Int32.toNatClampNeg t3) o_1.1, o_1.2.2)) F hK 11 rfl c_2 (wM_row_29 _ _ _ _ _) dX8_reads_174 ?_
  refine j_aload_n (pc := 175) F 0 dX8_reads_175 rfl rfl ?_
  refine jw_get (pc := 176) (v := .int (o_1.2.1 0 18)) F hK ix_8 0 rfl rfl 18 (by decide) tm_833 rfl rfl dX8_reads_176 ?_
  refine j_if_ne (pc := 179) (tgt := 202) F dX8_reads_179 rfl (fun c_3 => ?_) (fun c_3 => ?_)
  · have hf := of_neg c_3 hf
    refine j_sub [0, 1, 2] rfl ?_
    exact b_X8_reads_202 F hK hS hA hK41 (up2 o_1.2.1 29 (Int32.toNatClampNeg t3) o_1.1, o_1.2.2) y1 y2 hf
  · have hf := of_pos c_3 hf
    refine j_iload (pc := 182) F 3 dX8_reads_182 rfl ?_
    refine j_if_ne (pc := 184) (tgt := 202) F dX8_reads_184 rfl (fun c_4 => ?_) (fun c_4 => ?_)
    · have hf := of_neg c_4 hf
      refine j_sub [0, 1, 2] rfl ?_
      exact b_X8_reads_202 F hK hS hA hK41 (up2 o_1.2.1 29 (Int32.toNatClampNeg t3) o_1.1, o_1.2.2) y1 y2 hf
    · have hf := of_pos c_4 hf
      refine j_aload_n (pc := 187) F 0 dX8_reads_187 rfl rfl ?_
      refine j_aload_n (pc := 188) F 0 dX8_reads_188 rfl rfl ?_
      refine jw_get (pc := 189) (v := .ref (aM 46)) F hK ix_8 0 rfl rfl 45 (by decide) tm_860 rfl rfl dX8_reads_189 ?_
      obtain ⟨o_5, ho_5, hf⟩ := of_bnd hf
      refine j_callWs (pc := 192) (st := []) (st1 := [.int (bI o_5.1)]) (w' := wM aM cy o_5.2) F hK hS hA (c_X8_takes (l := l) (D := D) (cy := cy) (g := g) (aM := aM) (hkw := by decide) ho_5) tm_1109 cf_X8_takes (Nat.le_of_ble_eq_true rfl) (Nat.le_of_ble_eq_true rfl) ⟨Nat.zero_le _, Nat.zero_le _⟩ 0 rfl rfl rfl rfl rfl (Nat.le_of_ble_eq_true rfl) rfl dX8_reads_192 ?_
      refine j_if_eq (pc := 195) (tgt := 202) F dX8_reads_195 rfl (fun c_6 => ?_) (fun c_6 => ?_)
      · have hf := of_pos c_6 hf
        refine j_sub [0, 1, 2] rfl ?_
        exact b_X8_reads_202 F hK hS hA hK41 o_5.2 y1 y2 hf
      · have hf := of_neg c_6 hf
        refine j_aload_n (pc := 198) F 0 dX8_reads_198 rfl rfl ?_
        obtain ⟨o_7, ho_7, hf⟩ := of_bnd hf
        refine j_callWs (pc := 199) (st := []) (st1 := []) (w' := wM aM cy o_7) F hK hS hA (c_X8_name (l := l) (D := D) (cy := cy) (g := g) (aM := aM) ho_7) tm_1136 cf_X8_name (Nat.le_of_ble_eq_true rfl) (Nat.le_of_ble_eq_true rfl) ⟨Nat.zero_le _, Nat.zero_le _⟩ 0 rfl rfl rfl rfl rfl (Nat.le_of_ble_eq_true rfl) rfl dX8_reads_199 ?_
        refine j_sub [0, 1, 2] rfl ?_
        exact b_X8_reads_202 F hK hS hA hK41 o_7 y1 y2 hf
set_option maxHeartbeats 4000000 in
set_option maxRecDepth 100000 in
theorem b_X8_reads_136 {l : Launch} {D : va_G} {cy : Nat → ClassId} {g : Gs} {p : Program} {e : Env} {s : State} {m : MethodId} {args : Array Value} {below : List Frame} {meth : Method} {c : Code} {A : Nat → Prop} {aM : Nat → Nat} {N : Nat} {out : (St2 × (Nat → Int64))} {K41 : (St2 × (Nat → Int64)) → Int32 → Int32 → Option ((St2 × (Nat → Int64)))} (F : Fx p s m args meth c cX8_reads RX8 5 none) (hK : va_K D vwCl (tys cy) s) (hS : St g A s s.heap) (hA : ∀ q, s.heap.size ≤ q → A q) (hK41 : ∀ (σM : St2 × (Nat → Int64)) (y1 : Int32) (y2 : Int32), K41 σM y1 y2 = some out → J p l e { frames := 4, cells := 0, slots := 0, locals := 83 } s m args below meth c 5 (hW D A s (wM aM cy σM)) 0 0 (MQ below (QW D A none (wM aM cy out)) args s 0 0 A) 41 [(0, .ref (aM 0)), (1, .int y1), (2, .int y2)] []) :
    ∀ (σM : St2 × (Nat → Int64)) (y1 : Int32) (y2 : Int32) (y4 : Int32) (t0 : Int32) (t2 : Int32), f_X8_reads_136 N K41 σM y1 y2 y4 t0 t2 = some out → J p l e { frames := 4, cells := 0, slots := 0, locals := 83 } s m args below meth c 5 (hW D A s (wM aM cy σM)) 0 0 (MQ below (QW D A none (wM aM cy out)) args s 0 0 A) 136 [(0, .ref (aM 0)), (1, .int y1), (2, .int y2), (4, .int y4)] [.int t0, .ref (aM 0), .int t2, .ref (aM 29)] := by
  intro σM y1 y2 y4 t0 t2 hf
  unfold f_X8_reads_136 at hf
  refine j_iload (pc := 136) F 3 dX8_reads_136 rfl ?_
  refine j_if_ne (pc := 138) (tgt := 147) F dX8_reads_138 rfl (fun c_1 => ?_) (fun c_1 => ?_)
  · have hf := of_neg c_1 hf
    refine j_iload (pc := 147) F 3 dX8_reads_147 rfl ?_
    refine j_iconst (pc := 149) F (v := 1) dX8_reads_149 rfl ?_
    refine j_icmp_ne (pc := 150) (tgt := 158) F dX8_reads_150 rfl (fun c_2 => ?_) (fun c_2 => ?_)
    · have hf := of_neg c_2 hf
      refine j_iload (pc := 158) F 3 dX8_reads_158 rfl ?_
      refine j_iconst (pc := 160) F (v := 2) dX8_reads_160 rfl ?_
      refine j_icmp_ne (pc := 161) (tgt := 169) F dX8_reads_161 rfl (fun c_3 => ?_) (fun c_3 => ?_)
      · have hf := of_neg c_3 hf
        refine j_bipush (pc := 169) F (v := 23) dX8_reads_169 rfl ?_
        exact b_X8_reads_171 F hK hS hA hK41 σM y1 y2 y4 23 t0 t2 hf
      · have hf := of_pos c_3 hf
        refine j_bipush (pc := 164) F (v := 31) dX8_reads_164 rfl ?_
        refine j_goto (pc := 166) F (tgt := 171) dX8_reads_166 rfl ?_
        exact b_X8_reads_171 F hK hS hA hK41 σM y1 y2 y4 31 t0 t2 hf
    · have hf := of_pos c_2 hf
      refine j_bipush (pc := 153) F (v := 13) dX8_reads_153 rfl ?_
      refine j_goto (pc := 155) F (tgt := 171) dX8_reads_155 rfl ?_
      exact b_X8_reads_171 F hK hS hA hK41 σM y1 y2 y4 13 t0 t2 hf
  · have hf := of_pos c_1 hf
    refine j_sipush (pc := 141) F (v := 999) dX8_reads_141 rfl ?_
    refine j_goto (pc := 144) F (tgt := 171) dX8_reads_144 rfl ?_
    exact b_X8_reads_171 F hK hS hA hK41 σM y1 y2 y4 999 t0 t2 hf
set_option maxHeartbeats 4000000 in
set_option maxRecDepth 100000 in
theorem b_X8_reads_131 {l : Launch} {D : va_G} {cy : Nat → ClassId} {g : Gs} {p : Program} {e : Env} {s : State} {m : MethodId} {args : Array Value} {below : List Frame} {meth : Method} {c : Code} {A : Nat → Prop} {aM : Nat → Nat} {N : Nat} {out : (St2 × (Nat → Int64))} {K41 : (St2 × (Nat → Int64)) → Int32 → Int32 → Option ((St2 × (Nat → Int64)))} (F : Fx p s m args meth c cX8_reads RX8 5 none) (hK : va_K D vwCl (tys cy) s) (hS : St g A s s.heap) (hA : ∀ q, s.heap.size ≤ q → A q) (hK41 : ∀ (σM : St2 × (Nat → Int64)) (y1 : Int32) (y2 : Int32), K41 σM y1 y2 = some out → J p l e { frames := 4, cells := 0, slots := 0, locals := 83 } s m args below meth c 5 (hW D A s (wM aM cy σM)) 0 0 (MQ below (QW D A none (wM aM cy out)) args s 0 0 A) 41 [(0, .ref (aM 0)), (1, .int y1), (2, .int y2)] []) :
    ∀ (σM : St2 × (Nat → Int64)) (y1 : Int32) (y2 : Int32) (y4 : Int32) (t1 : Int32), f_X8_reads_131 N K41 σM y1 y2 y4 t1 = some out → J p l e { frames := 4, cells := 0, slots := 0, locals := 83 } s m args below meth c 5 (hW D A s (wM aM cy σM)) 0 0 (MQ below (QW D A none (wM aM cy out)) args s 0 0 A) 131 [(0, .ref (aM 0)), (1, .int y1), (2, .int y2), (4, .int y4)] [.ref (aM 0), .int t1, .ref (aM 29)] := by
  intro σM y1 y2 y4 t1 hf
  unfold f_X8_reads_131 at hf
  refine j_iconst (pc := 131) F (v := 1) dX8_reads_131 rfl ?_
  refine j_goto (pc := 132) F (tgt := 136) dX8_reads_132 rfl ?_
  exact b_X8_reads_136 F hK hS hA hK41 σM y1 y2 y4 1 t1 hf
set_option maxHeartbeats 4000000 in
set_option maxRecDepth 100000 in
theorem b_X8_reads_100 {l : Launch} {D : va_G} {cy : Nat → ClassId} {g : Gs} {p : Program} {e : Env} {s : State} {m : MethodId} {args : Array Value} {below : List Frame} {meth : Method} {c : Code} {A : Nat → Prop} {aM : Nat → Nat} {N : Nat} {out : (St2 × (Nat → Int64))} {K41 : (St2 × (Nat → Int64)) → Int32 → Int32 → Option ((St2 × (Nat → Int64)))} (F : Fx p s m args meth c cX8_reads RX8 5 none) (hK : va_K D vwCl (tys cy) s) (hS : St g A s s.heap) (hA : ∀ q, s.heap.size ≤ q → A q) (hK41 : ∀ (σM : St2 × (Nat → Int64)) (y1 : Int32) (y2 : Int32), K41 σM y1 y2 = some out → J p l e { frames := 4, cells := 0, slots := 0, locals := 83 } s m args below meth c 5 (hW D A s (wM aM cy σM)) 0 0 (MQ below (QW D A none (wM aM cy out)) args s 0 0 A) 41 [(0, .ref (aM 0)), (1, .int y1), (2, .int y2)] []) :
    ∀ (σM : St2 × (Nat → Int64)) (y1 : Int32) (y2 : Int32) (y4 : Int32), f_X8_reads_100 N K41 σM y1 y2 y4 = some out → J p l e { frames := 4, cells := 0, slots := 0, locals := 83 } s m args below meth c 5 (hW D A s (wM aM cy σM)) 0 0 (MQ below (QW D A none (wM aM cy out)) args s 0 0 A) 100 [(0, .ref (aM 0)), (1, .int y1), (2, .int y2), (4, .int y4)] [] := by
  intro σM y1 y2 y4 hf
  unfold f_X8_reads_100 at hf
  refine j_aload_n (pc := 100) F 0 dX8_reads_100 rfl rfl ?_
  refine jw_get (pc := 101) (v := .int (σM.1 0 18)) F hK ix_8 0 rfl rfl 18 (by decide) tm_833 rfl rfl dX8_reads_101 ?_
  refine j_if_eq (pc := 104) (tgt := 108) F dX8_reads_104 rfl (fun c_1 => ?_) (fun c_1 => ?_)
  · have hf := of_pos c_1 hf
    refine j_aload_n (pc := 108) F 0 dX8_reads_108 rfl rfl ?_
    refine jw_get (pc := 109) (v := .ref (aM 29)) F hK ix_8 0 rfl rfl 28 (by decide) tm_843 rfl rfl dX8_reads_109 ?_
    refine j_iconst (pc := 112) F (v := 4) dX8_reads_112 rfl ?_
    refine j_iload_n (pc := 113) F 1 dX8_reads_113 rfl rfl ?_
    refine j_imul (pc := 114) F dX8_reads_114 ?_
    refine j_iload (pc := 115) F 3 dX8_reads_115 rfl ?_
    refine j_iadd (pc := 117) F dX8_reads_117 ?_
    refine j_aload_n (pc := 118) F 0 dX8_reads_118 rfl rfl ?_
    refine j_iload (pc := 119) F 3 dX8_reads_119 rfl ?_
    refine j_iconst (pc := 121) F (v := 1) dX8_reads_121 rfl ?_
    refine j_icmp_eq (pc := 122) (tgt := 131) F dX8_reads_122 rfl (fun c_2 => ?_) (fun c_2 => ?_)
    · have hf := of_pos c_2 hf
      exact b_X8_reads_131 F hK hS hA hK41 σM y1 y2 y4 ((4 * y1) + y4) hf
    · have hf := of_neg c_2 hf
      refine j_iload (pc := 125) F 3 dX8_reads_125 rfl ?_
      refine j_iconst (pc := 127) F (v := 2) dX8_reads_127 rfl ?_
      refine j_icmp_ne (pc := 128) (tgt := 135) F dX8_reads_128 rfl (fun c_3 => ?_) (fun c_3 => ?_)
      · have hf := of_neg c_3 hf
        refine j_iconst (pc := 135) F (v := 0) dX8_reads_135 rfl ?_
        exact b_X8_reads_136 F hK hS hA hK41 σM y1 y2 y4 0 ((4 * y1) + y4) hf
      · have hf := of_pos c_3 hf
        exact b_X8_reads_131 F hK hS hA hK41 σM y1 y2 y4 ((4 * y1) + y4) hf
  · have hf := of_neg c_1 hf
    have hf := (Option.some.inj hf)
    subst hf
    exact j_vretW (pc := 107) F dX8_reads_107 rfl
set_option maxHeartbeats 4000000 in
set_option maxRecDepth 100000 in
theorem b_X8_reads_376 {l : Launch} {D : va_G} {cy : Nat → ClassId} {g : Gs} {p : Program} {e : Env} {s : State} {m : MethodId} {args : Array Value} {below : List Frame} {meth : Method} {c : Code} {A : Nat → Prop} {aM : Nat → Nat} {N : Nat} {out : (St2 × (Nat → Int64))} (F : Fx p s m args meth c cX8_reads RX8 5 none) (hK : va_K D vwCl (tys cy) s) (hS : St g A s s.heap) (hA : ∀ q, s.heap.size ≤ q → A q) :
    ∀ (σM : St2 × (Nat → Int64)) (y1 : Int32), f_X8_reads_376 N σM y1 = some out → J p l e { frames := 4, cells := 0, slots := 0, locals := 83 } s m args below meth c 5 (hW D A s (wM aM cy σM)) 0 0 (MQ below (QW D A none (wM aM cy out)) args s 0 0 A) 376 [(0, .ref (aM 0)), (1, .int y1)] [] := by
  intro σM y1 hf
  unfold f_X8_reads_376 at hf
  refine j_aload_n (pc := 376) F 0 dX8_reads_376 rfl rfl ?_
  refine jw_get (pc := 377) (v := .int (σM.1 0 18)) F hK ix_8 0 rfl rfl 18 (by decide) tm_833 rfl rfl dX8_reads_377 ?_
  refine j_if_ne (pc := 380) (tgt := 418) F dX8_reads_380 rfl (fun c_1 => ?_) (fun c_1 => ?_)
  · have hf := of_neg c_1 hf
    have hf := (Option.some.inj hf)
    subst hf
    exact j_vretW (pc := 418) F dX8_reads_418 rfl
  · have hf := of_pos c_1 hf
    refine j_aload_n (pc := 383) F 0 dX8_reads_383 rfl rfl ?_
    refine jw_get (pc := 384) (v := .int (σM.1 0 33)) F hK ix_8 0 rfl rfl 33 (by decide) tm_848 rfl rfl dX8_reads_384 ?_
    refine j_iconst (pc := 387) F (v := (-1)) dX8_reads_387 rfl ?_
    refine j_icmp_eq (pc := 388) (tgt := 418) F dX8_reads_388 rfl (fun c_2 => ?_) (fun c_2 => ?_)
    · have hf := of_pos c_2 hf
      have hf := (Option.some.inj hf)
      subst hf
      exact j_vretW (pc := 418) F dX8_reads_418 rfl
    · have hf := of_neg c_2 hf
      refine j_aload_n (pc := 391) F 0 dX8_reads_391 rfl rfl ?_
      refine jw_get (pc := 392) (v := .ref (aM 25)) F hK ix_8 0 rfl rfl 24 (by decide) tm_839 rfl rfl dX8_reads_392 ?_
      refine j_aload_n (pc := 395) F 0 dX8_reads_395 rfl rfl ?_
      refine jw_get (pc := 396) (v := .int (σM.1 0 33)) F hK ix_8 0 rfl rfl 33 (by decide) tm_848 rfl rfl dX8_reads_396 ?_
      have c_3 : ¬ ((σM.1 0 33) < 0 ∨ 12 ≤ Int32.toNatClampNeg (σM.1 0 33)) := fun z => by rw [if_pos z] at hf; cases hf
      have hf := of_neg c_3 hf
      refine jw_iald (pc := 399) F hK 8 rfl c_3 dX8_reads_399 ?_
      refine j_aload_n (pc := 400) F 0 dX8_reads_400 rfl rfl ?_
      refine jw_get (pc := 401) (v := .ref (aM 31)) F hK ix_8 0 rfl rfl 30 (by decide) tm_845 rfl rfl dX8_reads_401 ?_
      refine j_iload_n (pc := 404) F 1 dX8_reads_404 rfl rfl ?_
      have c_4 : ¬ (y1 < 0 ∨ 9 ≤ Int32.toNatClampNeg y1) := fun z => by rw [if_pos z] at hf; cases hf
      have hf := of_neg c_4 hf
      refine jw_iald (pc := 405) F hK 13 rfl c_4 dX8_reads_405 ?_
      refine j_icmp_eq (pc := 406) (tgt := 418) F dX8_reads_406 rfl (fun c_5 => ?_) (fun c_5 => ?_)
      · have hf := of_pos c_5 hf
        have hf := (Option.some.inj hf)
        subst hf
        exact j_vretW (pc := 418) F dX8_reads_418 rfl
      · have hf := of_neg c_5 hf
        refine j_aload_n (pc := 409) F 0 dX8_reads_409 rfl rfl ?_
        refine j_iconst (pc := 410) F (v := 3) dX8_reads_410 rfl ?_
        refine j_aload_n (pc := 411) F 0 dX8_reads_411 rfl rfl ?_
        refine jw_get (pc := 412) (v := .int (σM.1 0 32)) F hK ix_8 0 rfl rfl 32 (by decide) tm_847 rfl rfl dX8_reads_412 ?_
        refine j_callWs (pc := 415) (st := []) (st1 := []) (w' := wM aM cy (f_X8_fail σM 3 (σM.1 0 32))) F hK hS hA (c_X8_fail (l := l) (D := D) (cy := cy) (g := g) (aM := aM) (rfl : f_X8_fail σM 3 (σM.1 0 32) = _)) tm_1121 cf_X8_fail (Nat.le_of_ble_eq_true rfl) (Nat.le_of_ble_eq_true rfl) ⟨Nat.zero_le _, Nat.zero_le _⟩ 0 rfl rfl rfl rfl rfl (Nat.le_of_ble_eq_true rfl) rfl dX8_reads_415 ?_
        have hf := (Option.some.inj hf)
        subst hf
        exact j_vretW (pc := 418) F dX8_reads_418 rfl
set_option maxHeartbeats 4000000 in
set_option maxRecDepth 100000 in
theorem b_X8_reads_342 {l : Launch} {D : va_G} {cy : Nat → ClassId} {g : Gs} {p : Program} {e : Env} {s : State} {m : MethodId} {args : Array Value} {below : List Frame} {meth : Method} {c : Code} {A : Nat → Prop} {aM : Nat → Nat} {N : Nat} {out : (St2 × (Nat → Int64))} (F : Fx p s m args meth c cX8_reads RX8 5 none) (hK : va_K D vwCl (tys cy) s) (hS : St g A s s.heap) (hA : ∀ q, s.heap.size ≤ q → A q) :
    ∀ (σM : St2 × (Nat → Int64)) (y1 : Int32), f_X8_reads_342 N σM y1 = some out → J p l e { frames := 4, cells := 0, slots := 0, locals := 83 } s m args below meth c 5 (hW D A s (wM aM cy σM)) 0 0 (MQ below (QW D A none (wM aM cy out)) args s 0 0 A) 342 [(0, .ref (aM 0)), (1, .int y1)] [] := by
  intro σM y1 hf
  unfold f_X8_reads_342 at hf
  refine j_aload_n (pc := 342) F 0 dX8_reads_342 rfl rfl ?_
  refine j_dup (pc := 343) F dX8_reads_343 rfl ?_
  refine jw_get (pc := 344) (v := .int (σM.1 0 15)) F hK ix_8 0 rfl rfl 15 (by decide) tm_830 rfl rfl dX8_reads_344 ?_
  refine j_iconst (pc := 347) F (v := 1) dX8_reads_347 rfl ?_
  refine j_iadd (pc := 348) F dX8_reads_348 ?_
  obtain ⟨z_1, ez_1, hf⟩ := of_lt hf
  refine j_topi ez_1 ?_
  refine jw_put (pc := 349) (w' := wM aM cy (up2 σM.1 0 15 z_1, σM.2)) F hK ix_8 tyX8 tyX8_ok nmX8 0 rfl rfl 15 (by decide) tm_830 rfl rfl rfl rfl rfl (Nat.le_of_ble_eq_true rfl) (wM_put_15 _ _ _ _) dX8_reads_349 ?_
  refine j_aload_n (pc := 352) F 0 dX8_reads_352 rfl rfl ?_
  refine jw_get (pc := 353) (v := .int (σM.1 0 18)) F hK ix_8 0 rfl rfl 18 (by decide) tm_833 rfl rfl dX8_reads_353 ?_
  refine j_if_ne (pc := 356) (tgt := 376) F dX8_reads_356 rfl (fun c_2 => ?_) (fun c_2 => ?_)
  · have hf := of_neg c_2 hf
    exact b_X8_reads_376 F hK hS hA (up2 σM.1 0 15 z_1, σM.2) y1 hf
  · have hf := of_pos c_2 hf
    refine j_aload_n (pc := 359) F 0 dX8_reads_359 rfl rfl ?_
    obtain ⟨o_3, ho_3, hf⟩ := of_bnd hf
    refine j_callWs (pc := 360) (st := []) (st1 := [.int o_3.1]) (w' := wM aM cy o_3.2) F hK hS hA (c_X8_next_ (l := l) (D := D) (cy := cy) (g := g) (aM := aM) ho_3) tm_1113 cf_X8_next_ (Nat.le_of_ble_eq_true rfl) (Nat.le_of_ble_eq_true rfl) ⟨Nat.zero_le _, Nat.zero_le _⟩ 0 rfl rfl rfl rfl rfl (Nat.le_of_ble_eq_true rfl) rfl dX8_reads_360 ?_
    refine j_iconst (pc := 363) F (v := (-1)) dX8_reads_363 rfl ?_
    refine j_icmp_eq (pc := 364) (tgt := 376) F dX8_reads_364 rfl (fun c_4 => ?_) (fun c_4 => ?_)
    · have hf := of_pos c_4 hf
      exact b_X8_reads_376 F hK hS hA o_3.2 y1 hf
    · have hf := of_neg c_4 hf
      refine j_aload_n (pc := 367) F 0 dX8_reads_367 rfl rfl ?_
      refine j_iconst (pc := 368) F (v := 1) dX8_reads_368 rfl ?_
      refine j_aload_n (pc := 369) F 0 dX8_reads_369 rfl rfl ?_
      refine jw_get (pc := 370) (v := .int (o_3.2.1 0 15)) F hK ix_8 0 rfl rfl 15 (by decide) tm_830 rfl rfl dX8_reads_370 ?_
      refine j_callWs (pc := 373) (st := []) (st1 := []) (w' := wM aM cy (f_X8_fail o_3.2 1 (o_3.2.1 0 15))) F hK hS hA (c_X8_fail (l := l) (D := D) (cy := cy) (g := g) (aM := aM) (rfl : f_X8_fail o_3.2 1 (o_3.2.1 0 15) = _)) tm_1121 cf_X8_fail (Nat.le_of_ble_eq_true rfl) (Nat.le_of_ble_eq_true rfl) ⟨Nat.zero_le _, Nat.zero_le _⟩ 0 rfl rfl rfl rfl rfl (Nat.le_of_ble_eq_true rfl) rfl dX8_reads_373 ?_
      exact b_X8_reads_376 F hK hS hA (f_X8_fail o_3.2 1 (o_3.2.1 0 15)) y1 hf
set_option maxHeartbeats 4000000 in
set_option maxRecDepth 100000 in
theorem b_X8_reads_317 {l : Launch} {D : va_G} {cy : Nat → ClassId} {g : Gs} {p : Program} {e : Env} {s : State} {m : MethodId} {args : Array Value} {below : List Frame} {meth : Method} {c : Code} {A : Nat → Prop} {aM : Nat → Nat} {N : Nat} {out : (St2 × (Nat → Int64))} (F : Fx p s m args meth c cX8_reads RX8 5 none) (hK : va_K D vwCl (tys cy) s) (hS : St g A s s.heap) (hA : ∀ q, s.heap.size ≤ q → A q) :
    ∀ (σM : St2 × (Nat → Int64)) (y1 : Int32), f_X8_reads_317 N σM y1 = some out → J p l e { frames := 4, cells := 0, slots := 0, locals := 83 } s m args below meth c 5 (hW D A s (wM aM cy σM)) 0 0 (MQ below (QW D A none (wM aM cy out)) args s 0 0 A) 317 [(0, .ref (aM 0)), (1, .int y1)] [] := by
  intro σM y1 hf
  unfold f_X8_reads_317 at hf
  refine j_aload_n (pc := 317) F 0 dX8_reads_317 rfl rfl ?_
  refine jw_get (pc := 318) (v := .int (σM.1 0 18)) F hK ix_8 0 rfl rfl 18 (by decide) tm_833 rfl rfl dX8_reads_318 ?_
  refine j_if_ne (pc := 321) (tgt := 342) F dX8_reads_321 rfl (fun c_1 => ?_) (fun c_1 => ?_)
  · have hf := of_neg c_1 hf
    exact b_X8_reads_342 F hK hS hA σM y1 hf
  · have hf := of_pos c_1 hf
    refine j_aload_n (pc := 324) F 0 dX8_reads_324 rfl rfl ?_
    obtain ⟨o_2, ho_2, hf⟩ := of_bnd hf
    refine j_callWs (pc := 325) (st := []) (st1 := [.int o_2.1]) (w' := wM aM cy o_2.2) F hK hS hA (c_X8_next_ (l := l) (D := D) (cy := cy) (g := g) (aM := aM) ho_2) tm_1113 cf_X8_next_ (Nat.le_of_ble_eq_true rfl) (Nat.le_of_ble_eq_true rfl) ⟨Nat.zero_le _, Nat.zero_le _⟩ 0 rfl rfl rfl rfl rfl (Nat.le_of_ble_eq_true rfl) rfl dX8_reads_325 ?_
    refine j_bipush (pc := 328) F (v := 59) dX8_reads_328 rfl ?_
    refine j_icmp_eq (pc := 330) (tgt := 342) F dX8_reads_330 rfl (fun c_3 => ?_) (fun c_3 => ?_)
    · have hf := of_pos c_3 hf
      exact b_X8_reads_342 F hK hS hA o_2.2 y1 hf
    · have hf := of_neg c_3 hf
      refine j_aload_n (pc := 333) F 0 dX8_reads_333 rfl rfl ?_
      refine j_iconst (pc := 334) F (v := 1) dX8_reads_334 rfl ?_
      refine j_aload_n (pc := 335) F 0 dX8_reads_335 rfl rfl ?_
      refine jw_get (pc := 336) (v := .int (o_2.2.1 0 15)) F hK ix_8 0 rfl rfl 15 (by decide) tm_830 rfl rfl dX8_reads_336 ?_
      refine j_callWs (pc := 339) (st := []) (st1 := []) (w' := wM aM cy (f_X8_fail o_2.2 1 (o_2.2.1 0 15))) F hK hS hA (c_X8_fail (l := l) (D := D) (cy := cy) (g := g) (aM := aM) (rfl : f_X8_fail o_2.2 1 (o_2.2.1 0 15) = _)) tm_1121 cf_X8_fail (Nat.le_of_ble_eq_true rfl) (Nat.le_of_ble_eq_true rfl) ⟨Nat.zero_le _, Nat.zero_le _⟩ 0 rfl rfl rfl rfl rfl (Nat.le_of_ble_eq_true rfl) rfl dX8_reads_339 ?_
      exact b_X8_reads_342 F hK hS hA (f_X8_fail o_2.2 1 (o_2.2.1 0 15)) y1 hf
set_option maxHeartbeats 4000000 in
set_option maxRecDepth 100000 in
theorem b_X8_reads_291 {l : Launch} {D : va_G} {cy : Nat → ClassId} {g : Gs} {p : Program} {e : Env} {s : State} {m : MethodId} {args : Array Value} {below : List Frame} {meth : Method} {c : Code} {A : Nat → Prop} {aM : Nat → Nat} {N : Nat} {out : (St2 × (Nat → Int64))} (F : Fx p s m args meth c cX8_reads RX8 5 none) (hK : va_K D vwCl (tys cy) s) (hS : St g A s s.heap) (hA : ∀ q, s.heap.size ≤ q → A q) :
    ∀ (σM : St2 × (Nat → Int64)) (y1 : Int32), f_X8_reads_291 N σM y1 = some out → J p l e { frames := 4, cells := 0, slots := 0, locals := 83 } s m args below meth c 5 (hW D A s (wM aM cy σM)) 0 0 (MQ below (QW D A none (wM aM cy out)) args s 0 0 A) 291 [(0, .ref (aM 0)), (1, .int y1)] [] := by
  intro σM y1 hf
  unfold f_X8_reads_291 at hf
  refine j_aload_n (pc := 291) F 0 dX8_reads_291 rfl rfl ?_
  refine jw_get (pc := 292) (v := .int (σM.1 0 18)) F hK ix_8 0 rfl rfl 18 (by decide) tm_833 rfl rfl dX8_reads_292 ?_
  refine j_if_ne (pc := 295) (tgt := 317) F dX8_reads_295 rfl (fun c_1 => ?_) (fun c_1 => ?_)
  · have hf := of_neg c_1 hf
    exact b_X8_reads_317 F hK hS hA σM y1 hf
  · have hf := of_pos c_1 hf
    refine j_aload_n (pc := 298) F 0 dX8_reads_298 rfl rfl ?_
    refine jw_get (pc := 299) (v := .ref (aM 31)) F hK ix_8 0 rfl rfl 30 (by decide) tm_845 rfl rfl dX8_reads_299 ?_
    refine j_iload_n (pc := 302) F 1 dX8_reads_302 rfl rfl ?_
    have c_2 : ¬ (y1 < 0 ∨ 9 ≤ Int32.toNatClampNeg y1) := fun z => by rw [if_pos z] at hf; cases hf
    have hf := of_neg c_2 hf
    refine jw_iald (pc := 303) F hK 13 rfl c_2 dX8_reads_303 ?_
    refine j_iconst (pc := 304) F (v := (-1)) dX8_reads_304 rfl ?_
    refine j_icmp_ne (pc := 305) (tgt := 317) F dX8_reads_305 rfl (fun c_3 => ?_) (fun c_3 => ?_)
    · have hf := of_neg c_3 hf
      exact b_X8_reads_317 F hK hS hA σM y1 hf
    · have hf := of_pos c_3 hf
      refine j_aload_n (pc := 308) F 0 dX8_reads_308 rfl rfl ?_
      refine j_iconst (pc := 309) F (v := 1) dX8_reads_309 rfl ?_
      refine j_aload_n (pc := 310) F 0 dX8_reads_310 rfl rfl ?_
      refine jw_get (pc := 311) (v := .int (σM.1 0 15)) F hK ix_8 0 rfl rfl 15 (by decide) tm_830 rfl rfl dX8_reads_311 ?_
      refine j_callWs (pc := 314) (st := []) (st1 := []) (w' := wM aM cy (f_X8_fail σM 1 (σM.1 0 15))) F hK hS hA (c_X8_fail (l := l) (D := D) (cy := cy) (g := g) (aM := aM) (rfl : f_X8_fail σM 1 (σM.1 0 15) = _)) tm_1121 cf_X8_fail (Nat.le_of_ble_eq_true rfl) (Nat.le_of_ble_eq_true rfl) ⟨Nat.zero_le _, Nat.zero_le _⟩ 0 rfl rfl rfl rfl rfl (Nat.le_of_ble_eq_true rfl) rfl dX8_reads_314 ?_
      exact b_X8_reads_317 F hK hS hA (f_X8_fail σM 1 (σM.1 0 15)) y1 hf
set_option maxHeartbeats 4000000 in
set_option maxRecDepth 100000 in
theorem b_X8_reads_290 {l : Launch} {D : va_G} {cy : Nat → ClassId} {g : Gs} {p : Program} {e : Env} {s : State} {m : MethodId} {args : Array Value} {below : List Frame} {meth : Method} {c : Code} {A : Nat → Prop} {aM : Nat → Nat} {N : Nat} {out : (St2 × (Nat → Int64))} (F : Fx p s m args meth c cX8_reads RX8 5 none) (hK : va_K D vwCl (tys cy) s) (hS : St g A s s.heap) (hA : ∀ q, s.heap.size ≤ q → A q) :
    ∀ (σM : St2 × (Nat → Int64)) (y1 : Int32) (t0 : Int32) (t1 : Int32), f_X8_reads_290 N σM y1 t0 t1 = some out → J p l e { frames := 4, cells := 0, slots := 0, locals := 83 } s m args below meth c 5 (hW D A s (wM aM cy σM)) 0 0 (MQ below (QW D A none (wM aM cy out)) args s 0 0 A) 290 [(0, .ref (aM 0)), (1, .int y1)] [.int t0, .int t1, .ref (aM 31)] := by
  intro σM y1 t0 t1 hf
  unfold f_X8_reads_290 at hf
  have c_1 : ¬ (t1 < 0 ∨ 9 ≤ Int32.toNatClampNeg t1) := fun z => by rw [if_pos z] at hf; cases hf
  have hf := of_neg c_1 hf
  refine jw_iast (pc := 290) (w' := wM aM cy (up2 σM.1 31 (Int32.toNatClampNeg t1) t0, σM.2)) F hK 13 rfl c_1 (wM_row_31 _ _ _ _ _) dX8_reads_290 ?_
  exact b_X8_reads_291 F hK hS hA (up2 σM.1 31 (Int32.toNatClampNeg t1) t0, σM.2) y1 hf
set_option maxHeartbeats 4000000 in
set_option maxRecDepth 100000 in
theorem b_X8_reads_232 {l : Launch} {D : va_G} {cy : Nat → ClassId} {g : Gs} {p : Program} {e : Env} {s : State} {m : MethodId} {args : Array Value} {below : List Frame} {meth : Method} {c : Code} {A : Nat → Prop} {aM : Nat → Nat} {N : Nat} {out : (St2 × (Nat → Int64))} (F : Fx p s m args meth c cX8_reads RX8 5 none) (hK : va_K D vwCl (tys cy) s) (hS : St g A s s.heap) (hA : ∀ q, s.heap.size ≤ q → A q) :
    ∀ (σM : St2 × (Nat → Int64)) (y1 : Int32), f_X8_reads_232 N σM y1 = some out → J p l e { frames := 4, cells := 0, slots := 0, locals := 83 } s m args below meth c 5 (hW D A s (wM aM cy σM)) 0 0 (MQ below (QW D A none (wM aM cy out)) args s 0 0 A) 232 [(0, .ref (aM 0)), (1, .int y1)] [] := by
  intro σM y1 hf
  unfold f_X8_reads_232 at hf
  refine j_aload_n (pc := 232) F 0 dX8_reads_232 rfl rfl ?_
  refine jw_get (pc := 233) (v := .int (σM.1 0 18)) F hK ix_8 0 rfl rfl 18 (by decide) tm_833 rfl rfl dX8_reads_233 ?_
  refine j_if_ne (pc := 236) (tgt := 291) F dX8_reads_236 rfl (fun c_1 => ?_) (fun c_1 => ?_)
  · have hf := of_neg c_1 hf
    exact b_X8_reads_291 F hK hS hA σM y1 hf
  · have hf := of_pos c_1 hf
    refine j_aload_n (pc := 239) F 0 dX8_reads_239 rfl rfl ?_
    refine jw_get (pc := 240) (v := .ref (aM 31)) F hK ix_8 0 rfl rfl 30 (by decide) tm_845 rfl rfl dX8_reads_240 ?_
    refine j_iload_n (pc := 243) F 1 dX8_reads_243 rfl rfl ?_
    refine j_aload_n (pc := 244) F 0 dX8_reads_244 rfl rfl ?_
    refine j_aload_n (pc := 245) F 0 dX8_reads_245 rfl rfl ?_
    refine jw_get (pc := 246) (v := .ref (aM 48)) F hK ix_8 0 rfl rfl 47 (by decide) tm_862 rfl rfl dX8_reads_246 ?_
    obtain ⟨o_2, ho_2, hf⟩ := of_bnd hf
    refine j_callWs (pc := 249) (st := [.int y1, .ref (aM 31)]) (st1 := [.int (bI o_2.1), .int y1, .ref (aM 31)]) (w' := wM aM cy o_2.2) F hK hS hA (c_X8_takes (l := l) (D := D) (cy := cy) (g := g) (aM := aM) (hkw := by decide) ho_2) tm_1109 cf_X8_takes (Nat.le_of_ble_eq_true rfl) (Nat.le_of_ble_eq_true rfl) ⟨Nat.zero_le _, Nat.zero_le _⟩ 0 rfl rfl rfl rfl rfl (Nat.le_of_ble_eq_true rfl) rfl dX8_reads_249 ?_
    refine j_if_eq (pc := 252) (tgt := 259) F dX8_reads_252 rfl (fun c_3 => ?_) (fun c_3 => ?_)
    · have hf := of_pos c_3 hf
      refine j_aload_n (pc := 259) F 0 dX8_reads_259 rfl rfl ?_
      refine j_aload_n (pc := 260) F 0 dX8_reads_260 rfl rfl ?_
      refine jw_get (pc := 261) (v := .ref (aM 49)) F hK ix_8 0 rfl rfl 48 (by decide) tm_863 rfl rfl dX8_reads_261 ?_
      obtain ⟨o_4, ho_4, hf⟩ := of_bnd hf
      refine j_callWs (pc := 264) (st := [.int y1, .ref (aM 31)]) (st1 := [.int (bI o_4.1), .int y1, .ref (aM 31)]) (w' := wM aM cy o_4.2) F hK hS hA (c_X8_takes (l := l) (D := D) (cy := cy) (g := g) (aM := aM) (hkw := by decide) ho_4) tm_1109 cf_X8_takes (Nat.le_of_ble_eq_true rfl) (Nat.le_of_ble_eq_true rfl) ⟨Nat.zero_le _, Nat.zero_le _⟩ 0 rfl rfl rfl rfl rfl (Nat.le_of_ble_eq_true rfl) rfl dX8_reads_264 ?_
      refine j_if_eq (pc := 267) (tgt := 274) F dX8_reads_267 rfl (fun c_5 => ?_) (fun c_5 => ?_)
      · have hf := of_pos c_5 hf
        refine j_aload_n (pc := 274) F 0 dX8_reads_274 rfl rfl ?_
        refine j_aload_n (pc := 275) F 0 dX8_reads_275 rfl rfl ?_
        refine jw_get (pc := 276) (v := .ref (aM 50)) F hK ix_8 0 rfl rfl 49 (by decide) tm_864 rfl rfl dX8_reads_276 ?_
        obtain ⟨o_6, ho_6, hf⟩ := of_bnd hf
        refine j_callWs (pc := 279) (st := [.int y1, .ref (aM 31)]) (st1 := [.int (bI o_6.1), .int y1, .ref (aM 31)]) (w' := wM aM cy o_6.2) F hK hS hA (c_X8_takes (l := l) (D := D) (cy := cy) (g := g) (aM := aM) (hkw := by decide) ho_6) tm_1109 cf_X8_takes (Nat.le_of_ble_eq_true rfl) (Nat.le_of_ble_eq_true rfl) ⟨Nat.zero_le _, Nat.zero_le _⟩ 0 rfl rfl rfl rfl rfl (Nat.le_of_ble_eq_true rfl) rfl dX8_reads_279 ?_
        refine j_if_eq (pc := 282) (tgt := 289) F dX8_reads_282 rfl (fun c_7 => ?_) (fun c_7 => ?_)
        · have hf := of_pos c_7 hf
          refine j_iconst (pc := 289) F (v := (-1)) dX8_reads_289 rfl ?_
          exact b_X8_reads_290 F hK hS hA o_6.2 y1 (-1) y1 hf
        · have hf := of_neg c_7 hf
          refine j_iconst (pc := 285) F (v := 2) dX8_reads_285 rfl ?_
          refine j_goto (pc := 286) F (tgt := 290) dX8_reads_286 rfl ?_
          exact b_X8_reads_290 F hK hS hA o_6.2 y1 2 y1 hf
      · have hf := of_neg c_5 hf
        refine j_iconst (pc := 270) F (v := 1) dX8_reads_270 rfl ?_
        refine j_goto (pc := 271) F (tgt := 290) dX8_reads_271 rfl ?_
        exact b_X8_reads_290 F hK hS hA o_4.2 y1 1 y1 hf
    · have hf := of_neg c_3 hf
      refine j_iconst (pc := 255) F (v := 0) dX8_reads_255 rfl ?_
      refine j_goto (pc := 256) F (tgt := 290) dX8_reads_256 rfl ?_
      exact b_X8_reads_290 F hK hS hA o_2.2 y1 0 y1 hf
set_option maxHeartbeats 4000000 in
set_option maxRecDepth 100000 in
theorem b_X8_reads_205 {l : Launch} {D : va_G} {cy : Nat → ClassId} {g : Gs} {p : Program} {e : Env} {s : State} {m : MethodId} {args : Array Value} {below : List Frame} {meth : Method} {c : Code} {A : Nat → Prop} {aM : Nat → Nat} {N : Nat} {out : (St2 × (Nat → Int64))} (F : Fx p s m args meth c cX8_reads RX8 5 none) (hK : va_K D vwCl (tys cy) s) (hS : St g A s s.heap) (hA : ∀ q, s.heap.size ≤ q → A q) :
    ∀ (σM : St2 × (Nat → Int64)) (y1 : Int32), f_X8_reads_205 N σM y1 = some out → J p l e { frames := 4, cells := 0, slots := 0, locals := 83 } s m args below meth c 5 (hW D A s (wM aM cy σM)) 0 0 (MQ below (QW D A none (wM aM cy out)) args s 0 0 A) 205 [(0, .ref (aM 0)), (1, .int y1)] [] := by
  intro σM y1 hf
  unfold f_X8_reads_205 at hf
  refine j_aload_n (pc := 205) F 0 dX8_reads_205 rfl rfl ?_
  refine jw_get (pc := 206) (v := .int (σM.1 0 18)) F hK ix_8 0 rfl rfl 18 (by decide) tm_833 rfl rfl dX8_reads_206 ?_
  refine j_if_ne (pc := 209) (tgt := 232) F dX8_reads_209 rfl (fun c_1 => ?_) (fun c_1 => ?_)
  · have hf := of_neg c_1 hf
    exact b_X8_reads_232 F hK hS hA σM y1 hf
  · have hf := of_pos c_1 hf
    refine j_aload_n (pc := 212) F 0 dX8_reads_212 rfl rfl ?_
    refine j_aload_n (pc := 213) F 0 dX8_reads_213 rfl rfl ?_
    refine jw_get (pc := 214) (v := .ref (aM 47)) F hK ix_8 0 rfl rfl 46 (by decide) tm_861 rfl rfl dX8_reads_214 ?_
    obtain ⟨o_2, ho_2, hf⟩ := of_bnd hf
    refine j_callWs (pc := 217) (st := []) (st1 := [.int (bI o_2.1)]) (w' := wM aM cy o_2.2) F hK hS hA (c_X8_takes (l := l) (D := D) (cy := cy) (g := g) (aM := aM) (hkw := by decide) ho_2) tm_1109 cf_X8_takes (Nat.le_of_ble_eq_true rfl) (Nat.le_of_ble_eq_true rfl) ⟨Nat.zero_le _, Nat.zero_le _⟩ 0 rfl rfl rfl rfl rfl (Nat.le_of_ble_eq_true rfl) rfl dX8_reads_217 ?_
    refine j_if_ne (pc := 220) (tgt := 232) F dX8_reads_220 rfl (fun c_3 => ?_) (fun c_3 => ?_)
    · have hf := of_neg c_3 hf
      exact b_X8_reads_232 F hK hS hA o_2.2 y1 hf
    · have hf := of_pos c_3 hf
      refine j_aload_n (pc := 223) F 0 dX8_reads_223 rfl rfl ?_
      refine j_iconst (pc := 224) F (v := 1) dX8_reads_224 rfl ?_
      refine j_aload_n (pc := 225) F 0 dX8_reads_225 rfl rfl ?_
      refine jw_get (pc := 226) (v := .int (o_2.2.1 0 15)) F hK ix_8 0 rfl rfl 15 (by decide) tm_830 rfl rfl dX8_reads_226 ?_
      refine j_callWs (pc := 229) (st := []) (st1 := []) (w' := wM aM cy (f_X8_fail o_2.2 1 (o_2.2.1 0 15))) F hK hS hA (c_X8_fail (l := l) (D := D) (cy := cy) (g := g) (aM := aM) (rfl : f_X8_fail o_2.2 1 (o_2.2.1 0 15) = _)) tm_1121 cf_X8_fail (Nat.le_of_ble_eq_true rfl) (Nat.le_of_ble_eq_true rfl) ⟨Nat.zero_le _, Nat.zero_le _⟩ 0 rfl rfl rfl rfl rfl (Nat.le_of_ble_eq_true rfl) rfl dX8_reads_229 ?_
      exact b_X8_reads_232 F hK hS hA (f_X8_fail o_2.2 1 (o_2.2.1 0 15)) y1 hf
set_option maxHeartbeats 4000000 in
set_option maxRecDepth 100000 in
theorem b_X8_reads_41 {l : Launch} {D : va_G} {cy : Nat → ClassId} {g : Gs} {p : Program} {e : Env} {s : State} {m : MethodId} {args : Array Value} {below : List Frame} {meth : Method} {c : Code} {A : Nat → Prop} {aM : Nat → Nat} {N : Nat} {out : (St2 × (Nat → Int64))} (F : Fx p s m args meth c cX8_reads RX8 5 none) (hK : va_K D vwCl (tys cy) s) (hS : St g A s s.heap) (hA : ∀ q, s.heap.size ≤ q → A q) :
    ∀ (n : Nat) (σM : St2 × (Nat → Int64)) (y1 : Int32) (y2 : Int32), f_X8_reads_41 N n σM y1 y2 = some out → J p l e { frames := 4, cells := 0, slots := 0, locals := 83 } s m args below meth c 5 (hW D A s (wM aM cy σM)) 0 0 (MQ below (QW D A none (wM aM cy out)) args s 0 0 A) 41 [(0, .ref (aM 0)), (1, .int y1), (2, .int y2)] [] := by
  intro n
  induction n with
  | zero =>
    intro σM y1 y2 hf
    cases hf
  | succ n ih =>
    intro σM y1 y2 hf
    rw [f_X8_reads_41] at hf
    refine j_iload_n (pc := 41) F 2 dX8_reads_41 rfl rfl ?_
    refine j_if_eq (pc := 42) (tgt := 205) F dX8_reads_42 rfl (fun c_1 => ?_) (fun c_1 => ?_)
    · have hf := of_pos c_1 hf
      refine j_sub [0, 1] rfl ?_
      exact b_X8_reads_205 F hK hS hA σM y1 hf
    · have hf := of_neg c_1 hf
      refine j_aload_n (pc := 45) F 0 dX8_reads_45 rfl rfl ?_
      refine jw_get (pc := 46) (v := .int (σM.1 0 18)) F hK ix_8 0 rfl rfl 18 (by decide) tm_833 rfl rfl dX8_reads_46 ?_
      refine j_if_ne (pc := 49) (tgt := 205) F dX8_reads_49 rfl (fun c_2 => ?_) (fun c_2 => ?_)
      · have hf := of_neg c_2 hf
        refine j_sub [0, 1] rfl ?_
        exact b_X8_reads_205 F hK hS hA σM y1 hf
      · have hf := of_pos c_2 hf
        refine j_aload_n (pc := 52) F 0 dX8_reads_52 rfl rfl ?_
        obtain ⟨o_3, ho_3, hf⟩ := of_bnd hf
        refine j_callWs (pc := 53) (st := []) (st1 := [.int o_3.1]) (w' := wM aM cy o_3.2) F hK hS hA (c_X8_next_ (l := l) (D := D) (cy := cy) (g := g) (aM := aM) ho_3) tm_1113 cf_X8_next_ (Nat.le_of_ble_eq_true rfl) (Nat.le_of_ble_eq_true rfl) ⟨Nat.zero_le _, Nat.zero_le _⟩ 0 rfl rfl rfl rfl rfl (Nat.le_of_ble_eq_true rfl) rfl dX8_reads_53 ?_
        refine j_pop (pc := 56) F dX8_reads_56 rfl ?_
        refine j_aload_n (pc := 57) F 0 dX8_reads_57 rfl rfl ?_
        refine jw_get (pc := 58) (v := .int (o_3.2.1 0 15)) F hK ix_8 0 rfl rfl 15 (by decide) tm_830 rfl rfl dX8_reads_58 ?_
        refine j_istore_n (pc := 61) (lv' := [(3, .int (o_3.2.1 0 15)), (0, .ref (aM 0)), (1, .int y1), (2, .int y2)]) F dX8_reads_61 rfl (by decide) rfl ?_
        refine j_aload_n (pc := 62) F 1 dX8_reads_62 rfl rfl ?_
        obtain ⟨o_4, ho_4, hf⟩ := of_bnd hf
        refine j_callWs (pc := 63) (st := []) (st1 := [.int o_4.1]) (w' := wM aM cy o_4.2) F hK hS hA (c_X8_partOf (l := l) (D := D) (cy := cy) (g := g) (aM := aM) ho_4) tm_1125 cf_X8_partOf (Nat.le_of_ble_eq_true rfl) (Nat.le_of_ble_eq_true rfl) ⟨Nat.zero_le _, Nat.zero_le _⟩ 0 rfl rfl rfl rfl rfl (Nat.le_of_ble_eq_true rfl) rfl dX8_reads_63 ?_
        refine j_istore (pc := 66) (lv' := [(4, .int o_4.1), (3, .int (o_3.2.1 0 15)), (0, .ref (aM 0)), (1, .int y1), (2, .int y2)]) F dX8_reads_66 (by decide) rfl ?_
        refine j_iload (pc := 68) F 0 dX8_reads_68 rfl ?_
        refine j_iconst (pc := 70) F (v := (-1)) dX8_reads_70 rfl ?_
        refine j_icmp_ne (pc := 71) (tgt := 79) F dX8_reads_71 rfl (fun c_5 => ?_) (fun c_5 => ?_)
        · have hf := of_neg c_5 hf
          refine j_aload_n (pc := 79) F 2 dX8_reads_79 rfl rfl ?_
          refine jw_get (pc := 80) (v := .ref (aM 29)) F hK ix_8 0 rfl rfl 28 (by decide) tm_843 rfl rfl dX8_reads_80 ?_
          refine j_iconst (pc := 83) F (v := 4) dX8_reads_83 rfl ?_
          refine j_iload_n (pc := 84) F 3 dX8_reads_84 rfl rfl ?_
          refine j_imul (pc := 85) F dX8_reads_85 ?_
          refine j_iload (pc := 86) F 0 dX8_reads_86 rfl ?_
          refine j_iadd (pc := 88) F dX8_reads_88 ?_
          have c_6 : ¬ (((4 * y1) + o_4.1) < 0 ∨ 36 ≤ Int32.toNatClampNeg ((4 * y1) + o_4.1)) := fun z => by rw [if_pos z] at hf; cases hf
          have hf := of_neg c_6 hf
          refine jw_iald (pc := 89) F hK 11 rfl c_6 dX8_reads_89 ?_
          refine j_iconst (pc := 90) F (v := (-1)) dX8_reads_90 rfl ?_
          refine j_icmp_eq (pc := 91) (tgt := 100) F dX8_reads_91 rfl (fun c_7 => ?_) (fun c_7 => ?_)
          · have hf := of_pos c_7 hf
            refine j_sub [2, 3, 4, 0] rfl ?_
            exact b_X8_reads_100 F hK hS hA ih o_4.2 y1 y2 o_4.1 hf
          · have hf := of_neg c_7 hf
            refine j_aload_n (pc := 94) F 2 dX8_reads_94 rfl rfl ?_
            refine j_iconst (pc := 95) F (v := 2) dX8_reads_95 rfl ?_
            refine j_iload_n (pc := 96) F 1 dX8_reads_96 rfl rfl ?_
            refine j_callWs (pc := 97) (st := []) (st1 := []) (w' := wM aM cy (f_X8_fail o_4.2 2 (o_3.2.1 0 15))) F hK hS hA (c_X8_fail (l := l) (D := D) (cy := cy) (g := g) (aM := aM) (rfl : f_X8_fail o_4.2 2 (o_3.2.1 0 15) = _)) tm_1121 cf_X8_fail (Nat.le_of_ble_eq_true rfl) (Nat.le_of_ble_eq_true rfl) ⟨Nat.zero_le _, Nat.zero_le _⟩ 0 rfl rfl rfl rfl rfl (Nat.le_of_ble_eq_true rfl) rfl dX8_reads_97 ?_
            refine j_sub [2, 3, 4, 0] rfl ?_
            exact b_X8_reads_100 F hK hS hA ih (f_X8_fail o_4.2 2 (o_3.2.1 0 15)) y1 y2 o_4.1 hf
        · have hf := of_pos c_5 hf
          refine j_iconst (pc := 74) F (v := 0) dX8_reads_74 rfl ?_
          refine j_istore_n (pc := 75) (lv' := [(2, .int 0), (4, .int o_4.1), (3, .int (o_3.2.1 0 15)), (0, .ref (aM 0)), (1, .int y1)]) F dX8_reads_75 rfl (by decide) rfl ?_
          refine j_goto (pc := 76) F (tgt := 41) dX8_reads_76 rfl ?_
          refine j_sub [3, 4, 0] rfl ?_
          exact ih o_4.2 y1 0 hf
set_option maxHeartbeats 4000000 in
set_option maxRecDepth 100000 in
theorem b_X8_reads_12 {l : Launch} {D : va_G} {cy : Nat → ClassId} {g : Gs} {p : Program} {e : Env} {s : State} {m : MethodId} {args : Array Value} {below : List Frame} {meth : Method} {c : Code} {A : Nat → Prop} {aM : Nat → Nat} {N : Nat} {out : (St2 × (Nat → Int64))} (F : Fx p s m args meth c cX8_reads RX8 5 none) (hK : va_K D vwCl (tys cy) s) (hS : St g A s s.heap) (hA : ∀ q, s.heap.size ≤ q → A q) :
    ∀ (n : Nat) (σM : St2 × (Nat → Int64)) (y1 : Int32) (y2 : Int32), f_X8_reads_12 N n σM y1 y2 = some out → J p l e { frames := 4, cells := 0, slots := 0, locals := 83 } s m args below meth c 5 (hW D A s (wM aM cy σM)) 0 0 (MQ below (QW D A none (wM aM cy out)) args s 0 0 A) 12 [(0, .ref (aM 0)), (1, .int y1), (2, .int y2)] [] := by
  intro n
  induction n with
  | zero =>
    intro σM y1 y2 hf
    cases hf
  | succ n ih =>
    intro σM y1 y2 hf
    rw [f_X8_reads_12] at hf
    refine j_iload_n (pc := 12) F 2 dX8_reads_12 rfl rfl ?_
    refine j_iconst (pc := 13) F (v := 4) dX8_reads_13 rfl ?_
    refine j_icmp_ge (pc := 14) (tgt := 34) F dX8_reads_14 rfl (fun c_1 => ?_) (fun c_1 => ?_)
    · have hf := of_pos c_1 hf
      refine j_aload_n (pc := 34) F 0 dX8_reads_34 rfl rfl ?_
      refine j_iconst (pc := 35) F (v := (-1)) dX8_reads_35 rfl ?_
      refine jw_put (pc := 36) (w' := wM aM cy (up2 σM.1 0 33 (-1), σM.2)) F hK ix_8 tyX8 tyX8_ok nmX8 0 rfl rfl 33 (by decide) tm_848 rfl rfl rfl rfl rfl (Nat.le_of_ble_eq_true rfl) (wM_put_33 _ _ _ _) dX8_reads_36 ?_
      refine j_iconst (pc := 39) F (v := 1) dX8_reads_39 rfl ?_
      refine j_istore_n (pc := 40) (lv' := [(2, .int 1), (0, .ref (aM 0)), (1, .int y1)]) F dX8_reads_40 rfl (by decide) rfl ?_
      refine j_sub [1, 2, 0] rfl ?_
      exact b_X8_reads_41 F hK hS hA N (up2 σM.1 0 33 (-1), σM.2) y1 1 hf
    · have hf := of_neg c_1 hf
      refine j_aload_n (pc := 17) F 0 dX8_reads_17 rfl rfl ?_
      refine jw_get (pc := 18) (v := .ref (aM 29)) F hK ix_8 0 rfl rfl 28 (by decide) tm_843 rfl rfl dX8_reads_18 ?_
      refine j_iconst (pc := 21) F (v := 4) dX8_reads_21 rfl ?_
      refine j_iload_n (pc := 22) F 1 dX8_reads_22 rfl rfl ?_
      refine j_imul (pc := 23) F dX8_reads_23 ?_
      refine j_iload_n (pc := 24) F 2 dX8_reads_24 rfl rfl ?_
      refine j_iadd (pc := 25) F dX8_reads_25 ?_
      refine j_iconst (pc := 26) F (v := (-1)) dX8_reads_26 rfl ?_
      have c_2 : ¬ (((4 * y1) + y2) < 0 ∨ 36 ≤ Int32.toNatClampNeg ((4 * y1) + y2)) := fun z => by rw [if_pos z] at hf; cases hf
      have hf := of_neg c_2 hf
      refine jw_iast (pc := 27) (w' := wM aM cy (up2 σM.1 29 (Int32.toNatClampNeg ((4 * y1) + y2)) (-1), σM.2)) F hK 11 rfl c_2 (wM_row_29 _ _ _ _ _) dX8_reads_27 ?_
      refine j_iinc (pc := 28) (v := y2 + 1) (lv' := [(2, .int (y2 + 1)), (0, .ref (aM 0)), (1, .int y1)]) F 2 dX8_reads_28 rfl rfl (by decide) rfl ?_
      refine j_goto (pc := 31) F (tgt := 12) dX8_reads_31 rfl ?_
      refine j_sub [1, 2, 0] rfl ?_
      exact ih (up2 σM.1 29 (Int32.toNatClampNeg ((4 * y1) + y2)) (-1), σM.2) y1 (y2 + 1) hf
set_option maxHeartbeats 4000000 in
set_option maxRecDepth 100000 in
theorem c_X8_reads {l : Launch} {D : va_G} {cy : Nat → ClassId} {g : Gs} {aM : Nat → Nat} {σM : St2 × (Nat → Int64)} {N : Nat} {x1 : Int32} {out : (St2 × (Nat → Int64))} (hf : f_X8_reads N σM x1 = some out) : CW l D cy g yX8_reads cX8_reads 5 none 4 83 (wM aM cy σM) [.ref (aM 0), .int x1] none (wM aM cy out) := by
  unfold f_X8_reads at hf
  refine met_W (lv := [(0, .ref (aM 0)), (1, .int x1)]) (by decide) (Nat.le_of_ble_eq_true rfl) rfl ?_
  intro p e s m args below meth c A F hK hS hA
  refine j_aload_n (pc := 0) F 0 dX8_reads_0 rfl rfl ?_
  refine jw_get (pc := 1) (v := .ref (aM 28)) F hK ix_8 0 rfl rfl 27 (by decide) tm_842 rfl rfl dX8_reads_1 ?_
  refine j_iload_n (pc := 4) F 1 dX8_reads_4 rfl rfl ?_
  refine j_aload_n (pc := 5) F 0 dX8_reads_5 rfl rfl ?_
  obtain ⟨o_1, ho_1, hf⟩ := of_bnd hf
  refine j_callWs (pc := 6) (st := [.int x1, .ref (aM 28)]) (st1 := [.int o_1.1, .int x1, .ref (aM 28)]) (w' := wM aM cy o_1.2) F hK hS hA (c_X8_whats (l := l) (D := D) (cy := cy) (g := g) (aM := aM) ho_1) tm_1105 cf_X8_whats (Nat.le_of_ble_eq_true rfl) (Nat.le_of_ble_eq_true rfl) ⟨Nat.zero_le _, Nat.zero_le _⟩ 0 rfl rfl rfl rfl rfl (Nat.le_of_ble_eq_true rfl) rfl dX8_reads_6 ?_
  have c_2 : ¬ (x1 < 0 ∨ 9 ≤ Int32.toNatClampNeg x1) := fun z => by rw [if_pos z] at hf; cases hf
  have hf := of_neg c_2 hf
  refine jw_iast (pc := 9) (w' := wM aM cy (up2 o_1.2.1 28 (Int32.toNatClampNeg x1) o_1.1, o_1.2.2)) F hK 10 rfl c_2 (wM_row_28 _ _ _ _ _) dX8_reads_9 ?_
  refine j_iconst (pc := 10) F (v := 0) dX8_reads_10 rfl ?_
  refine j_istore_n (pc := 11) (lv' := [(2, .int 0), (0, .ref (aM 0)), (1, .int x1)]) F dX8_reads_11 rfl (by decide) rfl ?_
  refine j_sub [1, 2, 0] rfl ?_
  exact b_X8_reads_12 F hK hS hA N (up2 o_1.2.1 28 (Int32.toNatClampNeg x1) o_1.1, o_1.2.2) x1 0 hf
theorem cf_X8_reads : cfV yX8_reads cX8_reads 5 none 1 := ⟨tm_1103, tm_39, tm_60, tm_1104, by decide, by decide, by decide +kernel⟩
