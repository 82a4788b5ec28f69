def f_X7_isEast (x0 : Int32) : Bool := if x0 < (-720) then false else if 720 < x0 then false else true
set_option maxHeartbeats 4000000 in
set_option maxRecDepth 100000 in
theorem c_X7_isEast {l : Launch} {D : va_G} {cy : Nat → ClassId} {g : Gs} {x0 : Int32} {out : Bool} (hf : f_X7_isEast x0 = out) : CR l D cy g yX7_isEast cX7_isEast 1 (some .boolean) 0 0 ([]) [.int x0] (some (.int (bI out))) := by
  unfold f_X7_isEast at hf
  refine met_R (lv := [(0, .int x0)]) (by decide) (Nat.le_of_ble_eq_true rfl) rfl ?_
  intro p e s m args below meth c F hP hK hS
  refine j_iload_n (pc := 0) F 0 dX7_isEast_0 rfl rfl ?_
  refine j_sipush (pc := 1) F (v := (-720)) dX7_isEast_1 rfl ?_
  refine j_icmp_lt (pc := 4) (tgt := 18) F dX7_isEast_4 rfl (fun c_1 => ?_) (fun c_1 => ?_)
  · have hf := of_pos c_1 hf
    refine j_iconst (pc := 18) F (v := 0) dX7_isEast_18 rfl ?_
    exact j_zretR (pc := 19) F dX7_isEast_19 (congrArg bI hf)
  · have hf := of_neg c_1 hf
    refine j_iload_n (pc := 7) F 0 dX7_isEast_7 rfl rfl ?_
    refine j_sipush (pc := 8) F (v := 720) dX7_isEast_8 rfl ?_
    refine j_icmp_gt (pc := 11) (tgt := 18) F dX7_isEast_11 rfl (fun c_2 => ?_) (fun c_2 => ?_)
    · have hf := of_pos c_2 hf
      refine j_iconst (pc := 18) F (v := 0) dX7_isEast_18 rfl ?_
      exact j_zretR (pc := 19) F dX7_isEast_19 (congrArg bI hf)
    · have hf := of_neg c_2 hf
      refine j_iconst (pc := 14) F (v := 1) dX7_isEast_14 rfl ?_
      refine j_goto (pc := 15) F (tgt := 19) dX7_isEast_15 rfl ?_
      exact j_zretR (pc := 19) F dX7_isEast_19 (congrArg bI hf)
theorem cf_X7_isEast : cfS yX7_isEast cX7_isEast 1 (some .boolean) 1 := ⟨tm_391, tm_53, tm_392, by decide, by decide, by decide +kernel⟩

def f_X7_isSlow (x0 : Int32) : Bool := if x0 < 0 then false else if 60 < x0 then false else true
set_option maxHeartbeats 4000000 in
set_option maxRecDepth 100000 in
theorem c_X7_isSlow {l : Launch} {D : va_G} {cy : Nat → ClassId} {g : Gs} {x0 : Int32} {out : Bool} (hf : f_X7_isSlow x0 = out) : CR l D cy g yX7_isSlow cX7_isSlow 1 (some .boolean) 0 0 ([]) [.int x0] (some (.int (bI out))) := by
  unfold f_X7_isSlow at hf
  refine met_R (lv := [(0, .int x0)]) (by decide) (Nat.le_of_ble_eq_true rfl) rfl ?_
  intro p e s m args below meth c F hP hK hS
  refine j_iload_n (pc := 0) F 0 dX7_isSlow_0 rfl rfl ?_
  refine j_if_lt (pc := 1) (tgt := 14) F dX7_isSlow_1 rfl (fun c_1 => ?_) (fun c_1 => ?_)
  · have hf := of_pos c_1 hf
    refine j_iconst (pc := 14) F (v := 0) dX7_isSlow_14 rfl ?_
    exact j_zretR (pc := 15) F dX7_isSlow_15 (congrArg bI hf)
  · have hf := of_neg c_1 hf
    refine j_iload_n (pc := 4) F 0 dX7_isSlow_4 rfl rfl ?_
    refine j_bipush (pc := 5) F (v := 60) dX7_isSlow_5 rfl ?_
    refine j_icmp_gt (pc := 7) (tgt := 14) F dX7_isSlow_7 rfl (fun c_2 => ?_) (fun c_2 => ?_)
    · have hf := of_pos c_2 hf
      refine j_iconst (pc := 14) F (v := 0) dX7_isSlow_14 rfl ?_
      exact j_zretR (pc := 15) F dX7_isSlow_15 (congrArg bI hf)
    · have hf := of_neg c_2 hf
      refine j_iconst (pc := 10) F (v := 1) dX7_isSlow_10 rfl ?_
      refine j_goto (pc := 11) F (tgt := 15) dX7_isSlow_11 rfl ?_
      exact j_zretR (pc := 15) F dX7_isSlow_15 (congrArg bI hf)
theorem cf_X7_isSlow : cfS yX7_isSlow cX7_isSlow 1 (some .boolean) 1 := ⟨tm_394, tm_53, tm_395, by decide, by decide, by decide +kernel⟩

def f_X7_tables (σS : St2) (σT : St2) (σR : St2) (σV : St2 × (Nat → Nat)) (σQ : Nat → (St2 × Int64)) (σD : St2) (ra : Value) (x1 : Int32) (x2 : Int32) (x3 : Int32) : Bool × St2 := (((f_X5_setTables σS x1 x2 x3).1), (f_X5_setTables σS x1 x2 x3).2)
set_option maxHeartbeats 4000000 in
set_option maxRecDepth 100000 in
theorem c_X7_tables {l : Launch} {D : va_G} {cy : Nat → ClassId} {g : Gs} {aH : Nat → Nat} {aS : Nat → Nat} {aT : Nat → Nat} {aR : Nat → Nat} {aV : Nat → Nat} {aD : Nat → Nat} {aQ : Nat → Nat → Nat} {σS : St2} {σT : St2} {σR : St2} {σV : St2 × (Nat → Nat)} {σQ : Nat → (St2 × Int64)} {σD : St2} {ra : Value} {x1 : Int32} {x2 : Int32} {x3 : Int32} {out : Bool × St2} (hf : f_X7_tables σS σT σR σV σQ σD ra x1 x2 x3 = out) : CW l D cy g yX7_tables cX7_tables 4 (some .boolean) 2 43 (wHs aH aS aT aR aV aD aQ cy σS σT σR σV σQ σD ra) [.ref (aH 0), .int x1, .int x2, .int x3] (some (.int (bI out.1))) (wHs aH aS aT aR aV aD aQ cy out.2 σT σR σV σQ σD ra) := by
  unfold f_X7_tables at hf
  refine met_W (lv := [(0, .ref (aH 0)), (1, .int x1), (2, .int x2), (3, .int x3)]) (by decide) (Nat.le_of_ble_eq_true rfl) rfl ?_
  intro p e s m args below meth c A F hK hS hA
  refine j_aload_n (pc := 0) F 0 dX7_tables_0 rfl rfl ?_
  refine jw_get (pc := 1) (v := .ref (aS 0)) F hK ix_7 0 rfl rfl 0 (by decide) tm_226 rfl rfl dX7_tables_1 ?_
  refine j_iload_n (pc := 4) F 1 dX7_tables_4 rfl rfl ?_
  refine j_iload_n (pc := 5) F 2 dX7_tables_5 rfl rfl ?_
  refine j_iload_n (pc := 6) F 3 dX7_tables_6 rfl rfl ?_
  refine j_callWp (pc := 7) (st := []) (st1 := [.int (bI ((f_X5_setTables σS x1 x2 x3).1))]) (w' := wHs aH aS aT aR aV aD aQ cy ((f_X5_setTables σS x1 x2 x3).2) σT σR σV σQ σD ra) F hK hS hA (pm_S _ _ _ _ _ _ _ _ _ _ _ _ _ _) (pm_S _ _ _ _ _ _ _ _ _ _ _ _ _ _) (c_X5_setTables (l := l) (D := D) (cy := cy) (g := g) (aS := aS) (rfl : f_X5_setTables σS x1 x2 x3 = _)) tm_246 cf_X5_setTables (Nat.le_of_ble_eq_true rfl) (Nat.le_of_ble_eq_true rfl) ⟨Nat.zero_le _, Nat.zero_le _⟩ 0 rfl rfl rfl rfl rfl (Nat.le_of_ble_eq_true rfl) rfl dX7_tables_7 ?_
  have hf := hf
  subst hf
  exact j_zretW (pc := 10) F dX7_tables_10 rfl rfl
theorem cf_X7_tables : cfV yX7_tables cX7_tables 4 (some .boolean) 3 := ⟨tm_243, tm_244, tm_53, tm_245, by decide, by decide, by decide +kernel⟩

def f_X7_moon (σS : St2) (σT : St2) (σR : St2) (σV : St2 × (Nat → Nat)) (σQ : Nat → (St2 × Int64)) (σD : St2) (ra : Value) (x1 : Int32) (x2 : Int32) : Option (Int32) := if (bI (f_X5_isMoon x1)) = 0 then some (-1) else if x2 = 0 then some (f_X5_moonPlace σS x1) else if x2 = 1 then some (f_X5_sunPlace σS x1) else if x2 = 2 then some (f_X5_nodePlace σS x1) else if x2 = 3 then (f_X5_timeOf σS x1).bind fun o_10 => some o_10 else if x2 = 4 then some (f_X5_kindOf σS x1) else some (-1)
set_option maxHeartbeats 4000000 in
set_option maxRecDepth 100000 in
theorem c_X7_moon {l : Launch} {D : va_G} {cy : Nat → ClassId} {g : Gs} {aH : Nat → Nat} {aS : Nat → Nat} {aT : Nat → Nat} {aR : Nat → Nat} {aV : Nat → Nat} {aD : Nat → Nat} {aQ : Nat → Nat → Nat} {σS : St2} {σT : St2} {σR : St2} {σV : St2 × (Nat → Nat)} {σQ : Nat → (St2 × Int64)} {σD : St2} {ra : Value} {x1 : Int32} {x2 : Int32} {out : Int32} (hf : f_X7_moon σS σT σR σV σQ σD ra x1 x2 = some out) : CR l D cy g yX7_moon cX7_moon 3 (some .int) 3 67 (wHs aH aS aT aR aV aD aQ cy σS σT σR σV σQ σD ra) [.ref (aH 0), .int x1, .int x2] (some (.int out)) := by
  unfold f_X7_moon at hf
  refine met_R (lv := [(0, .ref (aH 0)), (1, .int x1), (2, .int x2)]) (by decide) (Nat.le_of_ble_eq_true rfl) rfl ?_
  intro p e s m args below meth c F hP hK hS
  refine j_iload_n (pc := 0) F 1 dX7_moon_0 rfl rfl ?_
  refine j_callRS (pc := 1) (st := []) (st1 := [.int (bI (f_X5_isMoon x1))]) F hK (hpR hP hS hp_nil) (c_X5_isMoon (l := l) (D := D) (cy := cy) (g := g) (rfl : f_X5_isMoon x1 = _)) tm_258 cf_X5_isMoon (Nat.le_of_ble_eq_true rfl) (Nat.le_of_ble_eq_true rfl) ⟨Nat.zero_le _, Nat.zero_le _⟩ rfl rfl (Nat.le_of_ble_eq_true rfl) rfl dX7_moon_1 ?_
  refine j_if_ne (pc := 4) (tgt := 9) F dX7_moon_4 rfl (fun c_2 => ?_) (fun c_2 => ?_)
  · have hf := of_neg c_2 hf
    refine j_iload_n (pc := 9) F 2 dX7_moon_9 rfl rfl ?_
    by_cases c_3 : x2 = 0
    · have hf := of_pos c_3 hf
      refine j_tabIn (pc := 10) (tgt := 44) F 0 dX7_moon_10 c_3 (by decide) (by decide) rfl rfl ?_
      refine j_aload_n (pc := 44) F 0 dX7_moon_44 rfl rfl ?_
      refine jr_get (pc := 45) (v := .ref (aS 0)) F hK hP ix_7 0 rfl rfl 0 (by decide) tm_226 rfl rfl dX7_moon_45 ?_
      refine j_iload_n (pc := 48) F 1 dX7_moon_48 rfl rfl ?_
      refine j_callRV (pc := 49) (st := []) (st1 := [.int (f_X5_moonPlace σS x1)]) F hK (hpR hP hS (hp_perm (pm_S _ _ _ _ _ _ _ _ _ _ _ _ _ _))) (c_X5_moonPlace (l := l) (D := D) (cy := cy) (g := g) (aS := aS) (rfl : f_X5_moonPlace σS x1 = _)) tm_261 cf_X5_moonPlace (Nat.le_of_ble_eq_true rfl) (Nat.le_of_ble_eq_true rfl) ⟨Nat.zero_le _, Nat.zero_le _⟩ 0 rfl rfl rfl rfl rfl (Nat.le_of_ble_eq_true rfl) rfl dX7_moon_49 ?_
      exact j_iretR (pc := 52) F dX7_moon_52 (Option.some.inj hf)
    · have hf := of_neg c_3 hf
      by_cases c_5 : x2 = 1
      · have hf := of_pos c_5 hf
        refine j_tabIn (pc := 10) (tgt := 53) F 1 dX7_moon_10 c_5 (by decide) (by decide) rfl rfl ?_
        refine j_aload_n (pc := 53) F 0 dX7_moon_53 rfl rfl ?_
        refine jr_get (pc := 54) (v := .ref (aS 0)) F hK hP ix_7 0 rfl rfl 0 (by decide) tm_226 rfl rfl dX7_moon_54 ?_
        refine j_iload_n (pc := 57) F 1 dX7_moon_57 rfl rfl ?_
        refine j_callRV (pc := 58) (st := []) (st1 := [.int (f_X5_sunPlace σS x1)]) F hK (hpR hP hS (hp_perm (pm_S _ _ _ _ _ _ _ _ _ _ _ _ _ _))) (c_X5_sunPlace (l := l) (D := D) (cy := cy) (g := g) (aS := aS) (rfl : f_X5_sunPlace σS x1 = _)) tm_265 cf_X5_sunPlace (Nat.le_of_ble_eq_true rfl) (Nat.le_of_ble_eq_true rfl) ⟨Nat.zero_le _, Nat.zero_le _⟩ 0 rfl rfl rfl rfl rfl (Nat.le_of_ble_eq_true rfl) rfl dX7_moon_58 ?_
        exact j_iretR (pc := 61) F dX7_moon_61 (Option.some.inj hf)
      · have hf := of_neg c_5 hf
        by_cases c_7 : x2 = 2
        · have hf := of_pos c_7 hf
          refine j_tabIn (pc := 10) (tgt := 62) F 2 dX7_moon_10 c_7 (by decide) (by decide) rfl rfl ?_
          refine j_aload_n (pc := 62) F 0 dX7_moon_62 rfl rfl ?_
          refine jr_get (pc := 63) (v := .ref (aS 0)) F hK hP ix_7 0 rfl rfl 0 (by decide) tm_226 rfl rfl dX7_moon_63 ?_
          refine j_iload_n (pc := 66) F 1 dX7_moon_66 rfl rfl ?_
          refine j_callRV (pc := 67) (st := []) (st1 := [.int (f_X5_nodePlace σS x1)]) F hK (hpR hP hS (hp_perm (pm_S _ _ _ _ _ _ _ _ _ _ _ _ _ _))) (c_X5_nodePlace (l := l) (D := D) (cy := cy) (g := g) (aS := aS) (rfl : f_X5_nodePlace σS x1 = _)) tm_269 cf_X5_nodePlace (Nat.le_of_ble_eq_true rfl) (Nat.le_of_ble_eq_true rfl) ⟨Nat.zero_le _, Nat.zero_le _⟩ 0 rfl rfl rfl rfl rfl (Nat.le_of_ble_eq_true rfl) rfl dX7_moon_67 ?_
          exact j_iretR (pc := 70) F dX7_moon_70 (Option.some.inj hf)
        · have hf := of_neg c_7 hf
          by_cases c_9 : x2 = 3
          · have hf := of_pos c_9 hf
            refine j_tabIn (pc := 10) (tgt := 71) F 3 dX7_moon_10 c_9 (by decide) (by decide) rfl rfl ?_
            refine j_aload_n (pc := 71) F 0 dX7_moon_71 rfl rfl ?_
            refine jr_get (pc := 72) (v := .ref (aS 0)) F hK hP ix_7 0 rfl rfl 0 (by decide) tm_226 rfl rfl dX7_moon_72 ?_
            refine j_iload_n (pc := 75) F 1 dX7_moon_75 rfl rfl ?_
            obtain ⟨o_10, ho_10, hf⟩ := of_bnd hf
            refine j_callRV (pc := 76) (st := []) (st1 := [.int o_10]) F hK (hpR hP hS (hp_perm (pm_S _ _ _ _ _ _ _ _ _ _ _ _ _ _))) (c_X5_timeOf (l := l) (D := D) (cy := cy) (g := g) (aS := aS) ho_10) tm_276 cf_X5_timeOf (Nat.le_of_ble_eq_true rfl) (Nat.le_of_ble_eq_true rfl) ⟨Nat.zero_le _, Nat.zero_le _⟩ 0 rfl rfl rfl rfl rfl (Nat.le_of_ble_eq_true rfl) rfl dX7_moon_76 ?_
            exact j_iretR (pc := 79) F dX7_moon_79 (Option.some.inj hf)
          · have hf := of_neg c_9 hf
            by_cases c_11 : x2 = 4
            · have hf := of_pos c_11 hf
              refine j_tabIn (pc := 10) (tgt := 80) F 4 dX7_moon_10 c_11 (by decide) (by decide) rfl rfl ?_
              refine j_aload_n (pc := 80) F 0 dX7_moon_80 rfl rfl ?_
              refine jr_get (pc := 81) (v := .ref (aS 0)) F hK hP ix_7 0 rfl rfl 0 (by decide) tm_226 rfl rfl dX7_moon_81 ?_
              refine j_iload_n (pc := 84) F 1 dX7_moon_84 rfl rfl ?_
              refine j_callRV (pc := 85) (st := []) (st1 := [.int (f_X5_kindOf σS x1)]) F hK (hpR hP hS (hp_perm (pm_S _ _ _ _ _ _ _ _ _ _ _ _ _ _))) (c_X5_kindOf (l := l) (D := D) (cy := cy) (g := g) (aS := aS) (rfl : f_X5_kindOf σS x1 = _)) tm_295 cf_X5_kindOf (Nat.le_of_ble_eq_true rfl) (Nat.le_of_ble_eq_true rfl) ⟨Nat.zero_le _, Nat.zero_le _⟩ 0 rfl rfl rfl rfl rfl (Nat.le_of_ble_eq_true rfl) rfl dX7_moon_85 ?_
              exact j_iretR (pc := 88) F dX7_moon_88 (Option.some.inj hf)
            · have hf := of_neg c_11 hf
              refine j_tabOut (pc := 10) (n := 4) (tgt := 89) F dX7_moon_10 (by decide) (fun j hj => match j, hj with | 0, _ => c_3 | 1, _ => c_5 | 2, _ => c_7 | 3, _ => c_9 | 4, _ => c_11 | j + 5, hj => absurd hj (by omega)) rfl ?_
              refine j_iconst (pc := 89) F (v := (-1)) dX7_moon_89 rfl ?_
              exact j_iretR (pc := 90) F dX7_moon_90 (Option.some.inj hf)
  · have hf := of_pos c_2 hf
    refine j_iconst (pc := 7) F (v := (-1)) dX7_moon_7 rfl ?_
    exact j_iretR (pc := 8) F dX7_moon_8 (Option.some.inj hf)
theorem cf_X7_moon : cfV yX7_moon cX7_moon 3 (some .int) 2 := ⟨tm_255, tm_256, tm_53, tm_257, by decide, by decide, by decide +kernel⟩

def f_X7_next (N : Nat) (σS : St2) (σT : St2) (σR : St2) (σV : St2 × (Nat → Nat)) (σQ : Nat → (St2 × Int64)) (σD : St2) (ra : Value) (x1 : Int32) (x2 : Int32) (x3 : Int32) : Option (Int32 × St2) := if (bI (f_X5_isMoon x1)) = 0 then some ((-1), σS) else if 1 ≤ x2 then (f_X5_findEclipse N σS x1 x2 x3).bind fun o_4 => some (o_4.1, o_4.2) else some ((-1), σS)
set_option maxHeartbeats 4000000 in
set_option maxRecDepth 100000 in
theorem c_X7_next {l : Launch} {D : va_G} {cy : Nat → ClassId} {g : Gs} {aH : Nat → Nat} {aS : Nat → Nat} {aT : Nat → Nat} {aR : Nat → Nat} {aV : Nat → Nat} {aD : Nat → Nat} {aQ : Nat → Nat → Nat} {σS : St2} {σT : St2} {σR : St2} {σV : St2 × (Nat → Nat)} {σQ : Nat → (St2 × Int64)} {σD : St2} {ra : Value} {N : Nat} {x1 : Int32} {x2 : Int32} {x3 : Int32} {out : Int32 × St2} (hf : f_X7_next N σS σT σR σV σQ σD ra x1 x2 x3 = some out) : CW l D cy g yX7_next cX7_next 4 (some .int) 5 115 (wHs aH aS aT aR aV aD aQ cy σS σT σR σV σQ σD ra) [.ref (aH 0), .int x1, .int x2, .int x3] (some (.int out.1)) (wHs aH aS aT aR aV aD aQ cy out.2 σT σR σV σQ σD ra) := by
  unfold f_X7_next at hf
  refine met_W (lv := [(0, .ref (aH 0)), (1, .int x1), (2, .int x2), (3, .int x3)]) (by decide) (Nat.le_of_ble_eq_true rfl) rfl ?_
  intro p e s m args below meth c A F hK hS hA
  refine j_iload_n (pc := 0) F 1 dX7_next_0 rfl rfl ?_
  refine j_callRS (pc := 1) (st := []) (st1 := [.int (bI (f_X5_isMoon x1))]) F hK (hpW hS hp_nil) (c_X5_isMoon (l := l) (D := D) (cy := cy) (g := g) (rfl : f_X5_isMoon x1 = _)) tm_258 cf_X5_isMoon (Nat.le_of_ble_eq_true rfl) (Nat.le_of_ble_eq_true rfl) ⟨Nat.zero_le _, Nat.zero_le _⟩ rfl rfl (Nat.le_of_ble_eq_true rfl) rfl dX7_next_1 ?_
  refine j_if_eq (pc := 4) (tgt := 12) F dX7_next_4 rfl (fun c_2 => ?_) (fun c_2 => ?_)
  · have hf := of_pos c_2 hf
    refine j_iconst (pc := 12) F (v := (-1)) dX7_next_12 rfl ?_
    have hf := (Option.some.inj hf)
    subst hf
    exact j_iretW (pc := 13) F dX7_next_13 rfl rfl
  · have hf := of_neg c_2 hf
    refine j_iload_n (pc := 7) F 2 dX7_next_7 rfl rfl ?_
    refine j_iconst (pc := 8) F (v := 1) dX7_next_8 rfl ?_
    refine j_icmp_ge (pc := 9) (tgt := 14) F dX7_next_9 rfl (fun c_3 => ?_) (fun c_3 => ?_)
    · have hf := of_pos c_3 hf
      refine j_aload_n (pc := 14) F 0 dX7_next_14 rfl rfl ?_
      refine jw_get (pc := 15) (v := .ref (aS 0)) F hK ix_7 0 rfl rfl 0 (by decide) tm_226 rfl rfl dX7_next_15 ?_
      refine j_iload_n (pc := 18) F 1 dX7_next_18 rfl rfl ?_
      refine j_iload_n (pc := 19) F 2 dX7_next_19 rfl rfl ?_
      refine j_iload_n (pc := 20) F 3 dX7_next_20 rfl rfl ?_
      obtain ⟨o_4, ho_4, hf⟩ := of_bnd hf
      refine j_callWp (pc := 21) (st := []) (st1 := [.int o_4.1]) (w' := wHs aH aS aT aR aV aD aQ cy o_4.2 σT σR σV σQ σD ra) F hK hS hA (pm_S _ _ _ _ _ _ _ _ _ _ _ _ _ _) (pm_S _ _ _ _ _ _ _ _ _ _ _ _ _ _) (c_X5_findEclipse (l := l) (D := D) (cy := cy) (g := g) (aS := aS) ho_4) tm_314 cf_X5_findEclipse (Nat.le_of_ble_eq_true rfl) (Nat.le_of_ble_eq_true rfl) ⟨Nat.zero_le _, Nat.zero_le _⟩ 0 rfl rfl rfl rfl rfl (Nat.le_of_ble_eq_true rfl) rfl dX7_next_21 ?_
      have hf := (Option.some.inj hf)
      subst hf
      exact j_iretW (pc := 24) F dX7_next_24 rfl rfl
    · have hf := of_neg c_3 hf
      refine j_iconst (pc := 12) F (v := (-1)) dX7_next_12 rfl ?_
      have hf := (Option.some.inj hf)
      subst hf
      exact j_iretW (pc := 13) F dX7_next_13 rfl rfl
theorem cf_X7_next : cfV yX7_next cX7_next 4 (some .int) 3 := ⟨tm_311, tm_312, tm_53, tm_313, by decide, by decide, by decide +kernel⟩

def f_X7_round (N : Nat) (σS : St2) (σT : St2) (σR : St2) (σV : St2 × (Nat → Nat)) (σQ : Nat → (St2 × Int64)) (σD : St2) (ra : Value) (x1 : Int32) (x2 : Int32) : Option (Int32) := if (bI (f_X5_isMoon x1)) = 0 then some (-1) else if (f_X5_kindOf σS x1) = 0 then some (-1) else (f_X5_firstOfRound N σS x1).bind fun o_5 => (f_X5_lastOfRound N σS x1).bind fun o_6 => if x2 = 0 then some o_5 else if x2 = 1 then some o_6 else if x2 = 2 then some (((o_6 - o_5) / 446) + 1) else if x2 = 3 then some (((x1 - o_5) / 446) + 1) else some (-1)
set_option maxHeartbeats 4000000 in
set_option maxRecDepth 100000 in
theorem c_X7_round {l : Launch} {D : va_G} {cy : Nat → ClassId} {g : Gs} {aH : Nat → Nat} {aS : Nat → Nat} {aT : Nat → Nat} {aR : Nat → Nat} {aV : Nat → Nat} {aD : Nat → Nat} {aQ : Nat → Nat → Nat} {σS : St2} {σT : St2} {σR : St2} {σV : St2 × (Nat → Nat)} {σQ : Nat → (St2 × Int64)} {σD : St2} {ra : Value} {N : Nat} {x1 : Int32} {x2 : Int32} {out : Int32} (hf : f_X7_round N σS σT σR σV σQ σD ra x1 x2 = some out) : CR l D cy g yX7_round cX7_round 5 (some .int) 4 89 (wHs aH aS aT aR aV aD aQ cy σS σT σR σV σQ σD ra) [.ref (aH 0), .int x1, .int x2] (some (.int out)) := by
  unfold f_X7_round at hf
  refine met_R (lv := [(0, .ref (aH 0)), (1, .int x1), (2, .int x2)]) (by decide) (Nat.le_of_ble_eq_true rfl) rfl ?_
  intro p e s m args below meth c F hP hK hS
  refine j_iload_n (pc := 0) F 1 dX7_round_0 rfl rfl ?_
  refine j_callRS (pc := 1) (st := []) (st1 := [.int (bI (f_X5_isMoon x1))]) F hK (hpR hP hS hp_nil) (c_X5_isMoon (l := l) (D := D) (cy := cy) (g := g) (rfl : f_X5_isMoon x1 = _)) tm_258 cf_X5_isMoon (Nat.le_of_ble_eq_true rfl) (Nat.le_of_ble_eq_true rfl) ⟨Nat.zero_le _, Nat.zero_le _⟩ rfl rfl (Nat.le_of_ble_eq_true rfl) rfl dX7_round_1 ?_
  refine j_if_eq (pc := 4) (tgt := 18) F dX7_round_4 rfl (fun c_2 => ?_) (fun c_2 => ?_)
  · have hf := of_pos c_2 hf
    refine j_iconst (pc := 18) F (v := (-1)) dX7_round_18 rfl ?_
    exact j_iretR (pc := 19) F dX7_round_19 (Option.some.inj hf)
  · have hf := of_neg c_2 hf
    refine j_aload_n (pc := 7) F 0 dX7_round_7 rfl rfl ?_
    refine jr_get (pc := 8) (v := .ref (aS 0)) F hK hP ix_7 0 rfl rfl 0 (by decide) tm_226 rfl rfl dX7_round_8 ?_
    refine j_iload_n (pc := 11) F 1 dX7_round_11 rfl rfl ?_
    refine j_callRV (pc := 12) (st := []) (st1 := [.int (f_X5_kindOf σS x1)]) F hK (hpR hP hS (hp_perm (pm_S _ _ _ _ _ _ _ _ _ _ _ _ _ _))) (c_X5_kindOf (l := l) (D := D) (cy := cy) (g := g) (aS := aS) (rfl : f_X5_kindOf σS x1 = _)) tm_295 cf_X5_kindOf (Nat.le_of_ble_eq_true rfl) (Nat.le_of_ble_eq_true rfl) ⟨Nat.zero_le _, Nat.zero_le _⟩ 0 rfl rfl rfl rfl rfl (Nat.le_of_ble_eq_true rfl) rfl dX7_round_12 ?_
    refine j_if_ne (pc := 15) (tgt := 20) F dX7_round_15 rfl (fun c_4 => ?_) (fun c_4 => ?_)
    · have hf := of_neg c_4 hf
      refine j_aload_n (pc := 20) F 0 dX7_round_20 rfl rfl ?_
      refine jr_get (pc := 21) (v := .ref (aS 0)) F hK hP ix_7 0 rfl rfl 0 (by decide) tm_226 rfl rfl dX7_round_21 ?_
      refine j_iload_n (pc := 24) F 1 dX7_round_24 rfl rfl ?_
      obtain ⟨o_5, ho_5, hf⟩ := of_bnd hf
      refine j_callRV (pc := 25) (st := []) (st1 := [.int o_5]) F hK (hpR hP hS (hp_perm (pm_S _ _ _ _ _ _ _ _ _ _ _ _ _ _))) (c_X5_firstOfRound (l := l) (D := D) (cy := cy) (g := g) (aS := aS) ho_5) tm_332 cf_X5_firstOfRound (Nat.le_of_ble_eq_true rfl) (Nat.le_of_ble_eq_true rfl) ⟨Nat.zero_le _, Nat.zero_le _⟩ 0 rfl rfl rfl rfl rfl (Nat.le_of_ble_eq_true rfl) rfl dX7_round_25 ?_
      refine j_istore_n (pc := 28) (lv' := [(3, .int o_5), (0, .ref (aH 0)), (1, .int x1), (2, .int x2)]) F dX7_round_28 rfl (by decide) rfl ?_
      refine j_aload_n (pc := 29) F 1 dX7_round_29 rfl rfl ?_
      refine jr_get (pc := 30) (v := .ref (aS 0)) F hK hP ix_7 0 rfl rfl 0 (by decide) tm_226 rfl rfl dX7_round_30 ?_
      refine j_iload_n (pc := 33) F 2 dX7_round_33 rfl rfl ?_
      obtain ⟨o_6, ho_6, hf⟩ := of_bnd hf
      refine j_callRV (pc := 34) (st := []) (st1 := [.int o_6]) F hK (hpR hP hS (hp_perm (pm_S _ _ _ _ _ _ _ _ _ _ _ _ _ _))) (c_X5_lastOfRound (l := l) (D := D) (cy := cy) (g := g) (aS := aS) ho_6) tm_336 cf_X5_lastOfRound (Nat.le_of_ble_eq_true rfl) (Nat.le_of_ble_eq_true rfl) ⟨Nat.zero_le _, Nat.zero_le _⟩ 0 rfl rfl rfl rfl rfl (Nat.le_of_ble_eq_true rfl) rfl dX7_round_34 ?_
      refine j_istore (pc := 37) (lv' := [(4, .int o_6), (3, .int o_5), (0, .ref (aH 0)), (1, .int x1), (2, .int x2)]) F dX7_round_37 (by decide) rfl ?_
      refine j_iload_n (pc := 39) F 4 dX7_round_39 rfl rfl ?_
      by_cases c_7 : x2 = 0
      · have hf := of_pos c_7 hf
        refine j_tabIn (pc := 40) (tgt := 72) F 0 dX7_round_40 c_7 (by decide) (by decide) rfl rfl ?_
        refine j_iload_n (pc := 72) F 1 dX7_round_72 rfl rfl ?_
        exact j_iretR (pc := 73) F dX7_round_73 (Option.some.inj hf)
      · have hf := of_neg c_7 hf
        by_cases c_8 : x2 = 1
        · have hf := of_pos c_8 hf
          refine j_tabIn (pc := 40) (tgt := 74) F 1 dX7_round_40 c_8 (by decide) (by decide) rfl rfl ?_
          refine j_iload (pc := 74) F 0 dX7_round_74 rfl ?_
          exact j_iretR (pc := 76) F dX7_round_76 (Option.some.inj hf)
        · have hf := of_neg c_8 hf
          by_cases c_9 : x2 = 2
          · have hf := of_pos c_9 hf
            refine j_tabIn (pc := 40) (tgt := 77) F 2 dX7_round_40 c_9 (by decide) (by decide) rfl rfl ?_
            refine j_iload (pc := 77) F 0 dX7_round_77 rfl ?_
            refine j_iload_n (pc := 79) F 1 dX7_round_79 rfl rfl ?_
            refine j_isub (pc := 80) F dX7_round_80 ?_
            refine j_sipush (pc := 81) F (v := 446) dX7_round_81 rfl ?_
            refine j_idiv (pc := 84) F dX7_round_84 (by decide) ?_
            refine j_iconst (pc := 85) F (v := 1) dX7_round_85 rfl ?_
            refine j_iadd (pc := 86) F dX7_round_86 ?_
            exact j_iretR (pc := 87) F dX7_round_87 (Option.some.inj hf)
          · have hf := of_neg c_9 hf
            by_cases c_10 : x2 = 3
            · have hf := of_pos c_10 hf
              refine j_tabIn (pc := 40) (tgt := 88) F 3 dX7_round_40 c_10 (by decide) (by decide) rfl rfl ?_
              refine j_iload_n (pc := 88) F 3 dX7_round_88 rfl rfl ?_
              refine j_iload_n (pc := 89) F 1 dX7_round_89 rfl rfl ?_
              refine j_isub (pc := 90) F dX7_round_90 ?_
              refine j_sipush (pc := 91) F (v := 446) dX7_round_91 rfl ?_
              refine j_idiv (pc := 94) F dX7_round_94 (by decide) ?_
              refine j_iconst (pc := 95) F (v := 1) dX7_round_95 rfl ?_
              refine j_iadd (pc := 96) F dX7_round_96 ?_
              exact j_iretR (pc := 97) F dX7_round_97 (Option.some.inj hf)
            · have hf := of_neg c_10 hf
              refine j_tabOut (pc := 40) (n := 3) (tgt := 98) F dX7_round_40 (by decide) (fun j hj => match j, hj with | 0, _ => c_7 | 1, _ => c_8 | 2, _ => c_9 | 3, _ => c_10 | j + 4, hj => absurd hj (by omega)) rfl ?_
              refine j_iconst (pc := 98) F (v := (-1)) dX7_round_98 rfl ?_
              exact j_iretR (pc := 99) F dX7_round_99 (Option.some.inj hf)
    · have hf := of_pos c_4 hf
      refine j_iconst (pc := 18) F (v := (-1)) dX7_round_18 rfl ?_
      exact j_iretR (pc := 19) F dX7_round_19 (Option.some.inj hf)
theorem cf_X7_round : cfV yX7_round cX7_round 5 (some .int) 2 := ⟨tm_329, tm_330, tm_53, tm_331, by decide, by decide, by decide +kernel⟩

def f_X7_many (N : Nat) (σS : St2) (σT : St2) (σR : St2) (σV : St2 × (Nat → Nat)) (σQ : Nat → (St2 × Int64)) (σD : St2) (ra : Value) (x1 : Int32) (x2 : Int32) (x3 : Int32) : Option (Int32 × St2) := if (bI (f_X5_isMoon x1)) = 0 then some ((-1), σS) else if (bI (f_X5_isMoon x2)) = 0 then some ((-1), σS) else if x1 ≤ x2 then (f_X5_countEclipses N σS x1 x2 x3).bind fun o_6 => some (o_6.1, o_6.2) else some ((-1), σS)
set_option maxHeartbeats 4000000 in
set_option maxRecDepth 100000 in
theorem c_X7_many {l : Launch} {D : va_G} {cy : Nat → ClassId} {g : Gs} {aH : Nat → Nat} {aS : Nat → Nat} {aT : Nat → Nat} {aR : Nat → Nat} {aV : Nat → Nat} {aD : Nat → Nat} {aQ : Nat → Nat → Nat} {σS : St2} {σT : St2} {σR : St2} {σV : St2 × (Nat → Nat)} {σQ : Nat → (St2 × Int64)} {σD : St2} {ra : Value} {N : Nat} {x1 : Int32} {x2 : Int32} {x3 : Int32} {out : Int32 × St2} (hf : f_X7_many N σS σT σR σV σQ σD ra x1 x2 x3 = some out) : CW l D cy g yX7_many cX7_many 4 (some .int) 5 115 (wHs aH aS aT aR aV aD aQ cy σS σT σR σV σQ σD ra) [.ref (aH 0), .int x1, .int x2, .int x3] (some (.int out.1)) (wHs aH aS aT aR aV aD aQ cy out.2 σT σR σV σQ σD ra) := by
  unfold f_X7_many at hf
  refine met_W (lv := [(0, .ref (aH 0)), (1, .int x1), (2, .int x2), (3, .int x3)]) (by decide) (Nat.le_of_ble_eq_true rfl) rfl ?_
  intro p e s m args below meth c A F hK hS hA
  refine j_iload_n (pc := 0) F 1 dX7_many_0 rfl rfl ?_
  refine j_callRS (pc := 1) (st := []) (st1 := [.int (bI (f_X5_isMoon x1))]) F hK (hpW hS hp_nil) (c_X5_isMoon (l := l) (D := D) (cy := cy) (g := g) (rfl : f_X5_isMoon x1 = _)) tm_258 cf_X5_isMoon (Nat.le_of_ble_eq_true rfl) (Nat.le_of_ble_eq_true rfl) ⟨Nat.zero_le _, Nat.zero_le _⟩ rfl rfl (Nat.le_of_ble_eq_true rfl) rfl dX7_many_1 ?_
  refine j_if_eq (pc := 4) (tgt := 19) F dX7_many_4 rfl (fun c_2 => ?_) (fun c_2 => ?_)
  · have hf := of_pos c_2 hf
    refine j_iconst (pc := 19) F (v := (-1)) dX7_many_19 rfl ?_
    have hf := (Option.some.inj hf)
    subst hf
    exact j_iretW (pc := 20) F dX7_many_20 rfl rfl
  · have hf := of_neg c_2 hf
    refine j_iload_n (pc := 7) F 2 dX7_many_7 rfl rfl ?_
    refine j_callRS (pc := 8) (st := []) (st1 := [.int (bI (f_X5_isMoon x2))]) F hK (hpW hS hp_nil) (c_X5_isMoon (l := l) (D := D) (cy := cy) (g := g) (rfl : f_X5_isMoon x2 = _)) tm_258 cf_X5_isMoon (Nat.le_of_ble_eq_true rfl) (Nat.le_of_ble_eq_true rfl) ⟨Nat.zero_le _, Nat.zero_le _⟩ rfl rfl (Nat.le_of_ble_eq_true rfl) rfl dX7_many_8 ?_
    refine j_if_eq (pc := 11) (tgt := 19) F dX7_many_11 rfl (fun c_4 => ?_) (fun c_4 => ?_)
    · have hf := of_pos c_4 hf
      refine j_iconst (pc := 19) F (v := (-1)) dX7_many_19 rfl ?_
      have hf := (Option.some.inj hf)
      subst hf
      exact j_iretW (pc := 20) F dX7_many_20 rfl rfl
    · have hf := of_neg c_4 hf
      refine j_iload_n (pc := 14) F 1 dX7_many_14 rfl rfl ?_
      refine j_iload_n (pc := 15) F 2 dX7_many_15 rfl rfl ?_
      refine j_icmp_le (pc := 16) (tgt := 21) F dX7_many_16 rfl (fun c_5 => ?_) (fun c_5 => ?_)
      · have hf := of_pos c_5 hf
        refine j_aload_n (pc := 21) F 0 dX7_many_21 rfl rfl ?_
        refine jw_get (pc := 22) (v := .ref (aS 0)) F hK ix_7 0 rfl rfl 0 (by decide) tm_226 rfl rfl dX7_many_22 ?_
        refine j_iload_n (pc := 25) F 1 dX7_many_25 rfl rfl ?_
        refine j_iload_n (pc := 26) F 2 dX7_many_26 rfl rfl ?_
        refine j_iload_n (pc := 27) F 3 dX7_many_27 rfl rfl ?_
        obtain ⟨o_6, ho_6, hf⟩ := of_bnd hf
        refine j_callWp (pc := 28) (st := []) (st1 := [.int o_6.1]) (w' := wHs aH aS aT aR aV aD aQ cy o_6.2 σT σR σV σQ σD ra) F hK hS hA (pm_S _ _ _ _ _ _ _ _ _ _ _ _ _ _) (pm_S _ _ _ _ _ _ _ _ _ _ _ _ _ _) (c_X5_countEclipses (l := l) (D := D) (cy := cy) (g := g) (aS := aS) ho_6) tm_344 cf_X5_countEclipses (Nat.le_of_ble_eq_true rfl) (Nat.le_of_ble_eq_true rfl) ⟨Nat.zero_le _, Nat.zero_le _⟩ 0 rfl rfl rfl rfl rfl (Nat.le_of_ble_eq_true rfl) rfl dX7_many_28 ?_
        have hf := (Option.some.inj hf)
        subst hf
        exact j_iretW (pc := 31) F dX7_many_31 rfl rfl
      · have hf := of_neg c_5 hf
        refine j_iconst (pc := 19) F (v := (-1)) dX7_many_19 rfl ?_
        have hf := (Option.some.inj hf)
        subst hf
        exact j_iretW (pc := 20) F dX7_many_20 rfl rfl
theorem cf_X7_many : cfV yX7_many cX7_many 4 (some .int) 3 := ⟨tm_341, tm_342, tm_53, tm_343, by decide, by decide, by decide +kernel⟩

def f_X7_date (N : Nat) (σS : St2) (σT : St2) (σR : St2) (σV : St2 × (Nat → Nat)) (σQ : Nat → (St2 × Int64)) (σD : St2) (ra : Value) (x1 : Int32) (x2 : Int32) (x3 : Int32) : Option (Int32) := if x1 < 0 then some (-1) else if 400000 < x1 then some (-1) else if (bI (f_X2_isCalendar x2)) = 0 then some (-1) else (f_X2_monthDayOf N x2 (f_X2_yearOf x2 x1) x1).bind fun o_6 => if x3 = 0 then some (f_X2_yearOf x2 x1) else if x3 = 1 then some (f_X2_monthIn o_6) else if x3 = 2 then some (f_X2_dayIn o_6) else some (-1)
set_option maxHeartbeats 4000000 in
set_option maxRecDepth 100000 in
theorem c_X7_date {l : Launch} {D : va_G} {cy : Nat → ClassId} {g : Gs} {aH : Nat → Nat} {aS : Nat → Nat} {aT : Nat → Nat} {aR : Nat → Nat} {aV : Nat → Nat} {aD : Nat → Nat} {aQ : Nat → Nat → Nat} {σS : St2} {σT : St2} {σR : St2} {σV : St2 × (Nat → Nat)} {σQ : Nat → (St2 × Int64)} {σD : St2} {ra : Value} {N : Nat} {x1 : Int32} {x2 : Int32} {x3 : Int32} {out : Int32} (hf : f_X7_date N σS σT σR σV σQ σD ra x1 x2 x3 = some out) : CR l D cy g yX7_date cX7_date 6 (some .int) 2 47 (wHs aH aS aT aR aV aD aQ cy σS σT σR σV σQ σD ra) [.ref (aH 0), .int x1, .int x2, .int x3] (some (.int out)) := by
  unfold f_X7_date at hf
  refine met_R (lv := [(0, .ref (aH 0)), (1, .int x1), (2, .int x2), (3, .int x3)]) (by decide) (Nat.le_of_ble_eq_true rfl) rfl ?_
  intro p e s m args below meth c F hP hK hS
  refine j_iload_n (pc := 0) F 1 dX7_date_0 rfl rfl ?_
  refine j_if_lt (pc := 1) (tgt := 17) F dX7_date_1 rfl (fun c_1 => ?_) (fun c_1 => ?_)
  · have hf := of_pos c_1 hf
    refine j_iconst (pc := 17) F (v := (-1)) dX7_date_17 rfl ?_
    exact j_iretR (pc := 18) F dX7_date_18 (Option.some.inj hf)
  · have hf := of_neg c_1 hf
    refine j_iload_n (pc := 4) F 1 dX7_date_4 rfl rfl ?_
    refine j_ldc (pc := 5) F tm_352 dX7_date_5 ?_
    refine j_icmp_gt (pc := 7) (tgt := 17) F dX7_date_7 rfl (fun c_2 => ?_) (fun c_2 => ?_)
    · have hf := of_pos c_2 hf
      refine j_iconst (pc := 17) F (v := (-1)) dX7_date_17 rfl ?_
      exact j_iretR (pc := 18) F dX7_date_18 (Option.some.inj hf)
    · have hf := of_neg c_2 hf
      refine j_iload_n (pc := 10) F 2 dX7_date_10 rfl rfl ?_
      refine j_callRS (pc := 11) (st := []) (st1 := [.int (bI (f_X2_isCalendar x2))]) F hK (hpR hP hS hp_nil) (c_X2_isCalendar (l := l) (D := D) (cy := cy) (g := g) (rfl : f_X2_isCalendar x2 = _)) tm_353 cf_X2_isCalendar (Nat.le_of_ble_eq_true rfl) (Nat.le_of_ble_eq_true rfl) ⟨Nat.zero_le _, Nat.zero_le _⟩ rfl rfl (Nat.le_of_ble_eq_true rfl) rfl dX7_date_11 ?_
      refine j_if_ne (pc := 14) (tgt := 19) F dX7_date_14 rfl (fun c_4 => ?_) (fun c_4 => ?_)
      · have hf := of_neg c_4 hf
        refine j_iload_n (pc := 19) F 2 dX7_date_19 rfl rfl ?_
        refine j_iload_n (pc := 20) F 1 dX7_date_20 rfl rfl ?_
        refine j_callRS (pc := 21) (st := []) (st1 := [.int (f_X2_yearOf x2 x1)]) F hK (hpR hP hS hp_nil) (c_X2_yearOf (l := l) (D := D) (cy := cy) (g := g) (rfl : f_X2_yearOf x2 x1 = _)) tm_356 cf_X2_yearOf (Nat.le_of_ble_eq_true rfl) (Nat.le_of_ble_eq_true rfl) ⟨Nat.zero_le _, Nat.zero_le _⟩ rfl rfl (Nat.le_of_ble_eq_true rfl) rfl dX7_date_21 ?_
        refine j_istore (pc := 24) (lv' := [(4, .int (f_X2_yearOf x2 x1)), (0, .ref (aH 0)), (1, .int x1), (2, .int x2), (3, .int x3)]) F dX7_date_24 (by decide) rfl ?_
        refine j_iload_n (pc := 26) F 3 dX7_date_26 rfl rfl ?_
        refine j_iload (pc := 27) F 0 dX7_date_27 rfl ?_
        refine j_iload_n (pc := 29) F 2 dX7_date_29 rfl rfl ?_
        obtain ⟨o_6, ho_6, hf⟩ := of_bnd hf
        refine j_callRS (pc := 30) (st := []) (st1 := [.int o_6]) F hK (hpR hP hS hp_nil) (c_X2_monthDayOf (l := l) (D := D) (cy := cy) (g := g) ho_6) tm_365 cf_X2_monthDayOf (Nat.le_of_ble_eq_true rfl) (Nat.le_of_ble_eq_true rfl) ⟨Nat.zero_le _, Nat.zero_le _⟩ rfl rfl (Nat.le_of_ble_eq_true rfl) rfl dX7_date_30 ?_
        refine j_istore (pc := 33) (lv' := [(5, .int o_6), (4, .int (f_X2_yearOf x2 x1)), (0, .ref (aH 0)), (1, .int x1), (2, .int x2), (3, .int x3)]) F dX7_date_33 (by decide) rfl ?_
        refine j_iload_n (pc := 35) F 5 dX7_date_35 rfl rfl ?_
        by_cases c_7 : x3 = 0
        · have hf := of_pos c_7 hf
          refine j_tabIn (pc := 36) (tgt := 64) F 0 dX7_date_36 c_7 (by decide) (by decide) rfl rfl ?_
          refine j_iload (pc := 64) F 1 dX7_date_64 rfl ?_
          exact j_iretR (pc := 66) F dX7_date_66 (Option.some.inj hf)
        · have hf := of_neg c_7 hf
          by_cases c_8 : x3 = 1
          · have hf := of_pos c_8 hf
            refine j_tabIn (pc := 36) (tgt := 67) F 1 dX7_date_36 c_8 (by decide) (by decide) rfl rfl ?_
            refine j_iload (pc := 67) F 0 dX7_date_67 rfl ?_
            refine j_callRS (pc := 69) (st := []) (st1 := [.int (f_X2_monthIn o_6)]) F hK (hpR hP hS hp_nil) (c_X2_monthIn (l := l) (D := D) (cy := cy) (g := g) (rfl : f_X2_monthIn o_6 = _)) tm_373 cf_X2_monthIn (Nat.le_of_ble_eq_true rfl) (Nat.le_of_ble_eq_true rfl) ⟨Nat.zero_le _, Nat.zero_le _⟩ rfl rfl (Nat.le_of_ble_eq_true rfl) rfl dX7_date_69 ?_
            exact j_iretR (pc := 72) F dX7_date_72 (Option.some.inj hf)
          · have hf := of_neg c_8 hf
            by_cases c_10 : x3 = 2
            · have hf := of_pos c_10 hf
              refine j_tabIn (pc := 36) (tgt := 73) F 2 dX7_date_36 c_10 (by decide) (by decide) rfl rfl ?_
              refine j_iload (pc := 73) F 0 dX7_date_73 rfl ?_
              refine j_callRS (pc := 75) (st := []) (st1 := [.int (f_X2_dayIn o_6)]) F hK (hpR hP hS hp_nil) (c_X2_dayIn (l := l) (D := D) (cy := cy) (g := g) (rfl : f_X2_dayIn o_6 = _)) tm_376 cf_X2_dayIn (Nat.le_of_ble_eq_true rfl) (Nat.le_of_ble_eq_true rfl) ⟨Nat.zero_le _, Nat.zero_le _⟩ rfl rfl (Nat.le_of_ble_eq_true rfl) rfl dX7_date_75 ?_
              exact j_iretR (pc := 78) F dX7_date_78 (Option.some.inj hf)
            · have hf := of_neg c_10 hf
              refine j_tabOut (pc := 36) (n := 2) (tgt := 79) F dX7_date_36 (by decide) (fun j hj => match j, hj with | 0, _ => c_7 | 1, _ => c_8 | 2, _ => c_10 | j + 3, hj => absurd hj (by omega)) rfl ?_
              refine j_iconst (pc := 79) F (v := (-1)) dX7_date_79 rfl ?_
              exact j_iretR (pc := 80) F dX7_date_80 (Option.some.inj hf)
      · have hf := of_pos c_4 hf
        refine j_iconst (pc := 17) F (v := (-1)) dX7_date_17 rfl ?_
        exact j_iretR (pc := 18) F dX7_date_18 (Option.some.inj hf)
theorem cf_X7_date : cfV yX7_date cX7_date 6 (some .int) 3 := ⟨tm_349, tm_350, tm_53, tm_351, by decide, by decide, by decide +kernel⟩

def f_X7_day (N : Nat) (σS : St2) (σT : St2) (σR : St2) (σV : St2 × (Nat → Nat)) (σQ : Nat → (St2 × Int64)) (σD : St2) (ra : Value) (x1 : Int32) (x2 : Int32) (x3 : Int32) (x4 : Int32) : Option (Int32) := if (bI (f_X2_isCalendar x1)) = 0 then some (-1) else if x2 < 0 then some (-1) else if x2 ≤ 1100 then (f_X2_dayOf N x1 x2 x3 x4).bind fun o_5 => some o_5 else some (-1)
set_option maxHeartbeats 4000000 in
set_option maxRecDepth 100000 in
theorem c_X7_day {l : Launch} {D : va_G} {cy : Nat → ClassId} {g : Gs} {aH : Nat → Nat} {aS : Nat → Nat} {aT : Nat → Nat} {aR : Nat → Nat} {aV : Nat → Nat} {aD : Nat → Nat} {aQ : Nat → Nat → Nat} {σS : St2} {σT : St2} {σR : St2} {σV : St2 × (Nat → Nat)} {σQ : Nat → (St2 × Int64)} {σD : St2} {ra : Value} {N : Nat} {x1 : Int32} {x2 : Int32} {x3 : Int32} {x4 : Int32} {out : Int32} (hf : f_X7_day N σS σT σR σV σQ σD ra x1 x2 x3 x4 = some out) : CR l D cy g yX7_day cX7_day 5 (some .int) 2 47 (wHs aH aS aT aR aV aD aQ cy σS σT σR σV σQ σD ra) [.ref (aH 0), .int x1, .int x2, .int x3, .int x4] (some (.int out)) := by
  unfold f_X7_day at hf
  refine met_R (lv := [(0, .ref (aH 0)), (1, .int x1), (2, .int x2), (3, .int x3), (4, .int x4)]) (by decide) (Nat.le_of_ble_eq_true rfl) rfl ?_
  intro p e s m args below meth c F hP hK hS
  refine j_iload_n (pc := 0) F 1 dX7_day_0 rfl rfl ?_
  refine j_callRS (pc := 1) (st := []) (st1 := [.int (bI (f_X2_isCalendar x1))]) F hK (hpR hP hS hp_nil) (c_X2_isCalendar (l := l) (D := D) (cy := cy) (g := g) (rfl : f_X2_isCalendar x1 = _)) tm_353 cf_X2_isCalendar (Nat.le_of_ble_eq_true rfl) (Nat.le_of_ble_eq_true rfl) ⟨Nat.zero_le _, Nat.zero_le _⟩ rfl rfl (Nat.le_of_ble_eq_true rfl) rfl dX7_day_1 ?_
  refine j_if_eq (pc := 4) (tgt := 18) F dX7_day_4 rfl (fun c_2 => ?_) (fun c_2 => ?_)
  · have hf := of_pos c_2 hf
    refine j_iconst (pc := 18) F (v := (-1)) dX7_day_18 rfl ?_
    exact j_iretR (pc := 19) F dX7_day_19 (Option.some.inj hf)
  · have hf := of_neg c_2 hf
    refine j_iload_n (pc := 7) F 2 dX7_day_7 rfl rfl ?_
    refine j_if_lt (pc := 8) (tgt := 18) F dX7_day_8 rfl (fun c_3 => ?_) (fun c_3 => ?_)
    · have hf := of_pos c_3 hf
      refine j_iconst (pc := 18) F (v := (-1)) dX7_day_18 rfl ?_
      exact j_iretR (pc := 19) F dX7_day_19 (Option.some.inj hf)
    · have hf := of_neg c_3 hf
      refine j_iload_n (pc := 11) F 2 dX7_day_11 rfl rfl ?_
      refine j_sipush (pc := 12) F (v := 1100) dX7_day_12 rfl ?_
      refine j_icmp_le (pc := 15) (tgt := 20) F dX7_day_15 rfl (fun c_4 => ?_) (fun c_4 => ?_)
      · have hf := of_pos c_4 hf
        refine j_iload_n (pc := 20) F 1 dX7_day_20 rfl rfl ?_
        refine j_iload_n (pc := 21) F 2 dX7_day_21 rfl rfl ?_
        refine j_iload_n (pc := 22) F 3 dX7_day_22 rfl rfl ?_
        refine j_iload (pc := 23) F 4 dX7_day_23 rfl ?_
        obtain ⟨o_5, ho_5, hf⟩ := of_bnd hf
        refine j_callRS (pc := 25) (st := []) (st1 := [.int o_5]) F hK (hpR hP hS hp_nil) (c_X2_dayOf (l := l) (D := D) (cy := cy) (g := g) ho_5) tm_383 cf_X2_dayOf (Nat.le_of_ble_eq_true rfl) (Nat.le_of_ble_eq_true rfl) ⟨Nat.zero_le _, Nat.zero_le _⟩ rfl rfl (Nat.le_of_ble_eq_true rfl) rfl dX7_day_25 ?_
        exact j_iretR (pc := 28) F dX7_day_28 (Option.some.inj hf)
      · have hf := of_neg c_4 hf
        refine j_iconst (pc := 18) F (v := (-1)) dX7_day_18 rfl ?_
        exact j_iretR (pc := 19) F dX7_day_19 (Option.some.inj hf)
theorem cf_X7_day : cfV yX7_day cX7_day 5 (some .int) 4 := ⟨tm_380, tm_381, tm_53, tm_382, by decide, by decide, by decide +kernel⟩

def f_X7_seen (σS : St2) (σT : St2) (σR : St2) (σV : St2 × (Nat → Nat)) (σQ : Nat → (St2 × Int64)) (σD : St2) (ra : Value) (x1 : Int32) (x2 : Int32) (x3 : Int32) : Option (Int32) := if (bI (f_X5_isMoon x1)) = 0 then some (-1000000) else if (bI (f_X7_isEast x2)) = 0 then some (-1000000) else if (bI (f_X7_isSlow x3)) = 0 then some (-1000000) else (f_X5_timeOf σS x1).bind fun o_7 => some (f_X5_minuteSeen o_7 x2 x3)
set_option maxHeartbeats 4000000 in
set_option maxRecDepth 100000 in
theorem c_X7_seen {l : Launch} {D : va_G} {cy : Nat → ClassId} {g : Gs} {aH : Nat → Nat} {aS : Nat → Nat} {aT : Nat → Nat} {aR : Nat → Nat} {aV : Nat → Nat} {aD : Nat → Nat} {aQ : Nat → Nat → Nat} {σS : St2} {σT : St2} {σR : St2} {σV : St2 × (Nat → Nat)} {σQ : Nat → (St2 × Int64)} {σD : St2} {ra : Value} {x1 : Int32} {x2 : Int32} {x3 : Int32} {out : Int32} (hf : f_X7_seen σS σT σR σV σQ σD ra x1 x2 x3 = some out) : CR l D cy g yX7_seen cX7_seen 4 (some .int) 3 66 (wHs aH aS aT aR aV aD aQ cy σS σT σR σV σQ σD ra) [.ref (aH 0), .int x1, .int x2, .int x3] (some (.int out)) := by
  unfold f_X7_seen at hf
  refine met_R (lv := [(0, .ref (aH 0)), (1, .int x1), (2, .int x2), (3, .int x3)]) (by decide) (Nat.le_of_ble_eq_true rfl) rfl ?_
  intro p e s m args below meth c F hP hK hS
  refine j_iload_n (pc := 0) F 1 dX7_seen_0 rfl rfl ?_
  refine j_callRS (pc := 1) (st := []) (st1 := [.int (bI (f_X5_isMoon x1))]) F hK (hpR hP hS hp_nil) (c_X5_isMoon (l := l) (D := D) (cy := cy) (g := g) (rfl : f_X5_isMoon x1 = _)) tm_258 cf_X5_isMoon (Nat.le_of_ble_eq_true rfl) (Nat.le_of_ble_eq_true rfl) ⟨Nat.zero_le _, Nat.zero_le _⟩ rfl rfl (Nat.le_of_ble_eq_true rfl) rfl dX7_seen_1 ?_
  refine j_if_eq (pc := 4) (tgt := 21) F dX7_seen_4 rfl (fun c_2 => ?_) (fun c_2 => ?_)
  · have hf := of_pos c_2 hf
    refine j_ldc (pc := 21) F tm_396 dX7_seen_21 ?_
    exact j_iretR (pc := 23) F dX7_seen_23 (Option.some.inj hf)
  · have hf := of_neg c_2 hf
    refine j_iload_n (pc := 7) F 2 dX7_seen_7 rfl rfl ?_
    refine j_callRS (pc := 8) (st := []) (st1 := [.int (bI (f_X7_isEast x2))]) F hK (hpR hP hS hp_nil) (c_X7_isEast (l := l) (D := D) (cy := cy) (g := g) (rfl : f_X7_isEast x2 = _)) tm_390 cf_X7_isEast (Nat.le_of_ble_eq_true rfl) (Nat.le_of_ble_eq_true rfl) ⟨Nat.zero_le _, Nat.zero_le _⟩ rfl rfl (Nat.le_of_ble_eq_true rfl) rfl dX7_seen_8 ?_
    refine j_if_eq (pc := 11) (tgt := 21) F dX7_seen_11 rfl (fun c_4 => ?_) (fun c_4 => ?_)
    · have hf := of_pos c_4 hf
      refine j_ldc (pc := 21) F tm_396 dX7_seen_21 ?_
      exact j_iretR (pc := 23) F dX7_seen_23 (Option.some.inj hf)
    · have hf := of_neg c_4 hf
      refine j_iload_n (pc := 14) F 3 dX7_seen_14 rfl rfl ?_
      refine j_callRS (pc := 15) (st := []) (st1 := [.int (bI (f_X7_isSlow x3))]) F hK (hpR hP hS hp_nil) (c_X7_isSlow (l := l) (D := D) (cy := cy) (g := g) (rfl : f_X7_isSlow x3 = _)) tm_393 cf_X7_isSlow (Nat.le_of_ble_eq_true rfl) (Nat.le_of_ble_eq_true rfl) ⟨Nat.zero_le _, Nat.zero_le _⟩ rfl rfl (Nat.le_of_ble_eq_true rfl) rfl dX7_seen_15 ?_
      refine j_if_ne (pc := 18) (tgt := 24) F dX7_seen_18 rfl (fun c_6 => ?_) (fun c_6 => ?_)
      · have hf := of_neg c_6 hf
        refine j_aload_n (pc := 24) F 0 dX7_seen_24 rfl rfl ?_
        refine jr_get (pc := 25) (v := .ref (aS 0)) F hK hP ix_7 0 rfl rfl 0 (by decide) tm_226 rfl rfl dX7_seen_25 ?_
        refine j_iload_n (pc := 28) F 1 dX7_seen_28 rfl rfl ?_
        obtain ⟨o_7, ho_7, hf⟩ := of_bnd hf
        refine j_callRV (pc := 29) (st := []) (st1 := [.int o_7]) F hK (hpR hP hS (hp_perm (pm_S _ _ _ _ _ _ _ _ _ _ _ _ _ _))) (c_X5_timeOf (l := l) (D := D) (cy := cy) (g := g) (aS := aS) ho_7) tm_276 cf_X5_timeOf (Nat.le_of_ble_eq_true rfl) (Nat.le_of_ble_eq_true rfl) ⟨Nat.zero_le _, Nat.zero_le _⟩ 0 rfl rfl rfl rfl rfl (Nat.le_of_ble_eq_true rfl) rfl dX7_seen_29 ?_
        refine j_iload_n (pc := 32) F 2 dX7_seen_32 rfl rfl ?_
        refine j_iload_n (pc := 33) F 3 dX7_seen_33 rfl rfl ?_
        refine j_callRS (pc := 34) (st := []) (st1 := [.int (f_X5_minuteSeen o_7 x2 x3)]) F hK (hpR hP hS hp_nil) (c_X5_minuteSeen (l := l) (D := D) (cy := cy) (g := g) (rfl : f_X5_minuteSeen o_7 x2 x3 = _)) tm_397 cf_X5_minuteSeen (Nat.le_of_ble_eq_true rfl) (Nat.le_of_ble_eq_true rfl) ⟨Nat.zero_le _, Nat.zero_le _⟩ rfl rfl (Nat.le_of_ble_eq_true rfl) rfl dX7_seen_34 ?_
        exact j_iretR (pc := 37) F dX7_seen_37 (Option.some.inj hf)
      · have hf := of_pos c_6 hf
        refine j_ldc (pc := 21) F tm_396 dX7_seen_21 ?_
        exact j_iretR (pc := 23) F dX7_seen_23 (Option.some.inj hf)
theorem cf_X7_seen : cfV yX7_seen cX7_seen 4 (some .int) 3 := ⟨tm_387, tm_388, tm_53, tm_389, by decide, by decide, by decide +kernel⟩

def f_X7_feed (N : Nat) (σS : St2) (σT : St2) (σR : St2) (σV : St2 × (Nat → Nat)) (σQ : Nat → (St2 × Int64)) (σD : St2) (ra : Value) (x1 : Int32) (x2 : Int32) (x3 : Int32) (x4 : Int32) (x5 : Int32) : Option (Int32 × St2) := if (bI (f_X6_hasRoom σT)) = 0 then some ((-1), σT) else (f_X6_addNumber N σT x1).bind fun o_3 => (f_X6_addNumber N o_3 x2).bind fun o_4 => (f_X6_addNumber N o_4 x3).bind fun o_5 => (f_X6_addNumber N o_5 x4).bind fun o_6 => (f_X6_addNumber N o_6 x5).bind fun o_7 => some (f_X6_size o_7, o_7)
set_option maxHeartbeats 4000000 in
set_option maxRecDepth 100000 in
theorem c_X7_feed {l : Launch} {D : va_G} {cy : Nat → ClassId} {g : Gs} {aH : Nat → Nat} {aS : Nat → Nat} {aT : Nat → Nat} {aR : Nat → Nat} {aV : Nat → Nat} {aD : Nat → Nat} {aQ : Nat → Nat → Nat} {σS : St2} {σT : St2} {σR : St2} {σV : St2 × (Nat → Nat)} {σQ : Nat → (St2 × Int64)} {σD : St2} {ra : Value} {N : Nat} {x1 : Int32} {x2 : Int32} {x3 : Int32} {x4 : Int32} {x5 : Int32} {out : Int32 × St2} (hf : f_X7_feed N σS σT σR σV σQ σD ra x1 x2 x3 x4 x5 = some out) : CW l D cy g yX7_feed cX7_feed 6 (some .int) 1 22 (wHs aH aS aT aR aV aD aQ cy σS σT σR σV σQ σD ra) [.ref (aH 0), .int x1, .int x2, .int x3, .int x4, .int x5] (some (.int out.1)) (wHs aH aS aT aR aV aD aQ cy σS out.2 σR σV σQ σD ra) := by
  unfold f_X7_feed at hf
  refine met_W (lv := [(0, .ref (aH 0)), (1, .int x1), (2, .int x2), (3, .int x3), (4, .int x4), (5, .int x5)]) (by decide) (Nat.le_of_ble_eq_true rfl) rfl ?_
  intro p e s m args below meth c A F hK hS hA
  refine j_aload_n (pc := 0) F 0 dX7_feed_0 rfl rfl ?_
  refine jw_get (pc := 1) (v := .ref (aT 0)) F hK ix_7 0 rfl rfl 1 (by decide) tm_227 rfl rfl dX7_feed_1 ?_
  refine j_callRV (pc := 4) (st := []) (st1 := [.int (bI (f_X6_hasRoom σT))]) F hK (hpW hS (hp_perm (pm_T _ _ _ _ _ _ _ _ _ _ _ _ _ _))) (c_X6_hasRoom (l := l) (D := D) (cy := cy) (g := g) (aT := aT) (rfl : f_X6_hasRoom σT = _)) tm_405 cf_X6_hasRoom (Nat.le_of_ble_eq_true rfl) (Nat.le_of_ble_eq_true rfl) ⟨Nat.zero_le _, Nat.zero_le _⟩ 0 rfl rfl rfl rfl rfl (Nat.le_of_ble_eq_true rfl) rfl dX7_feed_4 ?_
  refine j_if_ne (pc := 7) (tgt := 12) F dX7_feed_7 rfl (fun c_2 => ?_) (fun c_2 => ?_)
  · have hf := of_neg c_2 hf
    refine j_aload_n (pc := 12) F 0 dX7_feed_12 rfl rfl ?_
    refine jw_get (pc := 13) (v := .ref (aT 0)) F hK ix_7 0 rfl rfl 1 (by decide) tm_227 rfl rfl dX7_feed_13 ?_
    refine j_iload_n (pc := 16) F 1 dX7_feed_16 rfl rfl ?_
    obtain ⟨o_3, ho_3, hf⟩ := of_bnd hf
    refine j_callWp (pc := 17) (st := []) (st1 := []) (w' := wHs aH aS aT aR aV aD aQ cy σS o_3 σR σV σQ σD ra) F hK hS hA (pm_T _ _ _ _ _ _ _ _ _ _ _ _ _ _) (pm_T _ _ _ _ _ _ _ _ _ _ _ _ _ _) (c_X6_addNumber (l := l) (D := D) (cy := cy) (g := g) (aT := aT) ho_3) tm_409 cf_X6_addNumber (Nat.le_of_ble_eq_true rfl) (Nat.le_of_ble_eq_true rfl) ⟨Nat.zero_le _, Nat.zero_le _⟩ 0 rfl rfl rfl rfl rfl (Nat.le_of_ble_eq_true rfl) rfl dX7_feed_17 ?_
    refine j_aload_n (pc := 20) F 0 dX7_feed_20 rfl rfl ?_
    refine jw_get (pc := 21) (v := .ref (aT 0)) F hK ix_7 0 rfl rfl 1 (by decide) tm_227 rfl rfl dX7_feed_21 ?_
    refine j_iload_n (pc := 24) F 2 dX7_feed_24 rfl rfl ?_
    obtain ⟨o_4, ho_4, hf⟩ := of_bnd hf
    refine j_callWp (pc := 25) (st := []) (st1 := []) (w' := wHs aH aS aT aR aV aD aQ cy σS o_4 σR σV σQ σD ra) F hK hS hA (pm_T _ _ _ _ _ _ _ _ _ _ _ _ _ _) (pm_T _ _ _ _ _ _ _ _ _ _ _ _ _ _) (c_X6_addNumber (l := l) (D := D) (cy := cy) (g := g) (aT := aT) ho_4) tm_409 cf_X6_addNumber (Nat.le_of_ble_eq_true rfl) (Nat.le_of_ble_eq_true rfl) ⟨Nat.zero_le _, Nat.zero_le _⟩ 0 rfl rfl rfl rfl rfl (Nat.le_of_ble_eq_true rfl) rfl dX7_feed_25 ?_
    refine j_aload_n (pc := 28) F 0 dX7_feed_28 rfl rfl ?_
    refine jw_get (pc := 29) (v := .ref (aT 0)) F hK ix_7 0 rfl rfl 1 (by decide) tm_227 rfl rfl dX7_feed_29 ?_
    refine j_iload_n (pc := 32) F 3 dX7_feed_32 rfl rfl ?_
    obtain ⟨o_5, ho_5, hf⟩ := of_bnd hf
    refine j_callWp (pc := 33) (st := []) (st1 := []) (w' := wHs aH aS aT aR aV aD aQ cy σS o_5 σR σV σQ σD ra) F hK hS hA (pm_T _ _ _ _ _ _ _ _ _ _ _ _ _ _) (pm_T _ _ _ _ _ _ _ _ _ _ _ _ _ _) (c_X6_addNumber (l := l) (D := D) (cy := cy) (g := g) (aT := aT) ho_5) tm_409 cf_X6_addNumber (Nat.le_of_ble_eq_true rfl) (Nat.le_of_ble_eq_true rfl) ⟨Nat.zero_le _, Nat.zero_le _⟩ 0 rfl rfl rfl rfl rfl (Nat.le_of_ble_eq_true rfl) rfl dX7_feed_33 ?_
    refine j_aload_n (pc := 36) F 0 dX7_feed_36 rfl rfl ?_
    refine jw_get (pc := 37) (v := .ref (aT 0)) F hK ix_7 0 rfl rfl 1 (by decide) tm_227 rfl rfl dX7_feed_37 ?_
    refine j_iload (pc := 40) F 4 dX7_feed_40 rfl ?_
    obtain ⟨o_6, ho_6, hf⟩ := of_bnd hf
    refine j_callWp (pc := 42) (st := []) (st1 := []) (w' := wHs aH aS aT aR aV aD aQ cy σS o_6 σR σV σQ σD ra) F hK hS hA (pm_T _ _ _ _ _ _ _ _ _ _ _ _ _ _) (pm_T _ _ _ _ _ _ _ _ _ _ _ _ _ _) (c_X6_addNumber (l := l) (D := D) (cy := cy) (g := g) (aT := aT) ho_6) tm_409 cf_X6_addNumber (Nat.le_of_ble_eq_true rfl) (Nat.le_of_ble_eq_true rfl) ⟨Nat.zero_le _, Nat.zero_le _⟩ 0 rfl rfl rfl rfl rfl (Nat.le_of_ble_eq_true rfl) rfl dX7_feed_42 ?_
    refine j_aload_n (pc := 45) F 0 dX7_feed_45 rfl rfl ?_
    refine jw_get (pc := 46) (v := .ref (aT 0)) F hK ix_7 0 rfl rfl 1 (by decide) tm_227 rfl rfl dX7_feed_46 ?_
    refine j_iload (pc := 49) F 5 dX7_feed_49 rfl ?_
    obtain ⟨o_7, ho_7, hf⟩ := of_bnd hf
    refine j_callWp (pc := 51) (st := []) (st1 := []) (w' := wHs aH aS aT aR aV aD aQ cy σS o_7 σR σV σQ σD ra) F hK hS hA (pm_T _ _ _ _ _ _ _ _ _ _ _ _ _ _) (pm_T _ _ _ _ _ _ _ _ _ _ _ _ _ _) (c_X6_addNumber (l := l) (D := D) (cy := cy) (g := g) (aT := aT) ho_7) tm_409 cf_X6_addNumber (Nat.le_of_ble_eq_true rfl) (Nat.le_of_ble_eq_true rfl) ⟨Nat.zero_le _, Nat.zero_le _⟩ 0 rfl rfl rfl rfl rfl (Nat.le_of_ble_eq_true rfl) rfl dX7_feed_51 ?_
    refine j_aload_n (pc := 54) F 0 dX7_feed_54 rfl rfl ?_
    refine jw_get (pc := 55) (v := .ref (aT 0)) F hK ix_7 0 rfl rfl 1 (by decide) tm_227 rfl rfl dX7_feed_55 ?_
    refine j_callRV (pc := 58) (st := []) (st1 := [.int (f_X6_size o_7)]) F hK (hpW hS (hp_perm (pm_T _ _ _ _ _ _ _ _ _ _ _ _ _ _))) (c_X6_size (l := l) (D := D) (cy := cy) (g := g) (aT := aT) (rfl : f_X6_size o_7 = _)) tm_413 cf_X6_size (Nat.le_of_ble_eq_true rfl) (Nat.le_of_ble_eq_true rfl) ⟨Nat.zero_le _, Nat.zero_le _⟩ 0 rfl rfl rfl rfl rfl (Nat.le_of_ble_eq_true rfl) rfl dX7_feed_58 ?_
    have hf := (Option.some.inj hf)
    subst hf
    exact j_iretW (pc := 61) F dX7_feed_61 rfl rfl
  · have hf := of_pos c_2 hf
    refine j_iconst (pc := 10) F (v := (-1)) dX7_feed_10 rfl ?_
    have hf := (Option.some.inj hf)
    subst hf
    exact j_iretW (pc := 11) F dX7_feed_11 rfl rfl
theorem cf_X7_feed : cfV yX7_feed cX7_feed 6 (some .int) 5 := ⟨tm_402, tm_403, tm_53, tm_404, by decide, by decide, by decide +kernel⟩

def f_X7_end (σS : St2) (σT : St2) (σR : St2) (σV : St2 × (Nat → Nat)) (σQ : Nat → (St2 × Int64)) (σD : St2) (ra : Value) (x1 : Int32) : Bool × St2 := (((f_X6_cutTo σT x1).1), (f_X6_cutTo σT x1).2)
set_option maxHeartbeats 4000000 in
set_option maxRecDepth 100000 in
theorem c_X7_end {l : Launch} {D : va_G} {cy : Nat → ClassId} {g : Gs} {aH : Nat → Nat} {aS : Nat → Nat} {aT : Nat → Nat} {aR : Nat → Nat} {aV : Nat → Nat} {aD : Nat → Nat} {aQ : Nat → Nat → Nat} {σS : St2} {σT : St2} {σR : St2} {σV : St2 × (Nat → Nat)} {σQ : Nat → (St2 × Int64)} {σD : St2} {ra : Value} {x1 : Int32} {out : Bool × St2} (hf : f_X7_end σS σT σR σV σQ σD ra x1 = out) : CW l D cy g yX7_end cX7_end 2 (some .boolean) 1 21 (wHs aH aS aT aR aV aD aQ cy σS σT σR σV σQ σD ra) [.ref (aH 0), .int x1] (some (.int (bI out.1))) (wHs aH aS aT aR aV aD aQ cy σS out.2 σR σV σQ σD ra) := by
  unfold f_X7_end at hf
  refine met_W (lv := [(0, .ref (aH 0)), (1, .int x1)]) (by decide) (Nat.le_of_ble_eq_true rfl) rfl ?_
  intro p e s m args below meth c A F hK hS hA
  refine j_aload_n (pc := 0) F 0 dX7_end_0 rfl rfl ?_
  refine jw_get (pc := 1) (v := .ref (aT 0)) F hK ix_7 0 rfl rfl 1 (by decide) tm_227 rfl rfl dX7_end_1 ?_
  refine j_iload_n (pc := 4) F 1 dX7_end_4 rfl rfl ?_
  refine j_callWp (pc := 5) (st := []) (st1 := [.int (bI ((f_X6_cutTo σT x1).1))]) (w' := wHs aH aS aT aR aV aD aQ cy σS ((f_X6_cutTo σT x1).2) σR σV σQ σD ra) F hK hS hA (pm_T _ _ _ _ _ _ _ _ _ _ _ _ _ _) (pm_T _ _ _ _ _ _ _ _ _ _ _ _ _ _) (c_X6_cutTo (l := l) (D := D) (cy := cy) (g := g) (aT := aT) (rfl : f_X6_cutTo σT x1 = _)) tm_421 cf_X6_cutTo (Nat.le_of_ble_eq_true rfl) (Nat.le_of_ble_eq_true rfl) ⟨Nat.zero_le _, Nat.zero_le _⟩ 0 rfl rfl rfl rfl rfl (Nat.le_of_ble_eq_true rfl) rfl dX7_end_5 ?_
  have hf := hf
  subst hf
  exact j_zretW (pc := 8) F dX7_end_8 rfl rfl
theorem cf_X7_end : cfV yX7_end cX7_end 2 (some .boolean) 1 := ⟨tm_418, tm_419, tm_53, tm_420, by decide, by decide, by decide +kernel⟩

def f_X7_reign (N : Nat) (σS : St2) (σT : St2) (σR : St2) (σV : St2 × (Nat → Nat)) (σQ : Nat → (St2 × Int64)) (σD : St2) (ra : Value) (x1 : Int32) (x2 : Int32) : Option (Int32 × St2 × St2) := (f_X6_nameBetween N σT 0 (f_X6_size σT)).bind fun o_2 => (f_X4_begin N σR o_2 x1 x2).bind fun o_4 => some (o_4.1, (f_X6_clear σT), o_4.2)
set_option maxHeartbeats 4000000 in
set_option maxRecDepth 100000 in
theorem c_X7_reign {l : Launch} {D : va_G} {cy : Nat → ClassId} {g : Gs} {aH : Nat → Nat} {aS : Nat → Nat} {aT : Nat → Nat} {aR : Nat → Nat} {aV : Nat → Nat} {aD : Nat → Nat} {aQ : Nat → Nat → Nat} {σS : St2} {σT : St2} {σR : St2} {σV : St2 × (Nat → Nat)} {σQ : Nat → (St2 × Int64)} {σD : St2} {ra : Value} {N : Nat} {x1 : Int32} {x2 : Int32} {out : Int32 × St2 × St2} (hf : f_X7_reign N σS σT σR σV σQ σD ra x1 x2 = some out) : CW l D cy g yX7_reign cX7_reign 4 (some .int) 2 46 (wHs aH aS aT aR aV aD aQ cy σS σT σR σV σQ σD ra) [.ref (aH 0), .int x1, .int x2] (some (.int out.1)) (wHs aH aS aT aR aV aD aQ cy σS out.2.1 out.2.2 σV σQ σD ra) := by
  unfold f_X7_reign at hf
  refine met_W (lv := [(0, .ref (aH 0)), (1, .int x1), (2, .int x2)]) (by decide) (Nat.le_of_ble_eq_true rfl) rfl ?_
  intro p e s m args below meth c A F hK hS hA
  refine j_aload_n (pc := 0) F 0 dX7_reign_0 rfl rfl ?_
  refine jw_get (pc := 1) (v := .ref (aT 0)) F hK ix_7 0 rfl rfl 1 (by decide) tm_227 rfl rfl dX7_reign_1 ?_
  refine j_iconst (pc := 4) F (v := 0) dX7_reign_4 rfl ?_
  refine j_aload_n (pc := 5) F 0 dX7_reign_5 rfl rfl ?_
  refine jw_get (pc := 6) (v := .ref (aT 0)) F hK ix_7 0 rfl rfl 1 (by decide) tm_227 rfl rfl dX7_reign_6 ?_
  refine j_callRV (pc := 9) (st := [.int 0, .ref (aT 0)]) (st1 := [.int (f_X6_size σT), .int 0, .ref (aT 0)]) F hK (hpW hS (hp_perm (pm_T _ _ _ _ _ _ _ _ _ _ _ _ _ _))) (c_X6_size (l := l) (D := D) (cy := cy) (g := g) (aT := aT) (rfl : f_X6_size σT = _)) tm_413 cf_X6_size (Nat.le_of_ble_eq_true rfl) (Nat.le_of_ble_eq_true rfl) ⟨Nat.zero_le _, Nat.zero_le _⟩ 0 rfl rfl rfl rfl rfl (Nat.le_of_ble_eq_true rfl) rfl dX7_reign_9 ?_
  obtain ⟨o_2, ho_2, hf⟩ := of_bnd hf
  refine j_callRV (pc := 12) (st := []) (st1 := [.int o_2]) F hK (hpW hS (hp_perm (pm_T _ _ _ _ _ _ _ _ _ _ _ _ _ _))) (c_X6_nameBetween (l := l) (D := D) (cy := cy) (g := g) (aT := aT) ho_2) tm_429 cf_X6_nameBetween (Nat.le_of_ble_eq_true rfl) (Nat.le_of_ble_eq_true rfl) ⟨Nat.zero_le _, Nat.zero_le _⟩ 0 rfl rfl rfl rfl rfl (Nat.le_of_ble_eq_true rfl) rfl dX7_reign_12 ?_
  refine j_istore_n (pc := 15) (lv' := [(3, .int o_2), (0, .ref (aH 0)), (1, .int x1), (2, .int x2)]) F dX7_reign_15 rfl (by decide) rfl ?_
  refine j_aload_n (pc := 16) F 1 dX7_reign_16 rfl rfl ?_
  refine jw_get (pc := 17) (v := .ref (aT 0)) F hK ix_7 0 rfl rfl 1 (by decide) tm_227 rfl rfl dX7_reign_17 ?_
  refine j_callWp (pc := 20) (st := []) (st1 := []) (w' := wHs aH aS aT aR aV aD aQ cy σS (f_X6_clear σT) σR σV σQ σD ra) F hK hS hA (pm_T _ _ _ _ _ _ _ _ _ _ _ _ _ _) (pm_T _ _ _ _ _ _ _ _ _ _ _ _ _ _) (c_X6_clear (l := l) (D := D) (cy := cy) (g := g) (aT := aT) (rfl : f_X6_clear σT = _)) tm_440 cf_X6_clear (Nat.le_of_ble_eq_true rfl) (Nat.le_of_ble_eq_true rfl) ⟨Nat.zero_le _, Nat.zero_le _⟩ 0 rfl rfl rfl rfl rfl (Nat.le_of_ble_eq_true rfl) rfl dX7_reign_20 ?_
  refine j_aload_n (pc := 23) F 1 dX7_reign_23 rfl rfl ?_
  refine jw_get (pc := 24) (v := .ref (aR 0)) F hK ix_7 0 rfl rfl 2 (by decide) tm_228 rfl rfl dX7_reign_24 ?_
  refine j_iload_n (pc := 27) F 0 dX7_reign_27 rfl rfl ?_
  refine j_iload_n (pc := 28) F 2 dX7_reign_28 rfl rfl ?_
  refine j_iload_n (pc := 29) F 3 dX7_reign_29 rfl rfl ?_
  obtain ⟨o_4, ho_4, hf⟩ := of_bnd hf
  refine j_callWp (pc := 30) (st := []) (st1 := [.int o_4.1]) (w' := wHs aH aS aT aR aV aD aQ cy σS (f_X6_clear σT) o_4.2 σV σQ σD ra) F hK hS hA (pm_R _ _ _ _ _ _ _ _ _ _ _ _ _ _) (pm_R _ _ _ _ _ _ _ _ _ _ _ _ _ _) (c_X4_begin (l := l) (D := D) (cy := cy) (g := g) (aR := aR) ho_4) tm_444 cf_X4_begin (Nat.le_of_ble_eq_true rfl) (Nat.le_of_ble_eq_true rfl) ⟨Nat.zero_le _, Nat.zero_le _⟩ 0 rfl rfl rfl rfl rfl (Nat.le_of_ble_eq_true rfl) rfl dX7_reign_30 ?_
  have hf := (Option.some.inj hf)
  subst hf
  exact j_iretW (pc := 33) F dX7_reign_33 rfl rfl
theorem cf_X7_reign : cfV yX7_reign cX7_reign 4 (some .int) 2 := ⟨tm_426, tm_427, tm_53, tm_428, by decide, by decide, by decide +kernel⟩

def f_X7_record_56 (aQ : Nat → Nat → Nat) (N : Nat) (σS : St2) (σT : St2) (σR : St2) (σV : St2 × (Nat → Nat)) (σQ : Nat → (St2 × Int64)) (σD : St2) (ra : Value) (t0 : Int32) : Option (Int32 × St2 × (St2 × (Nat → Nat)) × (Nat → (St2 × Int64)) × St2 × Value) := if t0 = 0 then some ((-1), (f_X6_clear σT), σV, σQ, σD, ra) else some ((f_X1_keepSpare σV).1, (f_X6_clear σT), (f_X1_keepSpare σV).2, σQ, σD, ra)
def f_X7_record_55 (aQ : Nat → Nat → Nat) (N : Nat) (σS : St2) (σT : St2) (σR : St2) (σV : St2 × (Nat → Nat)) (σQ : Nat → (St2 × Int64)) (σD : St2) (ra : Value) : Option (Int32 × St2 × (St2 × (Nat → Nat)) × (Nat → (St2 × Int64)) × St2 × Value) := f_X7_record_56 aQ N σS σT σR σV σQ σD ra 0
def f_X7_record (aQ : Nat → Nat → Nat) (N : Nat) (σS : St2) (σT : St2) (σR : St2) (σV : St2 × (Nat → Nat)) (σQ : Nat → (St2 × Int64)) (σD : St2) (ra : Value) (x1 : Int32) : Option (Int32 × St2 × (St2 × (Nat → Nat)) × (Nat → (St2 × Int64)) × St2 × Value) := if (bI (f_X7_isEast x1)) = 0 then some ((-2), (f_X6_clear σT), σV, σQ, σD, ra) else if (bI (f_X1_hasRoom σV)) = 0 then some ((-2), (f_X6_clear σT), σV, σQ, σD, ra) else (f_X1_spare σV).bind fun o_6 => oc o_6 (f_X7_record_55 aQ N σS σT σR σV σQ σD ra) fun j_7 => if 8 ≤ j_7 then none else (f_X3_read N σD σT σR (σQ j_7) x1).bind fun o_9 => if (bI o_9.1) = 0 then f_X7_record_55 aQ N σS σT σR σV (va_up σQ j_7 o_9.2.2) o_9.2.1 (.ref (aQ j_7 0)) else f_X7_record_56 aQ N σS σT σR σV (va_up σQ j_7 o_9.2.2) o_9.2.1 (.ref (aQ j_7 0)) 1
set_option maxHeartbeats 4000000 in
set_option maxRecDepth 100000 in
theorem b_X7_record_56 {l : Launch} {D : va_G} {cy : Nat → ClassId} {g : Gs} {p : Program} {e : Env} {s : State} {m : MethodId} {args : Array Value} {below : List Frame} {meth : Method} {c : Code} {A : Nat → Prop} {aH : Nat → Nat} {aS : Nat → Nat} {aT : Nat → Nat} {aR : Nat → Nat} {aV : Nat → Nat} {aD : Nat → Nat} {aQ : Nat → Nat → Nat} {σS : St2} {σR : St2} {N : Nat} {out : Int32 × St2 × (St2 × (Nat → Nat)) × (Nat → (St2 × Int64)) × St2 × Value} (F : Fx p s m args meth c cX7_record RX7 4 (some .int)) (hK : va_K D vwCl (tys cy) s) (hS : St g A s s.heap) (hA : ∀ q, s.heap.size ≤ q → A q) :
    ∀ (σT : St2) (σV : St2 × (Nat → Nat)) (σQ : Nat → (St2 × Int64)) (σD : St2) (ra : Value) (t0 : Int32), f_X7_record_56 aQ N σS σT σR σV σQ σD ra t0 = some out → J p l e { frames := 9, cells := 0, slots := 0, locals := 191 } s m args below meth c 4 (hW D A s (wHs aH aS aT aR aV aD aQ cy σS σT σR σV σQ σD ra)) 0 0 (MQ below (QW D A (some (.int out.1)) (wHs aH aS aT aR aV aD aQ cy σS out.2.1 σR out.2.2.1 out.2.2.2.1 out.2.2.2.2.1 out.2.2.2.2.2)) args s 0 0 A) 56 [(0, .ref (aH 0))] [.int t0] := by
  intro σT σV σQ σD ra t0 hf
  unfold f_X7_record_56 at hf
  refine j_istore_n (pc := 56) (lv' := [(3, .int t0), (0, .ref (aH 0))]) F dX7_record_56 rfl (by decide) rfl ?_
  refine j_aload_n (pc := 57) F 1 dX7_record_57 rfl rfl ?_
  refine jw_get (pc := 58) (v := .ref (aT 0)) F hK ix_7 0 rfl rfl 1 (by decide) tm_227 rfl rfl dX7_record_58 ?_
  refine j_callWp (pc := 61) (st := []) (st1 := []) (w' := wHs aH aS aT aR aV aD aQ cy σS (f_X6_clear σT) σR σV σQ σD ra) F hK hS hA (pm_T _ _ _ _ _ _ _ _ _ _ _ _ _ _) (pm_T _ _ _ _ _ _ _ _ _ _ _ _ _ _) (c_X6_clear (l := l) (D := D) (cy := cy) (g := g) (aT := aT) (rfl : f_X6_clear σT = _)) tm_440 cf_X6_clear (Nat.le_of_ble_eq_true rfl) (Nat.le_of_ble_eq_true rfl) ⟨Nat.zero_le _, Nat.zero_le _⟩ 0 rfl rfl rfl rfl rfl (Nat.le_of_ble_eq_true rfl) rfl dX7_record_61 ?_
  refine j_iload_n (pc := 64) F 0 dX7_record_64 rfl rfl ?_
  refine j_if_eq (pc := 65) (tgt := 78) F dX7_record_65 rfl (fun c_2 => ?_) (fun c_2 => ?_)
  · have hf := of_pos c_2 hf
    refine j_iconst (pc := 78) F (v := (-1)) dX7_record_78 rfl ?_
    have hf := (Option.some.inj hf)
    subst hf
    exact j_iretW (pc := 79) F dX7_record_79 rfl rfl
  · have hf := of_neg c_2 hf
    refine j_aload_n (pc := 68) F 1 dX7_record_68 rfl rfl ?_
    refine jw_get (pc := 69) (v := .ref (aV 0)) F hK ix_7 0 rfl rfl 3 (by decide) tm_229 rfl rfl dX7_record_69 ?_
    refine j_callWp (pc := 72) (st := []) (st1 := [.int ((f_X1_keepSpare σV).1)]) (w' := wHs aH aS aT aR aV aD aQ cy σS (f_X6_clear σT) σR ((f_X1_keepSpare σV).2) σQ σD ra) F hK hS hA (pm_V _ _ _ _ _ _ _ _ _ _ _ _ _ _) (pm_V _ _ _ _ _ _ _ _ _ _ _ _ _ _) (c_X1_keepSpare (l := l) (D := D) (cy := cy) (g := g) (aV := aV) (aQ := aQ) (rfl : f_X1_keepSpare σV = _)) tm_645 cf_X1_keepSpare (Nat.le_of_ble_eq_true rfl) (Nat.le_of_ble_eq_true rfl) ⟨Nat.zero_le _, Nat.zero_le _⟩ 0 rfl rfl rfl rfl rfl (Nat.le_of_ble_eq_true rfl) rfl dX7_record_72 ?_
    refine j_goto (pc := 75) F (tgt := 79) dX7_record_75 rfl ?_
    have hf := (Option.some.inj hf)
    subst hf
    exact j_iretW (pc := 79) F dX7_record_79 rfl rfl
set_option maxHeartbeats 4000000 in
set_option maxRecDepth 100000 in
theorem b_X7_record_55 {l : Launch} {D : va_G} {cy : Nat → ClassId} {g : Gs} {p : Program} {e : Env} {s : State} {m : MethodId} {args : Array Value} {below : List Frame} {meth : Method} {c : Code} {A : Nat → Prop} {aH : Nat → Nat} {aS : Nat → Nat} {aT : Nat → Nat} {aR : Nat → Nat} {aV : Nat → Nat} {aD : Nat → Nat} {aQ : Nat → Nat → Nat} {σS : St2} {σR : St2} {N : Nat} {out : Int32 × St2 × (St2 × (Nat → Nat)) × (Nat → (St2 × Int64)) × St2 × Value} (F : Fx p s m args meth c cX7_record RX7 4 (some .int)) (hK : va_K D vwCl (tys cy) s) (hS : St g A s s.heap) (hA : ∀ q, s.heap.size ≤ q → A q) :
    ∀ (σT : St2) (σV : St2 × (Nat → Nat)) (σQ : Nat → (St2 × Int64)) (σD : St2) (ra : Value), f_X7_record_55 aQ N σS σT σR σV σQ σD ra = some out → J p l e { frames := 9, cells := 0, slots := 0, locals := 191 } s m args below meth c 4 (hW D A s (wHs aH aS aT aR aV aD aQ cy σS σT σR σV σQ σD ra)) 0 0 (MQ below (QW D A (some (.int out.1)) (wHs aH aS aT aR aV aD aQ cy σS out.2.1 σR out.2.2.1 out.2.2.2.1 out.2.2.2.2.1 out.2.2.2.2.2)) args s 0 0 A) 55 [(0, .ref (aH 0))] [] := by
  intro σT σV σQ σD ra hf
  unfold f_X7_record_55 at hf
  refine j_iconst (pc := 55) F (v := 0) dX7_record_55 rfl ?_
  exact b_X7_record_56 F hK hS hA σT σV σQ σD ra 0 hf
set_option maxHeartbeats 4000000 in
set_option maxRecDepth 100000 in
theorem c_X7_record {l : Launch} {D : va_G} {cy : Nat → ClassId} {g : Gs} {aH : Nat → Nat} {aS : Nat → Nat} {aT : Nat → Nat} {aR : Nat → Nat} {aV : Nat → Nat} {aD : Nat → Nat} {aQ : Nat → Nat → Nat} {σS : St2} {σT : St2} {σR : St2} {σV : St2 × (Nat → Nat)} {σQ : Nat → (St2 × Int64)} {σD : St2} {ra : Value} {N : Nat} {x1 : Int32} {out : Int32 × St2 × (St2 × (Nat → Nat)) × (Nat → (St2 × Int64)) × St2 × Value} (hf : f_X7_record aQ N σS σT σR σV σQ σD ra x1 = some out) : CW l D cy g yX7_record cX7_record 4 (some .int) 9 191 (wHs aH aS aT aR aV aD aQ cy σS σT σR σV σQ σD ra) [.ref (aH 0), .int x1] (some (.int out.1)) (wHs aH aS aT aR aV aD aQ cy σS out.2.1 σR out.2.2.1 out.2.2.2.1 out.2.2.2.2.1 out.2.2.2.2.2) := by
  unfold f_X7_record at hf
  refine met_W (lv := [(0, .ref (aH 0)), (1, .int x1)]) (by decide) (Nat.le_of_ble_eq_true rfl) rfl ?_
  intro p e s m args below meth c A F hK hS hA
  refine j_iload_n (pc := 0) F 1 dX7_record_0 rfl rfl ?_
  refine j_callRS (pc := 1) (st := []) (st1 := [.int (bI (f_X7_isEast x1))]) F hK (hpW hS hp_nil) (c_X7_isEast (l := l) (D := D) (cy := cy) (g := g) (rfl : f_X7_isEast x1 = _)) tm_390 cf_X7_isEast (Nat.le_of_ble_eq_true rfl) (Nat.le_of_ble_eq_true rfl) ⟨Nat.zero_le _, Nat.zero_le _⟩ rfl rfl (Nat.le_of_ble_eq_true rfl) rfl dX7_record_1 ?_
  refine j_if_eq (pc := 4) (tgt := 17) F dX7_record_4 rfl (fun c_2 => ?_) (fun c_2 => ?_)
  · have hf := of_pos c_2 hf
    refine j_aload_n (pc := 17) F 0 dX7_record_17 rfl rfl ?_
    refine jw_get (pc := 18) (v := .ref (aT 0)) F hK ix_7 0 rfl rfl 1 (by decide) tm_227 rfl rfl dX7_record_18 ?_
    refine j_callWp (pc := 21) (st := []) (st1 := []) (w' := wHs aH aS aT aR aV aD aQ cy σS (f_X6_clear σT) σR σV σQ σD ra) F hK hS hA (pm_T _ _ _ _ _ _ _ _ _ _ _ _ _ _) (pm_T _ _ _ _ _ _ _ _ _ _ _ _ _ _) (c_X6_clear (l := l) (D := D) (cy := cy) (g := g) (aT := aT) (rfl : f_X6_clear σT = _)) tm_440 cf_X6_clear (Nat.le_of_ble_eq_true rfl) (Nat.le_of_ble_eq_true rfl) ⟨Nat.zero_le _, Nat.zero_le _⟩ 0 rfl rfl rfl rfl rfl (Nat.le_of_ble_eq_true rfl) rfl dX7_record_21 ?_
    refine j_bipush (pc := 24) F (v := (-2)) dX7_record_24 rfl ?_
    have hf := (Option.some.inj hf)
    subst hf
    exact j_iretW (pc := 26) F dX7_record_26 rfl rfl
  · have hf := of_neg c_2 hf
    refine j_aload_n (pc := 7) F 0 dX7_record_7 rfl rfl ?_
    refine jw_get (pc := 8) (v := .ref (aV 0)) F hK ix_7 0 rfl rfl 3 (by decide) tm_229 rfl rfl dX7_record_8 ?_
    refine j_callRV (pc := 11) (st := []) (st1 := [.int (bI (f_X1_hasRoom σV))]) F hK (hpW hS (hp_perm (pm_V _ _ _ _ _ _ _ _ _ _ _ _ _ _))) (c_X1_hasRoom (l := l) (D := D) (cy := cy) (g := g) (aV := aV) (aQ := aQ) (rfl : f_X1_hasRoom σV = _)) tm_457 cf_X1_hasRoom (Nat.le_of_ble_eq_true rfl) (Nat.le_of_ble_eq_true rfl) ⟨Nat.zero_le _, Nat.zero_le _⟩ 0 rfl rfl rfl rfl rfl (Nat.le_of_ble_eq_true rfl) rfl dX7_record_11 ?_
    refine j_if_ne (pc := 14) (tgt := 27) F dX7_record_14 rfl (fun c_5 => ?_) (fun c_5 => ?_)
    · have hf := of_neg c_5 hf
      refine j_aload_n (pc := 27) F 0 dX7_record_27 rfl rfl ?_
      refine jw_get (pc := 28) (v := .ref (aV 0)) F hK ix_7 0 rfl rfl 3 (by decide) tm_229 rfl rfl dX7_record_28 ?_
      obtain ⟨o_6, ho_6, hf⟩ := of_bnd hf
      refine j_callRV (pc := 31) (st := []) (st1 := [va_rf (o_6.map (fun j => aQ j 0))]) F hK (hpW hS (hp_perm (pm_V _ _ _ _ _ _ _ _ _ _ _ _ _ _))) (c_X1_spare (l := l) (D := D) (cy := cy) (g := g) (aV := aV) (aQ := aQ) ho_6) tm_461 cf_X1_spare (Nat.le_of_ble_eq_true rfl) (Nat.le_of_ble_eq_true rfl) ⟨Nat.zero_le _, Nat.zero_le _⟩ 0 rfl rfl rfl rfl rfl (Nat.le_of_ble_eq_true rfl) rfl dX7_record_31 ?_
      rcases o_6 with _ | j_7
      · have hf := oc_n hf
        refine j_stk (st' := [.null]) rfl ?_
        refine j_astore_nN (pc := 34) (lv' := [(2, .null), (0, .ref (aH 0)), (1, .int x1)]) F dX7_record_34 rfl (by decide) rfl ?_
        refine j_aload_nN (pc := 35) F 0 dX7_record_35 rfl rfl ?_
        refine j_ifnullN (pc := 36) F (tgt := 55) dX7_record_36 rfl ?_
        refine j_sub [1] rfl ?_
        exact b_X7_record_55 F hK hS hA σT σV σQ σD ra hf
      · have hf := oc_s hf
        refine j_stk (st' := [.ref (aQ j_7 0)]) rfl ?_
        refine j_astore_n (pc := 34) (lv' := [(2, .ref (aQ j_7 0)), (0, .ref (aH 0)), (1, .int x1)]) F dX7_record_34 rfl (by decide) rfl ?_
        refine j_aload_n (pc := 35) F 0 dX7_record_35 rfl rfl ?_
        refine j_ifnull (pc := 36) F dX7_record_36 ?_
        refine j_aload_n (pc := 39) F 1 dX7_record_39 rfl rfl ?_
        refine jw_get (pc := 40) (v := .ref (aD 0)) F hK ix_7 0 rfl rfl 4 (by decide) tm_230 rfl rfl dX7_record_40 ?_
        refine j_aload_n (pc := 43) F 0 dX7_record_43 rfl rfl ?_
        refine j_iload_n (pc := 44) F 2 dX7_record_44 rfl rfl ?_
        have c_8 : ¬ 8 ≤ j_7 := fun z => by rw [if_pos z] at hf; cases hf
        have hf := of_neg c_8 hf
        rcases lt8 c_8 with rfl | rfl | rfl | rfl | rfl | rfl | rfl | rfl
        · obtain ⟨o_9, ho_9, hf⟩ := of_bnd hf
          refine j_callWp (pc := 45) (st := []) (st1 := [.int (bI o_9.1)]) (w' := wHs aH aS aT aR aV aD aQ cy σS σT σR σV (va_up σQ 0 o_9.2.2) o_9.2.1 (.ref (aQ 0 0))) F hK hS hA (pa4 (pm_DTRA0 _ _ _ _ _ _ _ _ _ _ _ _ _ _)) (pa4 (pm_DTRA0 _ _ _ _ _ _ _ _ _ _ _ _ _ _)) (c_X3_read (l := l) (D := D) (cy := cy) (g := g) (aD := aD) (aT := aT) (aR := aR) (aA := aQ 0) (ra := ra) ho_9) tm_466 cf_X3_read (Nat.le_of_ble_eq_true rfl) (Nat.le_of_ble_eq_true rfl) ⟨Nat.zero_le _, Nat.zero_le _⟩ 0 rfl rfl rfl rfl rfl (Nat.le_of_ble_eq_true rfl) rfl dX7_record_45 ?_
          refine j_if_eq (pc := 48) (tgt := 55) F dX7_record_48 rfl (fun c_10 => ?_) (fun c_10 => ?_)
          · have hf := of_pos c_10 hf
            refine j_sub [1] rfl ?_
            exact b_X7_record_55 F hK hS hA σT σV (va_up σQ 0 o_9.2.2) o_9.2.1 (.ref (aQ 0 0)) hf
          · have hf := of_neg c_10 hf
            refine j_iconst (pc := 51) F (v := 1) dX7_record_51 rfl ?_
            refine j_goto (pc := 52) F (tgt := 56) dX7_record_52 rfl ?_
            refine j_sub [1] rfl ?_
            exact b_X7_record_56 F hK hS hA σT σV (va_up σQ 0 o_9.2.2) o_9.2.1 (.ref (aQ 0 0)) 1 hf
        · obtain ⟨o_9, ho_9, hf⟩ := of_bnd hf
          refine j_callWp (pc := 45) (st := []) (st1 := [.int (bI o_9.1)]) (w' := wHs aH aS aT aR aV aD aQ cy σS σT σR σV (va_up σQ 1 o_9.2.2) o_9.2.1 (.ref (aQ 1 0))) F hK hS hA (pa4 (pm_DTRA1 _ _ _ _ _ _ _ _ _ _ _ _ _ _)) (pa4 (pm_DTRA1 _ _ _ _ _ _ _ _ _ _ _ _ _ _)) (c_X3_read (l := l) (D := D) (cy := cy) (g := g) (aD := aD) (aT := aT) (aR := aR) (aA := aQ 1) (ra := ra) ho_9) tm_466 cf_X3_read (Nat.le_of_ble_eq_true rfl) (Nat.le_of_ble_eq_true rfl) ⟨Nat.zero_le _, Nat.zero_le _⟩ 0 rfl rfl rfl rfl rfl (Nat.le_of_ble_eq_true rfl) rfl dX7_record_45 ?_
          refine j_if_eq (pc := 48) (tgt := 55) F dX7_record_48 rfl (fun c_10 => ?_) (fun c_10 => ?_)
          · have hf := of_pos c_10 hf
            refine j_sub [1] rfl ?_
            exact b_X7_record_55 F hK hS hA σT σV (va_up σQ 1 o_9.2.2) o_9.2.1 (.ref (aQ 1 0)) hf
          · have hf := of_neg c_10 hf
            refine j_iconst (pc := 51) F (v := 1) dX7_record_51 rfl ?_
            refine j_goto (pc := 52) F (tgt := 56) dX7_record_52 rfl ?_
            refine j_sub [1] rfl ?_
            exact b_X7_record_56 F hK hS hA σT σV (va_up σQ 1 o_9.2.2) o_9.2.1 (.ref (aQ 1 0)) 1 hf
        · obtain ⟨o_9, ho_9, hf⟩ := of_bnd hf
          refine j_callWp (pc := 45) (st := []) (st1 := [.int (bI o_9.1)]) (w' := wHs aH aS aT aR aV aD aQ cy σS σT σR σV (va_up σQ 2 o_9.2.2) o_9.2.1 (.ref (aQ 2 0))) F hK hS hA (pa4 (pm_DTRA2 _ _ _ _ _ _ _ _ _ _ _ _ _ _)) (pa4 (pm_DTRA2 _ _ _ _ _ _ _ _ _ _ _ _ _ _)) (c_X3_read (l := l) (D := D) (cy := cy) (g := g) (aD := aD) (aT := aT) (aR := aR) (aA := aQ 2) (ra := ra) ho_9) tm_466 cf_X3_read (Nat.le_of_ble_eq_true rfl) (Nat.le_of_ble_eq_true rfl) ⟨Nat.zero_le _, Nat.zero_le _⟩ 0 rfl rfl rfl rfl rfl (Nat.le_of_ble_eq_true rfl) rfl dX7_record_45 ?_
          refine j_if_eq (pc := 48) (tgt := 55) F dX7_record_48 rfl (fun c_10 => ?_) (fun c_10 => ?_)
          · have hf := of_pos c_10 hf
            refine j_sub [1] rfl ?_
            exact b_X7_record_55 F hK hS hA σT σV (va_up σQ 2 o_9.2.2) o_9.2.1 (.ref (aQ 2 0)) hf
          · have hf := of_neg c_10 hf
            refine j_iconst (pc := 51) F (v := 1) dX7_record_51 rfl ?_
            refine j_goto (pc := 52) F (tgt := 56) dX7_record_52 rfl ?_
            refine j_sub [1] rfl ?_
            exact b_X7_record_56 F hK hS hA σT σV (va_up σQ 2 o_9.2.2) o_9.2.1 (.ref (aQ 2 0)) 1 hf
        · obtain ⟨o_9, ho_9, hf⟩ := of_bnd hf
          refine j_callWp (pc := 45) (st := []) (st1 := [.int (bI o_9.1)]) (w' := wHs aH aS aT aR aV aD aQ cy σS σT σR σV (va_up σQ 3 o_9.2.2) o_9.2.1 (.ref (aQ 3 0))) F hK hS hA (pa4 (pm_DTRA3 _ _ _ _ _ _ _ _ _ _ _ _ _ _)) (pa4 (pm_DTRA3 _ _ _ _ _ _ _ _ _ _ _ _ _ _)) (c_X3_read (l := l) (D := D) (cy := cy) (g := g) (aD := aD) (aT := aT) (aR := aR) (aA := aQ 3) (ra := ra) ho_9) tm_466 cf_X3_read (Nat.le_of_ble_eq_true rfl) (Nat.le_of_ble_eq_true rfl) ⟨Nat.zero_le _, Nat.zero_le _⟩ 0 rfl rfl rfl rfl rfl (Nat.le_of_ble_eq_true rfl) rfl dX7_record_45 ?_
          refine j_if_eq (pc := 48) (tgt := 55) F dX7_record_48 rfl (fun c_10 => ?_) (fun c_10 => ?_)
          · have hf := of_pos c_10 hf
            refine j_sub [1] rfl ?_
            exact b_X7_record_55 F hK hS hA σT σV (va_up σQ 3 o_9.2.2) o_9.2.1 (.ref (aQ 3 0)) hf
          · have hf := of_neg c_10 hf
            refine j_iconst (pc := 51) F (v := 1) dX7_record_51 rfl ?_
            refine j_goto (pc := 52) F (tgt := 56) dX7_record_52 rfl ?_
            refine j_sub [1] rfl ?_
            exact b_X7_record_56 F hK hS hA σT σV (va_up σQ 3 o_9.2.2) o_9.2.1 (.ref (aQ 3 0)) 1 hf
        · obtain ⟨o_9, ho_9, hf⟩ := of_bnd hf
          refine j_callWp (pc := 45) (st := []) (st1 := [.int (bI o_9.1)]) (w' := wHs aH aS aT aR aV aD aQ cy σS σT σR σV (va_up σQ 4 o_9.2.2) o_9.2.1 (.ref (aQ 4 0))) F hK hS hA (pa4 (pm_DTRA4 _ _ _ _ _ _ _ _ _ _ _ _ _ _)) (pa4 (pm_DTRA4 _ _ _ _ _ _ _ _ _ _ _ _ _ _)) (c_X3_read (l := l) (D := D) (cy := cy) (g := g) (aD := aD) (aT := aT) (aR := aR) (aA := aQ 4) (ra := ra) ho_9) tm_466 cf_X3_read (Nat.le_of_ble_eq_true rfl) (Nat.le_of_ble_eq_true rfl) ⟨Nat.zero_le _, Nat.zero_le _⟩ 0 rfl rfl rfl rfl rfl (Nat.le_of_ble_eq_true rfl) rfl dX7_record_45 ?_
          refine j_if_eq (pc := 48) (tgt := 55) F dX7_record_48 rfl (fun c_10 => ?_) (fun c_10 => ?_)
          · have hf := of_pos c_10 hf
            refine j_sub [1] rfl ?_
            exact b_X7_record_55 F hK hS hA σT σV (va_up σQ 4 o_9.2.2) o_9.2.1 (.ref (aQ 4 0)) hf
          · have hf := of_neg c_10 hf
            refine j_iconst (pc := 51) F (v := 1) dX7_record_51 rfl ?_
            refine j_goto (pc := 52) F (tgt := 56) dX7_record_52 rfl ?_
            refine j_sub [1] rfl ?_
            exact b_X7_record_56 F hK hS hA σT σV (va_up σQ 4 o_9.2.2) o_9.2.1 (.ref (aQ 4 0)) 1 hf
        · obtain ⟨o_9, ho_9, hf⟩ := of_bnd hf
          refine j_callWp (pc := 45) (st := []) (st1 := [.int (bI o_9.1)]) (w' := wHs aH aS aT aR aV aD aQ cy σS σT σR σV (va_up σQ 5 o_9.2.2) o_9.2.1 (.ref (aQ 5 0))) F hK hS hA (pa4 (pm_DTRA5 _ _ _ _ _ _ _ _ _ _ _ _ _ _)) (pa4 (pm_DTRA5 _ _ _ _ _ _ _ _ _ _ _ _ _ _)) (c_X3_read (l := l) (D := D) (cy := cy) (g := g) (aD := aD) (aT := aT) (aR := aR) (aA := aQ 5) (ra := ra) ho_9) tm_466 cf_X3_read (Nat.le_of_ble_eq_true rfl) (Nat.le_of_ble_eq_true rfl) ⟨Nat.zero_le _, Nat.zero_le _⟩ 0 rfl rfl rfl rfl rfl (Nat.le_of_ble_eq_true rfl) rfl dX7_record_45 ?_
          refine j_if_eq (pc := 48) (tgt := 55) F dX7_record_48 rfl (fun c_10 => ?_) (fun c_10 => ?_)
          · have hf := of_pos c_10 hf
            refine j_sub [1] rfl ?_
            exact b_X7_record_55 F hK hS hA σT σV (va_up σQ 5 o_9.2.2) o_9.2.1 (.ref (aQ 5 0)) hf
          · have hf := of_neg c_10 hf
            refine j_iconst (pc := 51) F (v := 1) dX7_record_51 rfl ?_
            refine j_goto (pc := 52) F (tgt := 56) dX7_record_52 rfl ?_
            refine j_sub [1] rfl ?_
            exact b_X7_record_56 F hK hS hA σT σV (va_up σQ 5 o_9.2.2) o_9.2.1 (.ref (aQ 5 0)) 1 hf
        · obtain ⟨o_9, ho_9, hf⟩ := of_bnd hf
          refine j_callWp (pc := 45) (st := []) (st1 := [.int (bI o_9.1)]) (w' := wHs aH aS aT aR aV aD aQ cy σS σT σR σV (va_up σQ 6 o_9.2.2) o_9.2.1 (.ref (aQ 6 0))) F hK hS hA (pa4 (pm_DTRA6 _ _ _ _ _ _ _ _ _ _ _ _ _ _)) (pa4 (pm_DTRA6 _ _ _ _ _ _ _ _ _ _ _ _ _ _)) (c_X3_read (l := l) (D := D) (cy := cy) (g := g) (aD := aD) (aT := aT) (aR := aR) (aA := aQ 6) (ra := ra) ho_9) tm_466 cf_X3_read (Nat.le_of_ble_eq_true rfl) (Nat.le_of_ble_eq_true rfl) ⟨Nat.zero_le _, Nat.zero_le _⟩ 0 rfl rfl rfl rfl rfl (Nat.le_of_ble_eq_true rfl) rfl dX7_record_45 ?_
          refine j_if_eq (pc := 48) (tgt := 55) F dX7_record_48 rfl (fun c_10 => ?_) (fun c_10 => ?_)
          · have hf := of_pos c_10 hf
            refine j_sub [1] rfl ?_
            exact b_X7_record_55 F hK hS hA σT σV (va_up σQ 6 o_9.2.2) o_9.2.1 (.ref (aQ 6 0)) hf
          · have hf := of_neg c_10 hf
            refine j_iconst (pc := 51) F (v := 1) dX7_record_51 rfl ?_
            refine j_goto (pc := 52) F (tgt := 56) dX7_record_52 rfl ?_
            refine j_sub [1] rfl ?_
            exact b_X7_record_56 F hK hS hA σT σV (va_up σQ 6 o_9.2.2) o_9.2.1 (.ref (aQ 6 0)) 1 hf
        · obtain ⟨o_9, ho_9, hf⟩ := of_bnd hf
          refine j_callWp (pc := 45) (st := []) (st1 := [.int (bI o_9.1)]) (w' := wHs aH aS aT aR aV aD aQ cy σS σT σR σV (va_up σQ 7 o_9.2.2) o_9.2.1 (.ref (aQ 7 0))) F hK hS hA (pa4 (pm_DTRA7 _ _ _ _ _ _ _ _ _ _ _ _ _ _)) (pa4 (pm_DTRA7 _ _ _ _ _ _ _ _ _ _ _ _ _ _)) (c_X3_read (l := l) (D := D) (cy := cy) (g := g) (aD := aD) (aT := aT) (aR := aR) (aA := aQ 7) (ra := ra) ho_9) tm_466 cf_X3_read (Nat.le_of_ble_eq_true rfl) (Nat.le_of_ble_eq_true rfl) ⟨Nat.zero_le _, Nat.zero_le _⟩ 0 rfl rfl rfl rfl rfl (Nat.le_of_ble_eq_true rfl) rfl dX7_record_45 ?_
          refine j_if_eq (pc := 48) (tgt := 55) F dX7_record_48 rfl (fun c_10 => ?_) (fun c_10 => ?_)
          · have hf := of_pos c_10 hf
            refine j_sub [1] rfl ?_
            exact b_X7_record_55 F hK hS hA σT σV (va_up σQ 7 o_9.2.2) o_9.2.1 (.ref (aQ 7 0)) hf
          · have hf := of_neg c_10 hf
            refine j_iconst (pc := 51) F (v := 1) dX7_record_51 rfl ?_
            refine j_goto (pc := 52) F (tgt := 56) dX7_record_52 rfl ?_
            refine j_sub [1] rfl ?_
            exact b_X7_record_56 F hK hS hA σT σV (va_up σQ 7 o_9.2.2) o_9.2.1 (.ref (aQ 7 0)) 1 hf
    · have hf := of_pos c_5 hf
      refine j_aload_n (pc := 17) F 0 dX7_record_17 rfl rfl ?_
      refine jw_get (pc := 18) (v := .ref (aT 0)) F hK ix_7 0 rfl rfl 1 (by decide) tm_227 rfl rfl dX7_record_18 ?_
      refine j_callWp (pc := 21) (st := []) (st1 := []) (w' := wHs aH aS aT aR aV aD aQ cy σS (f_X6_clear σT) σR σV σQ σD ra) F hK hS hA (pm_T _ _ _ _ _ _ _ _ _ _ _ _ _ _) (pm_T _ _ _ _ _ _ _ _ _ _ _ _ _ _) (c_X6_clear (l := l) (D := D) (cy := cy) (g := g) (aT := aT) (rfl : f_X6_clear σT = _)) tm_440 cf_X6_clear (Nat.le_of_ble_eq_true rfl) (Nat.le_of_ble_eq_true rfl) ⟨Nat.zero_le _, Nat.zero_le _⟩ 0 rfl rfl rfl rfl rfl (Nat.le_of_ble_eq_true rfl) rfl dX7_record_21 ?_
      refine j_bipush (pc := 24) F (v := (-2)) dX7_record_24 rfl ?_
      have hf := (Option.some.inj hf)
      subst hf
      exact j_iretW (pc := 26) F dX7_record_26 rfl rfl
theorem cf_X7_record : cfV yX7_record cX7_record 4 (some .int) 1 := ⟨tm_454, tm_455, tm_53, tm_456, by decide, by decide, by decide +kernel⟩

def f_X7_fault (σS : St2) (σT : St2) (σR : St2) (σV : St2 × (Nat → Nat)) (σQ : Nat → (St2 × Int64)) (σD : St2) (ra : Value) (x1 : Int32) : Int32 := if x1 = 0 then f_X3_faultKind σD else if x1 = 1 then f_X3_faultPlace σD else (-1)
set_option maxHeartbeats 4000000 in
set_option maxRecDepth 100000 in
theorem c_X7_fault {l : Launch} {D : va_G} {cy : Nat → ClassId} {g : Gs} {aH : Nat → Nat} {aS : Nat → Nat} {aT : Nat → Nat} {aR : Nat → Nat} {aV : Nat → Nat} {aD : Nat → Nat} {aQ : Nat → Nat → Nat} {σS : St2} {σT : St2} {σR : St2} {σV : St2 × (Nat → Nat)} {σQ : Nat → (St2 × Int64)} {σD : St2} {ra : Value} {x1 : Int32} {out : Int32} (hf : f_X7_fault σS σT σR σV σQ σD ra x1 = out) : CR l D cy g yX7_fault cX7_fault 2 (some .int) 1 20 (wHs aH aS aT aR aV aD aQ cy σS σT σR σV σQ σD ra) [.ref (aH 0), .int x1] (some (.int out)) := by
  unfold f_X7_fault at hf
  refine met_R (lv := [(0, .ref (aH 0)), (1, .int x1)]) (by decide) (Nat.le_of_ble_eq_true rfl) rfl ?_
  intro p e s m args below meth c F hP hK hS
  refine j_iload_n (pc := 0) F 1 dX7_fault_0 rfl rfl ?_
  by_cases c_1 : x1 = 0
  · have hf := of_pos c_1 hf
    refine j_look (pc := 1) (tgt := 28) (off := 27) F dX7_fault_1 rfl (by rw [c_1]; rfl) rfl ?_
    refine j_aload_n (pc := 28) F 0 dX7_fault_28 rfl rfl ?_
    refine jr_get (pc := 29) (v := .ref (aD 0)) F hK hP ix_7 0 rfl rfl 4 (by decide) tm_230 rfl rfl dX7_fault_29 ?_
    refine j_callRV (pc := 32) (st := []) (st1 := [.int (f_X3_faultKind σD)]) F hK (hpR hP hS (hp_perm (pm_D _ _ _ _ _ _ _ _ _ _ _ _ _ _))) (c_X3_faultKind (l := l) (D := D) (cy := cy) (g := g) (aD := aD) (aT := aT) (aR := aR) (ra := ra) (rfl : f_X3_faultKind σD = _)) tm_654 cf_X3_faultKind (Nat.le_of_ble_eq_true rfl) (Nat.le_of_ble_eq_true rfl) ⟨Nat.zero_le _, Nat.zero_le _⟩ 0 rfl rfl rfl rfl rfl (Nat.le_of_ble_eq_true rfl) rfl dX7_fault_32 ?_
    exact j_iretR (pc := 35) F dX7_fault_35 hf
  · have hf := of_neg c_1 hf
    by_cases c_3 : x1 = 1
    · have hf := of_pos c_3 hf
      refine j_look (pc := 1) (tgt := 36) (off := 35) F dX7_fault_1 rfl (by rw [c_3]; rfl) rfl ?_
      refine j_aload_n (pc := 36) F 0 dX7_fault_36 rfl rfl ?_
      refine jr_get (pc := 37) (v := .ref (aD 0)) F hK hP ix_7 0 rfl rfl 4 (by decide) tm_230 rfl rfl dX7_fault_37 ?_
      refine j_callRV (pc := 40) (st := []) (st1 := [.int (f_X3_faultPlace σD)]) F hK (hpR hP hS (hp_perm (pm_D _ _ _ _ _ _ _ _ _ _ _ _ _ _))) (c_X3_faultPlace (l := l) (D := D) (cy := cy) (g := g) (aD := aD) (aT := aT) (aR := aR) (ra := ra) (rfl : f_X3_faultPlace σD = _)) tm_658 cf_X3_faultPlace (Nat.le_of_ble_eq_true rfl) (Nat.le_of_ble_eq_true rfl) ⟨Nat.zero_le _, Nat.zero_le _⟩ 0 rfl rfl rfl rfl rfl (Nat.le_of_ble_eq_true rfl) rfl dX7_fault_40 ?_
      exact j_iretR (pc := 43) F dX7_fault_43 hf
    · have hf := of_neg c_3 hf
      refine j_look (pc := 1) (tgt := 44) (off := 43) F dX7_fault_1 rfl ((lv_osw c_1 rfl).trans ((lv_osw c_3 rfl).trans rfl)) rfl ?_
      refine j_iconst (pc := 44) F (v := (-1)) dX7_fault_44 rfl ?_
      exact j_iretR (pc := 45) F dX7_fault_45 hf
theorem cf_X7_fault : cfV yX7_fault cX7_fault 2 (some .int) 1 := ⟨tm_651, tm_652, tm_53, tm_653, by decide, by decide, by decide +kernel⟩

def f_X7_means (N : Nat) (σS : St2) (σT : St2) (σR : St2) (σV : St2 × (Nat → Nat)) (σQ : Nat → (St2 × Int64)) (σD : St2) (ra : Value) (x1 : Int32) (x2 : Int32) : Option (Int32 × St2) := (f_X1_find σV x1).bind fun o_1 => oc o_1 (some ((-1), σS)) fun j_2 => if (bI (f_X7_isSlow x2)) = 0 then some ((-1), σS) else if 8 ≤ j_2 then none else (f_X0_countMeant N (σQ j_2) σS x2).bind fun o_6 => some (o_6.1, o_6.2)
set_option maxHeartbeats 4000000 in
set_option maxRecDepth 100000 in
theorem c_X7_means {l : Launch} {D : va_G} {cy : Nat → ClassId} {g : Gs} {aH : Nat → Nat} {aS : Nat → Nat} {aT : Nat → Nat} {aR : Nat → Nat} {aV : Nat → Nat} {aD : Nat → Nat} {aQ : Nat → Nat → Nat} {σS : St2} {σT : St2} {σR : St2} {σV : St2 × (Nat → Nat)} {σQ : Nat → (St2 × Int64)} {σD : St2} {ra : Value} {N : Nat} {x1 : Int32} {x2 : Int32} {out : Int32 × St2} (hf : f_X7_means N σS σT σR σV σQ σD ra x1 x2 = some out) : CW l D cy g yX7_means cX7_means 4 (some .int) 6 137 (wHs aH aS aT aR aV aD aQ cy σS σT σR σV σQ σD ra) [.ref (aH 0), .int x1, .int x2] (some (.int out.1)) (wHs aH aS aT aR aV aD aQ cy out.2 σT σR σV σQ σD ra) := by
  unfold f_X7_means at hf
  refine met_W (lv := [(0, .ref (aH 0)), (1, .int x1), (2, .int x2)]) (by decide) (Nat.le_of_ble_eq_true rfl) rfl ?_
  intro p e s m args below meth c A F hK hS hA
  refine j_aload_n (pc := 0) F 0 dX7_means_0 rfl rfl ?_
  refine jw_get (pc := 1) (v := .ref (aV 0)) F hK ix_7 0 rfl rfl 3 (by decide) tm_229 rfl rfl dX7_means_1 ?_
  refine j_iload_n (pc := 4) F 1 dX7_means_4 rfl rfl ?_
  obtain ⟨o_1, ho_1, hf⟩ := of_bnd hf
  refine j_callRV (pc := 5) (st := []) (st1 := [va_rf (o_1.map (fun j => aQ j 0))]) F hK (hpW hS (hp_perm (pm_V _ _ _ _ _ _ _ _ _ _ _ _ _ _))) (c_X1_find (l := l) (D := D) (cy := cy) (g := g) (aV := aV) (aQ := aQ) ho_1) tm_666 cf_X1_find (Nat.le_of_ble_eq_true rfl) (Nat.le_of_ble_eq_true rfl) ⟨Nat.zero_le _, Nat.zero_le _⟩ 0 rfl rfl rfl rfl rfl (Nat.le_of_ble_eq_true rfl) rfl dX7_means_5 ?_
  rcases o_1 with _ | j_2
  · have hf := oc_n hf
    refine j_stk (st' := [.null]) rfl ?_
    refine j_astore_nN (pc := 8) (lv' := [(3, .null), (0, .ref (aH 0)), (1, .int x1), (2, .int x2)]) F dX7_means_8 rfl (by decide) rfl ?_
    refine j_aload_nN (pc := 9) F 0 dX7_means_9 rfl rfl ?_
    refine j_ifnullN (pc := 10) F (tgt := 20) dX7_means_10 rfl ?_
    refine j_iconst (pc := 20) F (v := (-1)) dX7_means_20 rfl ?_
    have hf := (Option.some.inj hf)
    subst hf
    exact j_iretW (pc := 21) F dX7_means_21 rfl rfl
  · have hf := oc_s hf
    refine j_stk (st' := [.ref (aQ j_2 0)]) rfl ?_
    refine j_astore_n (pc := 8) (lv' := [(3, .ref (aQ j_2 0)), (0, .ref (aH 0)), (1, .int x1), (2, .int x2)]) F dX7_means_8 rfl (by decide) rfl ?_
    refine j_aload_n (pc := 9) F 0 dX7_means_9 rfl rfl ?_
    refine j_ifnull (pc := 10) F dX7_means_10 ?_
    refine j_iload_n (pc := 13) F 3 dX7_means_13 rfl rfl ?_
    refine j_callRS (pc := 14) (st := []) (st1 := [.int (bI (f_X7_isSlow x2))]) F hK (hpW hS hp_nil) (c_X7_isSlow (l := l) (D := D) (cy := cy) (g := g) (rfl : f_X7_isSlow x2 = _)) tm_393 cf_X7_isSlow (Nat.le_of_ble_eq_true rfl) (Nat.le_of_ble_eq_true rfl) ⟨Nat.zero_le _, Nat.zero_le _⟩ rfl rfl (Nat.le_of_ble_eq_true rfl) rfl dX7_means_14 ?_
    refine j_if_ne (pc := 17) (tgt := 22) F dX7_means_17 rfl (fun c_4 => ?_) (fun c_4 => ?_)
    · have hf := of_neg c_4 hf
      refine j_aload_n (pc := 22) F 0 dX7_means_22 rfl rfl ?_
      refine j_aload_n (pc := 23) F 1 dX7_means_23 rfl rfl ?_
      refine jw_get (pc := 24) (v := .ref (aS 0)) F hK ix_7 0 rfl rfl 0 (by decide) tm_226 rfl rfl dX7_means_24 ?_
      refine j_iload_n (pc := 27) F 3 dX7_means_27 rfl rfl ?_
      have c_5 : ¬ 8 ≤ j_2 := fun z => by rw [if_pos z] at hf; cases hf
      have hf := of_neg c_5 hf
      rcases lt8 c_5 with rfl | rfl | rfl | rfl | rfl | rfl | rfl | rfl
      · obtain ⟨o_6, ho_6, hf⟩ := of_bnd hf
        refine j_callWp (pc := 28) (st := []) (st1 := [.int o_6.1]) (w' := wHs aH aS aT aR aV aD aQ cy o_6.2 σT σR σV σQ σD ra) F hK hS hA (pa2 (pm_AS0 _ _ _ _ _ _ _ _ _ _ _ _ _ _)) (pa2 (pm_AS0 _ _ _ _ _ _ _ _ _ _ _ _ _ _)) (c_X0_countMeant (l := l) (D := D) (cy := cy) (g := g) (aA := aQ 0) (aS := aS) ho_6) tm_670 cf_X0_countMeant (Nat.le_of_ble_eq_true rfl) (Nat.le_of_ble_eq_true rfl) ⟨Nat.zero_le _, Nat.zero_le _⟩ 0 rfl rfl rfl rfl rfl (Nat.le_of_ble_eq_true rfl) rfl dX7_means_28 ?_
        have hf := (Option.some.inj hf)
        subst hf
        exact j_iretW (pc := 31) F dX7_means_31 rfl rfl
      · obtain ⟨o_6, ho_6, hf⟩ := of_bnd hf
        refine j_callWp (pc := 28) (st := []) (st1 := [.int o_6.1]) (w' := wHs aH aS aT aR aV aD aQ cy o_6.2 σT σR σV σQ σD ra) F hK hS hA (pa2 (pm_AS1 _ _ _ _ _ _ _ _ _ _ _ _ _ _)) (pa2 (pm_AS1 _ _ _ _ _ _ _ _ _ _ _ _ _ _)) (c_X0_countMeant (l := l) (D := D) (cy := cy) (g := g) (aA := aQ 1) (aS := aS) ho_6) tm_670 cf_X0_countMeant (Nat.le_of_ble_eq_true rfl) (Nat.le_of_ble_eq_true rfl) ⟨Nat.zero_le _, Nat.zero_le _⟩ 0 rfl rfl rfl rfl rfl (Nat.le_of_ble_eq_true rfl) rfl dX7_means_28 ?_
        have hf := (Option.some.inj hf)
        subst hf
        exact j_iretW (pc := 31) F dX7_means_31 rfl rfl
      · obtain ⟨o_6, ho_6, hf⟩ := of_bnd hf
        refine j_callWp (pc := 28) (st := []) (st1 := [.int o_6.1]) (w' := wHs aH aS aT aR aV aD aQ cy o_6.2 σT σR σV σQ σD ra) F hK hS hA (pa2 (pm_AS2 _ _ _ _ _ _ _ _ _ _ _ _ _ _)) (pa2 (pm_AS2 _ _ _ _ _ _ _ _ _ _ _ _ _ _)) (c_X0_countMeant (l := l) (D := D) (cy := cy) (g := g) (aA := aQ 2) (aS := aS) ho_6) tm_670 cf_X0_countMeant (Nat.le_of_ble_eq_true rfl) (Nat.le_of_ble_eq_true rfl) ⟨Nat.zero_le _, Nat.zero_le _⟩ 0 rfl rfl rfl rfl rfl (Nat.le_of_ble_eq_true rfl) rfl dX7_means_28 ?_
        have hf := (Option.some.inj hf)
        subst hf
        exact j_iretW (pc := 31) F dX7_means_31 rfl rfl
      · obtain ⟨o_6, ho_6, hf⟩ := of_bnd hf
        refine j_callWp (pc := 28) (st := []) (st1 := [.int o_6.1]) (w' := wHs aH aS aT aR aV aD aQ cy o_6.2 σT σR σV σQ σD ra) F hK hS hA (pa2 (pm_AS3 _ _ _ _ _ _ _ _ _ _ _ _ _ _)) (pa2 (pm_AS3 _ _ _ _ _ _ _ _ _ _ _ _ _ _)) (c_X0_countMeant (l := l) (D := D) (cy := cy) (g := g) (aA := aQ 3) (aS := aS) ho_6) tm_670 cf_X0_countMeant (Nat.le_of_ble_eq_true rfl) (Nat.le_of_ble_eq_true rfl) ⟨Nat.zero_le _, Nat.zero_le _⟩ 0 rfl rfl rfl rfl rfl (Nat.le_of_ble_eq_true rfl) rfl dX7_means_28 ?_
        have hf := (Option.some.inj hf)
        subst hf
        exact j_iretW (pc := 31) F dX7_means_31 rfl rfl
      · obtain ⟨o_6, ho_6, hf⟩ := of_bnd hf
        refine j_callWp (pc := 28) (st := []) (st1 := [.int o_6.1]) (w' := wHs aH aS aT aR aV aD aQ cy o_6.2 σT σR σV σQ σD ra) F hK hS hA (pa2 (pm_AS4 _ _ _ _ _ _ _ _ _ _ _ _ _ _)) (pa2 (pm_AS4 _ _ _ _ _ _ _ _ _ _ _ _ _ _)) (c_X0_countMeant (l := l) (D := D) (cy := cy) (g := g) (aA := aQ 4) (aS := aS) ho_6) tm_670 cf_X0_countMeant (Nat.le_of_ble_eq_true rfl) (Nat.le_of_ble_eq_true rfl) ⟨Nat.zero_le _, Nat.zero_le _⟩ 0 rfl rfl rfl rfl rfl (Nat.le_of_ble_eq_true rfl) rfl dX7_means_28 ?_
        have hf := (Option.some.inj hf)
        subst hf
        exact j_iretW (pc := 31) F dX7_means_31 rfl rfl
      · obtain ⟨o_6, ho_6, hf⟩ := of_bnd hf
        refine j_callWp (pc := 28) (st := []) (st1 := [.int o_6.1]) (w' := wHs aH aS aT aR aV aD aQ cy o_6.2 σT σR σV σQ σD ra) F hK hS hA (pa2 (pm_AS5 _ _ _ _ _ _ _ _ _ _ _ _ _ _)) (pa2 (pm_AS5 _ _ _ _ _ _ _ _ _ _ _ _ _ _)) (c_X0_countMeant (l := l) (D := D) (cy := cy) (g := g) (aA := aQ 5) (aS := aS) ho_6) tm_670 cf_X0_countMeant (Nat.le_of_ble_eq_true rfl) (Nat.le_of_ble_eq_true rfl) ⟨Nat.zero_le _, Nat.zero_le _⟩ 0 rfl rfl rfl rfl rfl (Nat.le_of_ble_eq_true rfl) rfl dX7_means_28 ?_
        have hf := (Option.some.inj hf)
        subst hf
        exact j_iretW (pc := 31) F dX7_means_31 rfl rfl
      · obtain ⟨o_6, ho_6, hf⟩ := of_bnd hf
        refine j_callWp (pc := 28) (st := []) (st1 := [.int o_6.1]) (w' := wHs aH aS aT aR aV aD aQ cy o_6.2 σT σR σV σQ σD ra) F hK hS hA (pa2 (pm_AS6 _ _ _ _ _ _ _ _ _ _ _ _ _ _)) (pa2 (pm_AS6 _ _ _ _ _ _ _ _ _ _ _ _ _ _)) (c_X0_countMeant (l := l) (D := D) (cy := cy) (g := g) (aA := aQ 6) (aS := aS) ho_6) tm_670 cf_X0_countMeant (Nat.le_of_ble_eq_true rfl) (Nat.le_of_ble_eq_true rfl) ⟨Nat.zero_le _, Nat.zero_le _⟩ 0 rfl rfl rfl rfl rfl (Nat.le_of_ble_eq_true rfl) rfl dX7_means_28 ?_
        have hf := (Option.some.inj hf)
        subst hf
        exact j_iretW (pc := 31) F dX7_means_31 rfl rfl
      · obtain ⟨o_6, ho_6, hf⟩ := of_bnd hf
        refine j_callWp (pc := 28) (st := []) (st1 := [.int o_6.1]) (w' := wHs aH aS aT aR aV aD aQ cy o_6.2 σT σR σV σQ σD ra) F hK hS hA (pa2 (pm_AS7 _ _ _ _ _ _ _ _ _ _ _ _ _ _)) (pa2 (pm_AS7 _ _ _ _ _ _ _ _ _ _ _ _ _ _)) (c_X0_countMeant (l := l) (D := D) (cy := cy) (g := g) (aA := aQ 7) (aS := aS) ho_6) tm_670 cf_X0_countMeant (Nat.le_of_ble_eq_true rfl) (Nat.le_of_ble_eq_true rfl) ⟨Nat.zero_le _, Nat.zero_le _⟩ 0 rfl rfl rfl rfl rfl (Nat.le_of_ble_eq_true rfl) rfl dX7_means_28 ?_
        have hf := (Option.some.inj hf)
        subst hf
        exact j_iretW (pc := 31) F dX7_means_31 rfl rfl
    · have hf := of_pos c_4 hf
      refine j_iconst (pc := 20) F (v := (-1)) dX7_means_20 rfl ?_
      have hf := (Option.some.inj hf)
      subst hf
      exact j_iretW (pc := 21) F dX7_means_21 rfl rfl
theorem cf_X7_means : cfV yX7_means cX7_means 4 (some .int) 2 := ⟨tm_663, tm_664, tm_53, tm_665, by decide, by decide, by decide +kernel⟩

def f_X7_meant (N : Nat) (σS : St2) (σT : St2) (σR : St2) (σV : St2 × (Nat → Nat)) (σQ : Nat → (St2 × Int64)) (σD : St2) (ra : Value) (x1 : Int32) (x2 : Int32) (x3 : Int32) : Option (Int32 × St2) := (f_X1_find σV x1).bind fun o_1 => oc o_1 (some ((-1), σS)) fun j_2 => if (bI (f_X7_isSlow x2)) = 0 then some ((-1), σS) else if 0 ≤ x3 then if 8 ≤ j_2 then none else (f_X0_findMeant N (σQ j_2) σS x2 x3).bind fun o_7 => some (o_7.1, o_7.2) else some ((-1), σS)
set_option maxHeartbeats 4000000 in
set_option maxRecDepth 100000 in
theorem c_X7_meant {l : Launch} {D : va_G} {cy : Nat → ClassId} {g : Gs} {aH : Nat → Nat} {aS : Nat → Nat} {aT : Nat → Nat} {aR : Nat → Nat} {aV : Nat → Nat} {aD : Nat → Nat} {aQ : Nat → Nat → Nat} {σS : St2} {σT : St2} {σR : St2} {σV : St2 × (Nat → Nat)} {σQ : Nat → (St2 × Int64)} {σD : St2} {ra : Value} {N : Nat} {x1 : Int32} {x2 : Int32} {x3 : Int32} {out : Int32 × St2} (hf : f_X7_meant N σS σT σR σV σQ σD ra x1 x2 x3 = some out) : CW l D cy g yX7_meant cX7_meant 5 (some .int) 6 138 (wHs aH aS aT aR aV aD aQ cy σS σT σR σV σQ σD ra) [.ref (aH 0), .int x1, .int x2, .int x3] (some (.int out.1)) (wHs aH aS aT aR aV aD aQ cy out.2 σT σR σV σQ σD ra) := by
  unfold f_X7_meant at hf
  refine met_W (lv := [(0, .ref (aH 0)), (1, .int x1), (2, .int x2), (3, .int x3)]) (by decide) (Nat.le_of_ble_eq_true rfl) rfl ?_
  intro p e s m args below meth c A F hK hS hA
  refine j_aload_n (pc := 0) F 0 dX7_meant_0 rfl rfl ?_
  refine jw_get (pc := 1) (v := .ref (aV 0)) F hK ix_7 0 rfl rfl 3 (by decide) tm_229 rfl rfl dX7_meant_1 ?_
  refine j_iload_n (pc := 4) F 1 dX7_meant_4 rfl rfl ?_
  obtain ⟨o_1, ho_1, hf⟩ := of_bnd hf
  refine j_callRV (pc := 5) (st := []) (st1 := [va_rf (o_1.map (fun j => aQ j 0))]) F hK (hpW hS (hp_perm (pm_V _ _ _ _ _ _ _ _ _ _ _ _ _ _))) (c_X1_find (l := l) (D := D) (cy := cy) (g := g) (aV := aV) (aQ := aQ) ho_1) tm_666 cf_X1_find (Nat.le_of_ble_eq_true rfl) (Nat.le_of_ble_eq_true rfl) ⟨Nat.zero_le _, Nat.zero_le _⟩ 0 rfl rfl rfl rfl rfl (Nat.le_of_ble_eq_true rfl) rfl dX7_meant_5 ?_
  rcases o_1 with _ | j_2
  · have hf := oc_n hf
    refine j_stk (st' := [.null]) rfl ?_
    refine j_astoreN (pc := 8) (lv' := [(4, .null), (0, .ref (aH 0)), (1, .int x1), (2, .int x2), (3, .int x3)]) F dX7_meant_8 (by decide) rfl ?_
    refine j_aloadN (pc := 10) F 0 dX7_meant_10 rfl ?_
    refine j_ifnullN (pc := 12) F (tgt := 26) dX7_meant_12 rfl ?_
    refine j_iconst (pc := 26) F (v := (-1)) dX7_meant_26 rfl ?_
    have hf := (Option.some.inj hf)
    subst hf
    exact j_iretW (pc := 27) F dX7_meant_27 rfl rfl
  · have hf := oc_s hf
    refine j_stk (st' := [.ref (aQ j_2 0)]) rfl ?_
    refine j_astore (pc := 8) (lv' := [(4, .ref (aQ j_2 0)), (0, .ref (aH 0)), (1, .int x1), (2, .int x2), (3, .int x3)]) F dX7_meant_8 (by decide) rfl ?_
    refine j_aload (pc := 10) F 0 dX7_meant_10 rfl ?_
    refine j_ifnull (pc := 12) F dX7_meant_12 ?_
    refine j_iload_n (pc := 15) F 3 dX7_meant_15 rfl rfl ?_
    refine j_callRS (pc := 16) (st := []) (st1 := [.int (bI (f_X7_isSlow x2))]) F hK (hpW hS hp_nil) (c_X7_isSlow (l := l) (D := D) (cy := cy) (g := g) (rfl : f_X7_isSlow x2 = _)) tm_393 cf_X7_isSlow (Nat.le_of_ble_eq_true rfl) (Nat.le_of_ble_eq_true rfl) ⟨Nat.zero_le _, Nat.zero_le _⟩ rfl rfl (Nat.le_of_ble_eq_true rfl) rfl dX7_meant_16 ?_
    refine j_if_eq (pc := 19) (tgt := 26) F dX7_meant_19 rfl (fun c_4 => ?_) (fun c_4 => ?_)
    · have hf := of_pos c_4 hf
      refine j_iconst (pc := 26) F (v := (-1)) dX7_meant_26 rfl ?_
      have hf := (Option.some.inj hf)
      subst hf
      exact j_iretW (pc := 27) F dX7_meant_27 rfl rfl
    · have hf := of_neg c_4 hf
      refine j_iload_n (pc := 22) F 4 dX7_meant_22 rfl rfl ?_
      refine j_if_ge (pc := 23) (tgt := 28) F dX7_meant_23 rfl (fun c_5 => ?_) (fun c_5 => ?_)
      · have hf := of_pos c_5 hf
        refine j_aload (pc := 28) F 0 dX7_meant_28 rfl ?_
        refine j_aload_n (pc := 30) F 1 dX7_meant_30 rfl rfl ?_
        refine jw_get (pc := 31) (v := .ref (aS 0)) F hK ix_7 0 rfl rfl 0 (by decide) tm_226 rfl rfl dX7_meant_31 ?_
        refine j_iload_n (pc := 34) F 3 dX7_meant_34 rfl rfl ?_
        refine j_iload_n (pc := 35) F 4 dX7_meant_35 rfl rfl ?_
        have c_6 : ¬ 8 ≤ j_2 := fun z => by rw [if_pos z] at hf; cases hf
        have hf := of_neg c_6 hf
        rcases lt8 c_6 with rfl | rfl | rfl | rfl | rfl | rfl | rfl | rfl
        · obtain ⟨o_7, ho_7, hf⟩ := of_bnd hf
          refine j_callWp (pc := 36) (st := []) (st1 := [.int o_7.1]) (w' := wHs aH aS aT aR aV aD aQ cy o_7.2 σT σR σV σQ σD ra) F hK hS hA (pa2 (pm_AS0 _ _ _ _ _ _ _ _ _ _ _ _ _ _)) (pa2 (pm_AS0 _ _ _ _ _ _ _ _ _ _ _ _ _ _)) (c_X0_findMeant (l := l) (D := D) (cy := cy) (g := g) (aA := aQ 0) (aS := aS) ho_7) tm_736 cf_X0_findMeant (Nat.le_of_ble_eq_true rfl) (Nat.le_of_ble_eq_true rfl) ⟨Nat.zero_le _, Nat.zero_le _⟩ 0 rfl rfl rfl rfl rfl (Nat.le_of_ble_eq_true rfl) rfl dX7_meant_36 ?_
          have hf := (Option.some.inj hf)
          subst hf
          exact j_iretW (pc := 39) F dX7_meant_39 rfl rfl
        · obtain ⟨o_7, ho_7, hf⟩ := of_bnd hf
          refine j_callWp (pc := 36) (st := []) (st1 := [.int o_7.1]) (w' := wHs aH aS aT aR aV aD aQ cy o_7.2 σT σR σV σQ σD ra) F hK hS hA (pa2 (pm_AS1 _ _ _ _ _ _ _ _ _ _ _ _ _ _)) (pa2 (pm_AS1 _ _ _ _ _ _ _ _ _ _ _ _ _ _)) (c_X0_findMeant (l := l) (D := D) (cy := cy) (g := g) (aA := aQ 1) (aS := aS) ho_7) tm_736 cf_X0_findMeant (Nat.le_of_ble_eq_true rfl) (Nat.le_of_ble_eq_true rfl) ⟨Nat.zero_le _, Nat.zero_le _⟩ 0 rfl rfl rfl rfl rfl (Nat.le_of_ble_eq_true rfl) rfl dX7_meant_36 ?_
          have hf := (Option.some.inj hf)
          subst hf
          exact j_iretW (pc := 39) F dX7_meant_39 rfl rfl
        · obtain ⟨o_7, ho_7, hf⟩ := of_bnd hf
          refine j_callWp (pc := 36) (st := []) (st1 := [.int o_7.1]) (w' := wHs aH aS aT aR aV aD aQ cy o_7.2 σT σR σV σQ σD ra) F hK hS hA (pa2 (pm_AS2 _ _ _ _ _ _ _ _ _ _ _ _ _ _)) (pa2 (pm_AS2 _ _ _ _ _ _ _ _ _ _ _ _ _ _)) (c_X0_findMeant (l := l) (D := D) (cy := cy) (g := g) (aA := aQ 2) (aS := aS) ho_7) tm_736 cf_X0_findMeant (Nat.le_of_ble_eq_true rfl) (Nat.le_of_ble_eq_true rfl) ⟨Nat.zero_le _, Nat.zero_le _⟩ 0 rfl rfl rfl rfl rfl (Nat.le_of_ble_eq_true rfl) rfl dX7_meant_36 ?_
          have hf := (Option.some.inj hf)
          subst hf
          exact j_iretW (pc := 39) F dX7_meant_39 rfl rfl
        · obtain ⟨o_7, ho_7, hf⟩ := of_bnd hf
          refine j_callWp (pc := 36) (st := []) (st1 := [.int o_7.1]) (w' := wHs aH aS aT aR aV aD aQ cy o_7.2 σT σR σV σQ σD ra) F hK hS hA (pa2 (pm_AS3 _ _ _ _ _ _ _ _ _ _ _ _ _ _)) (pa2 (pm_AS3 _ _ _ _ _ _ _ _ _ _ _ _ _ _)) (c_X0_findMeant (l := l) (D := D) (cy := cy) (g := g) (aA := aQ 3) (aS := aS) ho_7) tm_736 cf_X0_findMeant (Nat.le_of_ble_eq_true rfl) (Nat.le_of_ble_eq_true rfl) ⟨Nat.zero_le _, Nat.zero_le _⟩ 0 rfl rfl rfl rfl rfl (Nat.le_of_ble_eq_true rfl) rfl dX7_meant_36 ?_
          have hf := (Option.some.inj hf)
          subst hf
          exact j_iretW (pc := 39) F dX7_meant_39 rfl rfl
        · obtain ⟨o_7, ho_7, hf⟩ := of_bnd hf
          refine j_callWp (pc := 36) (st := []) (st1 := [.int o_7.1]) (w' := wHs aH aS aT aR aV aD aQ cy o_7.2 σT σR σV σQ σD ra) F hK hS hA (pa2 (pm_AS4 _ _ _ _ _ _ _ _ _ _ _ _ _ _)) (pa2 (pm_AS4 _ _ _ _ _ _ _ _ _ _ _ _ _ _)) (c_X0_findMeant (l := l) (D := D) (cy := cy) (g := g) (aA := aQ 4) (aS := aS) ho_7) tm_736 cf_X0_findMeant (Nat.le_of_ble_eq_true rfl) (Nat.le_of_ble_eq_true rfl) ⟨Nat.zero_le _, Nat.zero_le _⟩ 0 rfl rfl rfl rfl rfl (Nat.le_of_ble_eq_true rfl) rfl dX7_meant_36 ?_
          have hf := (Option.some.inj hf)
          subst hf
          exact j_iretW (pc := 39) F dX7_meant_39 rfl rfl
        · obtain ⟨o_7, ho_7, hf⟩ := of_bnd hf
          refine j_callWp (pc := 36) (st := []) (st1 := [.int o_7.1]) (w' := wHs aH aS aT aR aV aD aQ cy o_7.2 σT σR σV σQ σD ra) F hK hS hA (pa2 (pm_AS5 _ _ _ _ _ _ _ _ _ _ _ _ _ _)) (pa2 (pm_AS5 _ _ _ _ _ _ _ _ _ _ _ _ _ _)) (c_X0_findMeant (l := l) (D := D) (cy := cy) (g := g) (aA := aQ 5) (aS := aS) ho_7) tm_736 cf_X0_findMeant (Nat.le_of_ble_eq_true rfl) (Nat.le_of_ble_eq_true rfl) ⟨Nat.zero_le _, Nat.zero_le _⟩ 0 rfl rfl rfl rfl rfl (Nat.le_of_ble_eq_true rfl) rfl dX7_meant_36 ?_
          have hf := (Option.some.inj hf)
          subst hf
          exact j_iretW (pc := 39) F dX7_meant_39 rfl rfl
        · obtain ⟨o_7, ho_7, hf⟩ := of_bnd hf
          refine j_callWp (pc := 36) (st := []) (st1 := [.int o_7.1]) (w' := wHs aH aS aT aR aV aD aQ cy o_7.2 σT σR σV σQ σD ra) F hK hS hA (pa2 (pm_AS6 _ _ _ _ _ _ _ _ _ _ _ _ _ _)) (pa2 (pm_AS6 _ _ _ _ _ _ _ _ _ _ _ _ _ _)) (c_X0_findMeant (l := l) (D := D) (cy := cy) (g := g) (aA := aQ 6) (aS := aS) ho_7) tm_736 cf_X0_findMeant (Nat.le_of_ble_eq_true rfl) (Nat.le_of_ble_eq_true rfl) ⟨Nat.zero_le _, Nat.zero_le _⟩ 0 rfl rfl rfl rfl rfl (Nat.le_of_ble_eq_true rfl) rfl dX7_meant_36 ?_
          have hf := (Option.some.inj hf)
          subst hf
          exact j_iretW (pc := 39) F dX7_meant_39 rfl rfl
        · obtain ⟨o_7, ho_7, hf⟩ := of_bnd hf
          refine j_callWp (pc := 36) (st := []) (st1 := [.int o_7.1]) (w' := wHs aH aS aT aR aV aD aQ cy o_7.2 σT σR σV σQ σD ra) F hK hS hA (pa2 (pm_AS7 _ _ _ _ _ _ _ _ _ _ _ _ _ _)) (pa2 (pm_AS7 _ _ _ _ _ _ _ _ _ _ _ _ _ _)) (c_X0_findMeant (l := l) (D := D) (cy := cy) (g := g) (aA := aQ 7) (aS := aS) ho_7) tm_736 cf_X0_findMeant (Nat.le_of_ble_eq_true rfl) (Nat.le_of_ble_eq_true rfl) ⟨Nat.zero_le _, Nat.zero_le _⟩ 0 rfl rfl rfl rfl rfl (Nat.le_of_ble_eq_true rfl) rfl dX7_meant_36 ?_
          have hf := (Option.some.inj hf)
          subst hf
          exact j_iretW (pc := 39) F dX7_meant_39 rfl rfl
      · have hf := of_neg c_5 hf
        refine j_iconst (pc := 26) F (v := (-1)) dX7_meant_26 rfl ?_
        have hf := (Option.some.inj hf)
        subst hf
        exact j_iretW (pc := 27) F dX7_meant_27 rfl rfl
theorem cf_X7_meant : cfV yX7_meant cX7_meant 5 (some .int) 3 := ⟨tm_733, tm_734, tm_53, tm_735, by decide, by decide, by decide +kernel⟩

def f_X7_slips (N : Nat) (σS : St2) (σT : St2) (σR : St2) (σV : St2 × (Nat → Nat)) (σQ : Nat → (St2 × Int64)) (σD : St2) (ra : Value) (x1 : Int32) (x2 : Int32) : Option (Int32 × St2) := (f_X1_find σV x1).bind fun o_1 => oc o_1 (some ((-1), σS)) fun j_2 => if (bI (f_X7_isSlow x2)) = 0 then some ((-1), σS) else if 8 ≤ j_2 then none else (f_X0_leastSlips N (σQ j_2) σS x2).bind fun o_6 => some (o_6.1, o_6.2)
set_option maxHeartbeats 4000000 in
set_option maxRecDepth 100000 in
theorem c_X7_slips {l : Launch} {D : va_G} {cy : Nat → ClassId} {g : Gs} {aH : Nat → Nat} {aS : Nat → Nat} {aT : Nat → Nat} {aR : Nat → Nat} {aV : Nat → Nat} {aD : Nat → Nat} {aQ : Nat → Nat → Nat} {σS : St2} {σT : St2} {σR : St2} {σV : St2 × (Nat → Nat)} {σQ : Nat → (St2 × Int64)} {σD : St2} {ra : Value} {N : Nat} {x1 : Int32} {x2 : Int32} {out : Int32 × St2} (hf : f_X7_slips N σS σT σR σV σQ σD ra x1 x2 = some out) : CW l D cy g yX7_slips cX7_slips 4 (some .int) 5 115 (wHs aH aS aT aR aV aD aQ cy σS σT σR σV σQ σD ra) [.ref (aH 0), .int x1, .int x2] (some (.int out.1)) (wHs aH aS aT aR aV aD aQ cy out.2 σT σR σV σQ σD ra) := by
  unfold f_X7_slips at hf
  refine met_W (lv := [(0, .ref (aH 0)), (1, .int x1), (2, .int x2)]) (by decide) (Nat.le_of_ble_eq_true rfl) rfl ?_
  intro p e s m args below meth c A F hK hS hA
  refine j_aload_n (pc := 0) F 0 dX7_slips_0 rfl rfl ?_
  refine jw_get (pc := 1) (v := .ref (aV 0)) F hK ix_7 0 rfl rfl 3 (by decide) tm_229 rfl rfl dX7_slips_1 ?_
  refine j_iload_n (pc := 4) F 1 dX7_slips_4 rfl rfl ?_
  obtain ⟨o_1, ho_1, hf⟩ := of_bnd hf
  refine j_callRV (pc := 5) (st := []) (st1 := [va_rf (o_1.map (fun j => aQ j 0))]) F hK (hpW hS (hp_perm (pm_V _ _ _ _ _ _ _ _ _ _ _ _ _ _))) (c_X1_find (l := l) (D := D) (cy := cy) (g := g) (aV := aV) (aQ := aQ) ho_1) tm_666 cf_X1_find (Nat.le_of_ble_eq_true rfl) (Nat.le_of_ble_eq_true rfl) ⟨Nat.zero_le _, Nat.zero_le _⟩ 0 rfl rfl rfl rfl rfl (Nat.le_of_ble_eq_true rfl) rfl dX7_slips_5 ?_
  rcases o_1 with _ | j_2
  · have hf := oc_n hf
    refine j_stk (st' := [.null]) rfl ?_
    refine j_astore_nN (pc := 8) (lv' := [(3, .null), (0, .ref (aH 0)), (1, .int x1), (2, .int x2)]) F dX7_slips_8 rfl (by decide) rfl ?_
    refine j_aload_nN (pc := 9) F 0 dX7_slips_9 rfl rfl ?_
    refine j_ifnullN (pc := 10) F (tgt := 20) dX7_slips_10 rfl ?_
    refine j_iconst (pc := 20) F (v := (-1)) dX7_slips_20 rfl ?_
    have hf := (Option.some.inj hf)
    subst hf
    exact j_iretW (pc := 21) F dX7_slips_21 rfl rfl
  · have hf := oc_s hf
    refine j_stk (st' := [.ref (aQ j_2 0)]) rfl ?_
    refine j_astore_n (pc := 8) (lv' := [(3, .ref (aQ j_2 0)), (0, .ref (aH 0)), (1, .int x1), (2, .int x2)]) F dX7_slips_8 rfl (by decide) rfl ?_
    refine j_aload_n (pc := 9) F 0 dX7_slips_9 rfl rfl ?_
    refine j_ifnull (pc := 10) F dX7_slips_10 ?_
    refine j_iload_n (pc := 13) F 3 dX7_slips_13 rfl rfl ?_
    refine j_callRS (pc := 14) (st := []) (st1 := [.int (bI (f_X7_isSlow x2))]) F hK (hpW hS hp_nil) (c_X7_isSlow (l := l) (D := D) (cy := cy) (g := g) (rfl : f_X7_isSlow x2 = _)) tm_393 cf_X7_isSlow (Nat.le_of_ble_eq_true rfl) (Nat.le_of_ble_eq_true rfl) ⟨Nat.zero_le _, Nat.zero_le _⟩ rfl rfl (Nat.le_of_ble_eq_true rfl) rfl dX7_slips_14 ?_
    refine j_if_ne (pc := 17) (tgt := 22) F dX7_slips_17 rfl (fun c_4 => ?_) (fun c_4 => ?_)
    · have hf := of_neg c_4 hf
      refine j_aload_n (pc := 22) F 0 dX7_slips_22 rfl rfl ?_
      refine j_aload_n (pc := 23) F 1 dX7_slips_23 rfl rfl ?_
      refine jw_get (pc := 24) (v := .ref (aS 0)) F hK ix_7 0 rfl rfl 0 (by decide) tm_226 rfl rfl dX7_slips_24 ?_
      refine j_iload_n (pc := 27) F 3 dX7_slips_27 rfl rfl ?_
      have c_5 : ¬ 8 ≤ j_2 := fun z => by rw [if_pos z] at hf; cases hf
      have hf := of_neg c_5 hf
      rcases lt8 c_5 with rfl | rfl | rfl | rfl | rfl | rfl | rfl | rfl
      · obtain ⟨o_6, ho_6, hf⟩ := of_bnd hf
        refine j_callWp (pc := 28) (st := []) (st1 := [.int o_6.1]) (w' := wHs aH aS aT aR aV aD aQ cy o_6.2 σT σR σV σQ σD ra) F hK hS hA (pa2 (pm_AS0 _ _ _ _ _ _ _ _ _ _ _ _ _ _)) (pa2 (pm_AS0 _ _ _ _ _ _ _ _ _ _ _ _ _ _)) (c_X0_leastSlips (l := l) (D := D) (cy := cy) (g := g) (aA := aQ 0) (aS := aS) ho_6) tm_745 cf_X0_leastSlips (Nat.le_of_ble_eq_true rfl) (Nat.le_of_ble_eq_true rfl) ⟨Nat.zero_le _, Nat.zero_le _⟩ 0 rfl rfl rfl rfl rfl (Nat.le_of_ble_eq_true rfl) rfl dX7_slips_28 ?_
        have hf := (Option.some.inj hf)
        subst hf
        exact j_iretW (pc := 31) F dX7_slips_31 rfl rfl
      · obtain ⟨o_6, ho_6, hf⟩ := of_bnd hf
        refine j_callWp (pc := 28) (st := []) (st1 := [.int o_6.1]) (w' := wHs aH aS aT aR aV aD aQ cy o_6.2 σT σR σV σQ σD ra) F hK hS hA (pa2 (pm_AS1 _ _ _ _ _ _ _ _ _ _ _ _ _ _)) (pa2 (pm_AS1 _ _ _ _ _ _ _ _ _ _ _ _ _ _)) (c_X0_leastSlips (l := l) (D := D) (cy := cy) (g := g) (aA := aQ 1) (aS := aS) ho_6) tm_745 cf_X0_leastSlips (Nat.le_of_ble_eq_true rfl) (Nat.le_of_ble_eq_true rfl) ⟨Nat.zero_le _, Nat.zero_le _⟩ 0 rfl rfl rfl rfl rfl (Nat.le_of_ble_eq_true rfl) rfl dX7_slips_28 ?_
        have hf := (Option.some.inj hf)
        subst hf
        exact j_iretW (pc := 31) F dX7_slips_31 rfl rfl
      · obtain ⟨o_6, ho_6, hf⟩ := of_bnd hf
        refine j_callWp (pc := 28) (st := []) (st1 := [.int o_6.1]) (w' := wHs aH aS aT aR aV aD aQ cy o_6.2 σT σR σV σQ σD ra) F hK hS hA (pa2 (pm_AS2 _ _ _ _ _ _ _ _ _ _ _ _ _ _)) (pa2 (pm_AS2 _ _ _ _ _ _ _ _ _ _ _ _ _ _)) (c_X0_leastSlips (l := l) (D := D) (cy := cy) (g := g) (aA := aQ 2) (aS := aS) ho_6) tm_745 cf_X0_leastSlips (Nat.le_of_ble_eq_true rfl) (Nat.le_of_ble_eq_true rfl) ⟨Nat.zero_le _, Nat.zero_le _⟩ 0 rfl rfl rfl rfl rfl (Nat.le_of_ble_eq_true rfl) rfl dX7_slips_28 ?_
        have hf := (Option.some.inj hf)
        subst hf
        exact j_iretW (pc := 31) F dX7_slips_31 rfl rfl
      · obtain ⟨o_6, ho_6, hf⟩ := of_bnd hf
        refine j_callWp (pc := 28) (st := []) (st1 := [.int o_6.1]) (w' := wHs aH aS aT aR aV aD aQ cy o_6.2 σT σR σV σQ σD ra) F hK hS hA (pa2 (pm_AS3 _ _ _ _ _ _ _ _ _ _ _ _ _ _)) (pa2 (pm_AS3 _ _ _ _ _ _ _ _ _ _ _ _ _ _)) (c_X0_leastSlips (l := l) (D := D) (cy := cy) (g := g) (aA := aQ 3) (aS := aS) ho_6) tm_745 cf_X0_leastSlips (Nat.le_of_ble_eq_true rfl) (Nat.le_of_ble_eq_true rfl) ⟨Nat.zero_le _, Nat.zero_le _⟩ 0 rfl rfl rfl rfl rfl (Nat.le_of_ble_eq_true rfl) rfl dX7_slips_28 ?_
        have hf := (Option.some.inj hf)
        subst hf
        exact j_iretW (pc := 31) F dX7_slips_31 rfl rfl
      · obtain ⟨o_6, ho_6, hf⟩ := of_bnd hf
        refine j_callWp (pc := 28) (st := []) (st1 := [.int o_6.1]) (w' := wHs aH aS aT aR aV aD aQ cy o_6.2 σT σR σV σQ σD ra) F hK hS hA (pa2 (pm_AS4 _ _ _ _ _ _ _ _ _ _ _ _ _ _)) (pa2 (pm_AS4 _ _ _ _ _ _ _ _ _ _ _ _ _ _)) (c_X0_leastSlips (l := l) (D := D) (cy := cy) (g := g) (aA := aQ 4) (aS := aS) ho_6) tm_745 cf_X0_leastSlips (Nat.le_of_ble_eq_true rfl) (Nat.le_of_ble_eq_true rfl) ⟨Nat.zero_le _, Nat.zero_le _⟩ 0 rfl rfl rfl rfl rfl (Nat.le_of_ble_eq_true rfl) rfl dX7_slips_28 ?_
        have hf := (Option.some.inj hf)
        subst hf
        exact j_iretW (pc := 31) F dX7_slips_31 rfl rfl
      · obtain ⟨o_6, ho_6, hf⟩ := of_bnd hf
        refine j_callWp (pc := 28) (st := []) (st1 := [.int o_6.1]) (w' := wHs aH aS aT aR aV aD aQ cy o_6.2 σT σR σV σQ σD ra) F hK hS hA (pa2 (pm_AS5 _ _ _ _ _ _ _ _ _ _ _ _ _ _)) (pa2 (pm_AS5 _ _ _ _ _ _ _ _ _ _ _ _ _ _)) (c_X0_leastSlips (l := l) (D := D) (cy := cy) (g := g) (aA := aQ 5) (aS := aS) ho_6) tm_745 cf_X0_leastSlips (Nat.le_of_ble_eq_true rfl) (Nat.le_of_ble_eq_true rfl) ⟨Nat.zero_le _, Nat.zero_le _⟩ 0 rfl rfl rfl rfl rfl (Nat.le_of_ble_eq_true rfl) rfl dX7_slips_28 ?_
        have hf := (Option.some.inj hf)
        subst hf
        exact j_iretW (pc := 31) F dX7_slips_31 rfl rfl
      · obtain ⟨o_6, ho_6, hf⟩ := of_bnd hf
        refine j_callWp (pc := 28) (st := []) (st1 := [.int o_6.1]) (w' := wHs aH aS aT aR aV aD aQ cy o_6.2 σT σR σV σQ σD ra) F hK hS hA (pa2 (pm_AS6 _ _ _ _ _ _ _ _ _ _ _ _ _ _)) (pa2 (pm_AS6 _ _ _ _ _ _ _ _ _ _ _ _ _ _)) (c_X0_leastSlips (l := l) (D := D) (cy := cy) (g := g) (aA := aQ 6) (aS := aS) ho_6) tm_745 cf_X0_leastSlips (Nat.le_of_ble_eq_true rfl) (Nat.le_of_ble_eq_true rfl) ⟨Nat.zero_le _, Nat.zero_le _⟩ 0 rfl rfl rfl rfl rfl (Nat.le_of_ble_eq_true rfl) rfl dX7_slips_28 ?_
        have hf := (Option.some.inj hf)
        subst hf
        exact j_iretW (pc := 31) F dX7_slips_31 rfl rfl
      · obtain ⟨o_6, ho_6, hf⟩ := of_bnd hf
        refine j_callWp (pc := 28) (st := []) (st1 := [.int o_6.1]) (w' := wHs aH aS aT aR aV aD aQ cy o_6.2 σT σR σV σQ σD ra) F hK hS hA (pa2 (pm_AS7 _ _ _ _ _ _ _ _ _ _ _ _ _ _)) (pa2 (pm_AS7 _ _ _ _ _ _ _ _ _ _ _ _ _ _)) (c_X0_leastSlips (l := l) (D := D) (cy := cy) (g := g) (aA := aQ 7) (aS := aS) ho_6) tm_745 cf_X0_leastSlips (Nat.le_of_ble_eq_true rfl) (Nat.le_of_ble_eq_true rfl) ⟨Nat.zero_le _, Nat.zero_le _⟩ 0 rfl rfl rfl rfl rfl (Nat.le_of_ble_eq_true rfl) rfl dX7_slips_28 ?_
        have hf := (Option.some.inj hf)
        subst hf
        exact j_iretW (pc := 31) F dX7_slips_31 rfl rfl
    · have hf := of_pos c_4 hf
      refine j_iconst (pc := 20) F (v := (-1)) dX7_slips_20 rfl ?_
      have hf := (Option.some.inj hf)
      subst hf
      exact j_iretW (pc := 21) F dX7_slips_21 rfl rfl
theorem cf_X7_slips : cfV yX7_slips cX7_slips 4 (some .int) 2 := ⟨tm_742, tm_743, tm_53, tm_744, by decide, by decide, by decide +kernel⟩

def f_X7_lets (N : Nat) (σS : St2) (σT : St2) (σR : St2) (σV : St2 × (Nat → Nat)) (σQ : Nat → (St2 × Int64)) (σD : St2) (ra : Value) (x1 : Int32) : Option (Int32 × St2 × (Nat → (St2 × Int64))) := (f_X1_find σV x1).bind fun o_1 => oc o_1 (some ((-1), σS, σQ)) fun j_2 => if 8 ≤ j_2 then none else (f_X0_slowsLet N (σQ j_2) σS).bind fun o_4 => some (f_J13_bitCount_95d88 o_4.1, o_4.2.2, va_up σQ j_2 o_4.2.1)
set_option maxHeartbeats 4000000 in
set_option maxRecDepth 100000 in
theorem c_X7_lets {l : Launch} {D : va_G} {cy : Nat → ClassId} {g : Gs} {aH : Nat → Nat} {aS : Nat → Nat} {aT : Nat → Nat} {aR : Nat → Nat} {aV : Nat → Nat} {aD : Nat → Nat} {aQ : Nat → Nat → Nat} {σS : St2} {σT : St2} {σR : St2} {σV : St2 × (Nat → Nat)} {σQ : Nat → (St2 × Int64)} {σD : St2} {ra : Value} {N : Nat} {x1 : Int32} {out : Int32 × St2 × (Nat → (St2 × Int64))} (hf : f_X7_lets N σS σT σR σV σQ σD ra x1 = some out) : CW l D cy g yX7_lets cX7_lets 3 (some .int) 5 124 (wHs aH aS aT aR aV aD aQ cy σS σT σR σV σQ σD ra) [.ref (aH 0), .int x1] (some (.int out.1)) (wHs aH aS aT aR aV aD aQ cy out.2.1 σT σR σV out.2.2 σD ra) := by
  unfold f_X7_lets at hf
  refine met_W (lv := [(0, .ref (aH 0)), (1, .int x1)]) (by decide) (Nat.le_of_ble_eq_true rfl) rfl ?_
  intro p e s m args below meth c A F hK hS hA
  refine j_aload_n (pc := 0) F 0 dX7_lets_0 rfl rfl ?_
  refine jw_get (pc := 1) (v := .ref (aV 0)) F hK ix_7 0 rfl rfl 3 (by decide) tm_229 rfl rfl dX7_lets_1 ?_
  refine j_iload_n (pc := 4) F 1 dX7_lets_4 rfl rfl ?_
  obtain ⟨o_1, ho_1, hf⟩ := of_bnd hf
  refine j_callRV (pc := 5) (st := []) (st1 := [va_rf (o_1.map (fun j => aQ j 0))]) F hK (hpW hS (hp_perm (pm_V _ _ _ _ _ _ _ _ _ _ _ _ _ _))) (c_X1_find (l := l) (D := D) (cy := cy) (g := g) (aV := aV) (aQ := aQ) ho_1) tm_666 cf_X1_find (Nat.le_of_ble_eq_true rfl) (Nat.le_of_ble_eq_true rfl) ⟨Nat.zero_le _, Nat.zero_le _⟩ 0 rfl rfl rfl rfl rfl (Nat.le_of_ble_eq_true rfl) rfl dX7_lets_5 ?_
  rcases o_1 with _ | j_2
  · have hf := oc_n hf
    refine j_stk (st' := [.null]) rfl ?_
    refine j_astore_nN (pc := 8) (lv' := [(2, .null), (0, .ref (aH 0)), (1, .int x1)]) F dX7_lets_8 rfl (by decide) rfl ?_
    refine j_aload_nN (pc := 9) F 0 dX7_lets_9 rfl rfl ?_
    refine j_ifnonnullN (pc := 10) F dX7_lets_10 ?_
    refine j_iconst (pc := 13) F (v := (-1)) dX7_lets_13 rfl ?_
    have hf := (Option.some.inj hf)
    subst hf
    exact j_iretW (pc := 14) F dX7_lets_14 rfl rfl
  · have hf := oc_s hf
    refine j_stk (st' := [.ref (aQ j_2 0)]) rfl ?_
    refine j_astore_n (pc := 8) (lv' := [(2, .ref (aQ j_2 0)), (0, .ref (aH 0)), (1, .int x1)]) F dX7_lets_8 rfl (by decide) rfl ?_
    refine j_aload_n (pc := 9) F 0 dX7_lets_9 rfl rfl ?_
    refine j_ifnonnull (pc := 10) F (tgt := 15) dX7_lets_10 rfl ?_
    refine j_aload_n (pc := 15) F 0 dX7_lets_15 rfl rfl ?_
    refine j_aload_n (pc := 16) F 1 dX7_lets_16 rfl rfl ?_
    refine jw_get (pc := 17) (v := .ref (aS 0)) F hK ix_7 0 rfl rfl 0 (by decide) tm_226 rfl rfl dX7_lets_17 ?_
    have c_3 : ¬ 8 ≤ j_2 := fun z => by rw [if_pos z] at hf; cases hf
    have hf := of_neg c_3 hf
    rcases lt8 c_3 with rfl | rfl | rfl | rfl | rfl | rfl | rfl | rfl
    · obtain ⟨o_4, ho_4, hf⟩ := of_bnd hf
      refine j_callWp (pc := 20) (st := []) (st1 := [.long o_4.1]) (w' := wHs aH aS aT aR aV aD aQ cy o_4.2.2 σT σR σV (va_up σQ 0 o_4.2.1) σD ra) F hK hS hA (pa2 (pm_AS0 _ _ _ _ _ _ _ _ _ _ _ _ _ _)) (pa2 (pm_AS0 _ _ _ _ _ _ _ _ _ _ _ _ _ _)) (c_X0_slowsLet (l := l) (D := D) (cy := cy) (g := g) (aA := aQ 0) (aS := aS) ho_4) tm_754 cf_X0_slowsLet (Nat.le_of_ble_eq_true rfl) (Nat.le_of_ble_eq_true rfl) ⟨Nat.zero_le _, Nat.zero_le _⟩ 0 rfl rfl rfl rfl rfl (Nat.le_of_ble_eq_true rfl) rfl dX7_lets_20 ?_
      refine j_callRS (pc := 23) (st := []) (st1 := [.int (f_J13_bitCount_95d88 o_4.1)]) F hK (hpW hS hp_nil) (c_J13_bitCount_95d88 (l := l) (D := D) (cy := cy) (g := g) (rfl : f_J13_bitCount_95d88 o_4.1 = _)) tm_771 cf_J13_bitCount_95d88 (Nat.le_of_ble_eq_true rfl) (Nat.le_of_ble_eq_true rfl) ⟨Nat.zero_le _, Nat.zero_le _⟩ rfl rfl (Nat.le_of_ble_eq_true rfl) rfl dX7_lets_23 ?_
      have hf := (Option.some.inj hf)
      subst hf
      exact j_iretW (pc := 26) F dX7_lets_26 rfl rfl
    · obtain ⟨o_4, ho_4, hf⟩ := of_bnd hf
      refine j_callWp (pc := 20) (st := []) (st1 := [.long o_4.1]) (w' := wHs aH aS aT aR aV aD aQ cy o_4.2.2 σT σR σV (va_up σQ 1 o_4.2.1) σD ra) F hK hS hA (pa2 (pm_AS1 _ _ _ _ _ _ _ _ _ _ _ _ _ _)) (pa2 (pm_AS1 _ _ _ _ _ _ _ _ _ _ _ _ _ _)) (c_X0_slowsLet (l := l) (D := D) (cy := cy) (g := g) (aA := aQ 1) (aS := aS) ho_4) tm_754 cf_X0_slowsLet (Nat.le_of_ble_eq_true rfl) (Nat.le_of_ble_eq_true rfl) ⟨Nat.zero_le _, Nat.zero_le _⟩ 0 rfl rfl rfl rfl rfl (Nat.le_of_ble_eq_true rfl) rfl dX7_lets_20 ?_
      refine j_callRS (pc := 23) (st := []) (st1 := [.int (f_J13_bitCount_95d88 o_4.1)]) F hK (hpW hS hp_nil) (c_J13_bitCount_95d88 (l := l) (D := D) (cy := cy) (g := g) (rfl : f_J13_bitCount_95d88 o_4.1 = _)) tm_771 cf_J13_bitCount_95d88 (Nat.le_of_ble_eq_true rfl) (Nat.le_of_ble_eq_true rfl) ⟨Nat.zero_le _, Nat.zero_le _⟩ rfl rfl (Nat.le_of_ble_eq_true rfl) rfl dX7_lets_23 ?_
      have hf := (Option.some.inj hf)
      subst hf
      exact j_iretW (pc := 26) F dX7_lets_26 rfl rfl
    · obtain ⟨o_4, ho_4, hf⟩ := of_bnd hf
      refine j_callWp (pc := 20) (st := []) (st1 := [.long o_4.1]) (w' := wHs aH aS aT aR aV aD aQ cy o_4.2.2 σT σR σV (va_up σQ 2 o_4.2.1) σD ra) F hK hS hA (pa2 (pm_AS2 _ _ _ _ _ _ _ _ _ _ _ _ _ _)) (pa2 (pm_AS2 _ _ _ _ _ _ _ _ _ _ _ _ _ _)) (c_X0_slowsLet (l := l) (D := D) (cy := cy) (g := g) (aA := aQ 2) (aS := aS) ho_4) tm_754 cf_X0_slowsLet (Nat.le_of_ble_eq_true rfl) (Nat.le_of_ble_eq_true rfl) ⟨Nat.zero_le _, Nat.zero_le _⟩ 0 rfl rfl rfl rfl rfl (Nat.le_of_ble_eq_true rfl) rfl dX7_lets_20 ?_
      refine j_callRS (pc := 23) (st := []) (st1 := [.int (f_J13_bitCount_95d88 o_4.1)]) F hK (hpW hS hp_nil) (c_J13_bitCount_95d88 (l := l) (D := D) (cy := cy) (g := g) (rfl : f_J13_bitCount_95d88 o_4.1 = _)) tm_771 cf_J13_bitCount_95d88 (Nat.le_of_ble_eq_true rfl) (Nat.le_of_ble_eq_true rfl) ⟨Nat.zero_le _, Nat.zero_le _⟩ rfl rfl (Nat.le_of_ble_eq_true rfl) rfl dX7_lets_23 ?_
      have hf := (Option.some.inj hf)
      subst hf
      exact j_iretW (pc := 26) F dX7_lets_26 rfl rfl
    · obtain ⟨o_4, ho_4, hf⟩ := of_bnd hf
      refine j_callWp (pc := 20) (st := []) (st1 := [.long o_4.1]) (w' := wHs aH aS aT aR aV aD aQ cy o_4.2.2 σT σR σV (va_up σQ 3 o_4.2.1) σD ra) F hK hS hA (pa2 (pm_AS3 _ _ _ _ _ _ _ _ _ _ _ _ _ _)) (pa2 (pm_AS3 _ _ _ _ _ _ _ _ _ _ _ _ _ _)) (c_X0_slowsLet (l := l) (D := D) (cy := cy) (g := g) (aA := aQ 3) (aS := aS) ho_4) tm_754 cf_X0_slowsLet (Nat.le_of_ble_eq_true rfl) (Nat.le_of_ble_eq_true rfl) ⟨Nat.zero_le _, Nat.zero_le _⟩ 0 rfl rfl rfl rfl rfl (Nat.le_of_ble_eq_true rfl) rfl dX7_lets_20 ?_
      refine j_callRS (pc := 23) (st := []) (st1 := [.int (f_J13_bitCount_95d88 o_4.1)]) F hK (hpW hS hp_nil) (c_J13_bitCount_95d88 (l := l) (D := D) (cy := cy) (g := g) (rfl : f_J13_bitCount_95d88 o_4.1 = _)) tm_771 cf_J13_bitCount_95d88 (Nat.le_of_ble_eq_true rfl) (Nat.le_of_ble_eq_true rfl) ⟨Nat.zero_le _, Nat.zero_le _⟩ rfl rfl (Nat.le_of_ble_eq_true rfl) rfl dX7_lets_23 ?_
      have hf := (Option.some.inj hf)
      subst hf
      exact j_iretW (pc := 26) F dX7_lets_26 rfl rfl
    · obtain ⟨o_4, ho_4, hf⟩ := of_bnd hf
      refine j_callWp (pc := 20) (st := []) (st1 := [.long o_4.1]) (w' := wHs aH aS aT aR aV aD aQ cy o_4.2.2 σT σR σV (va_up σQ 4 o_4.2.1) σD ra) F hK hS hA (pa2 (pm_AS4 _ _ _ _ _ _ _ _ _ _ _ _ _ _)) (pa2 (pm_AS4 _ _ _ _ _ _ _ _ _ _ _ _ _ _)) (c_X0_slowsLet (l := l) (D := D) (cy := cy) (g := g) (aA := aQ 4) (aS := aS) ho_4) tm_754 cf_X0_slowsLet (Nat.le_of_ble_eq_true rfl) (Nat.le_of_ble_eq_true rfl) ⟨Nat.zero_le _, Nat.zero_le _⟩ 0 rfl rfl rfl rfl rfl (Nat.le_of_ble_eq_true rfl) rfl dX7_lets_20 ?_
      refine j_callRS (pc := 23) (st := []) (st1 := [.int (f_J13_bitCount_95d88 o_4.1)]) F hK (hpW hS hp_nil) (c_J13_bitCount_95d88 (l := l) (D := D) (cy := cy) (g := g) (rfl : f_J13_bitCount_95d88 o_4.1 = _)) tm_771 cf_J13_bitCount_95d88 (Nat.le_of_ble_eq_true rfl) (Nat.le_of_ble_eq_true rfl) ⟨Nat.zero_le _, Nat.zero_le _⟩ rfl rfl (Nat.le_of_ble_eq_true rfl) rfl dX7_lets_23 ?_
      have hf := (Option.some.inj hf)
      subst hf
      exact j_iretW (pc := 26) F dX7_lets_26 rfl rfl
    · obtain ⟨o_4, ho_4, hf⟩ := of_bnd hf
      refine j_callWp (pc := 20) (st := []) (st1 := [.long o_4.1]) (w' := wHs aH aS aT aR aV aD aQ cy o_4.2.2 σT σR σV (va_up σQ 5 o_4.2.1) σD ra) F hK hS hA (pa2 (pm_AS5 _ _ _ _ _ _ _ _ _ _ _ _ _ _)) (pa2 (pm_AS5 _ _ _ _ _ _ _ _ _ _ _ _ _ _)) (c_X0_slowsLet (l := l) (D := D) (cy := cy) (g := g) (aA := aQ 5) (aS := aS) ho_4) tm_754 cf_X0_slowsLet (Nat.le_of_ble_eq_true rfl) (Nat.le_of_ble_eq_true rfl) ⟨Nat.zero_le _, Nat.zero_le _⟩ 0 rfl rfl rfl rfl rfl (Nat.le_of_ble_eq_true rfl) rfl dX7_lets_20 ?_
      refine j_callRS (pc := 23) (st := []) (st1 := [.int (f_J13_bitCount_95d88 o_4.1)]) F hK (hpW hS hp_nil) (c_J13_bitCount_95d88 (l := l) (D := D) (cy := cy) (g := g) (rfl : f_J13_bitCount_95d88 o_4.1 = _)) tm_771 cf_J13_bitCount_95d88 (Nat.le_of_ble_eq_true rfl) (Nat.le_of_ble_eq_true rfl) ⟨Nat.zero_le _, Nat.zero_le _⟩ rfl rfl (Nat.le_of_ble_eq_true rfl) rfl dX7_lets_23 ?_
      have hf := (Option.some.inj hf)
      subst hf
      exact j_iretW (pc := 26) F dX7_lets_26 rfl rfl
    · obtain ⟨o_4, ho_4, hf⟩ := of_bnd hf
      refine j_callWp (pc := 20) (st := []) (st1 := [.long o_4.1]) (w' := wHs aH aS aT aR aV aD aQ cy o_4.2.2 σT σR σV (va_up σQ 6 o_4.2.1) σD ra) F hK hS hA (pa2 (pm_AS6 _ _ _ _ _ _ _ _ _ _ _ _ _ _)) (pa2 (pm_AS6 _ _ _ _ _ _ _ _ _ _ _ _ _ _)) (c_X0_slowsLet (l := l) (D := D) (cy := cy) (g := g) (aA := aQ 6) (aS := aS) ho_4) tm_754 cf_X0_slowsLet (Nat.le_of_ble_eq_true rfl) (Nat.le_of_ble_eq_true rfl) ⟨Nat.zero_le _, Nat.zero_le _⟩ 0 rfl rfl rfl rfl rfl (Nat.le_of_ble_eq_true rfl) rfl dX7_lets_20 ?_
      refine j_callRS (pc := 23) (st := []) (st1 := [.int (f_J13_bitCount_95d88 o_4.1)]) F hK (hpW hS hp_nil) (c_J13_bitCount_95d88 (l := l) (D := D) (cy := cy) (g := g) (rfl : f_J13_bitCount_95d88 o_4.1 = _)) tm_771 cf_J13_bitCount_95d88 (Nat.le_of_ble_eq_true rfl) (Nat.le_of_ble_eq_true rfl) ⟨Nat.zero_le _, Nat.zero_le _⟩ rfl rfl (Nat.le_of_ble_eq_true rfl) rfl dX7_lets_23 ?_
      have hf := (Option.some.inj hf)
      subst hf
      exact j_iretW (pc := 26) F dX7_lets_26 rfl rfl
    · obtain ⟨o_4, ho_4, hf⟩ := of_bnd hf
      refine j_callWp (pc := 20) (st := []) (st1 := [.long o_4.1]) (w' := wHs aH aS aT aR aV aD aQ cy o_4.2.2 σT σR σV (va_up σQ 7 o_4.2.1) σD ra) F hK hS hA (pa2 (pm_AS7 _ _ _ _ _ _ _ _ _ _ _ _ _ _)) (pa2 (pm_AS7 _ _ _ _ _ _ _ _ _ _ _ _ _ _)) (c_X0_slowsLet (l := l) (D := D) (cy := cy) (g := g) (aA := aQ 7) (aS := aS) ho_4) tm_754 cf_X0_slowsLet (Nat.le_of_ble_eq_true rfl) (Nat.le_of_ble_eq_true rfl) ⟨Nat.zero_le _, Nat.zero_le _⟩ 0 rfl rfl rfl rfl rfl (Nat.le_of_ble_eq_true rfl) rfl dX7_lets_20 ?_
      refine j_callRS (pc := 23) (st := []) (st1 := [.int (f_J13_bitCount_95d88 o_4.1)]) F hK (hpW hS hp_nil) (c_J13_bitCount_95d88 (l := l) (D := D) (cy := cy) (g := g) (rfl : f_J13_bitCount_95d88 o_4.1 = _)) tm_771 cf_J13_bitCount_95d88 (Nat.le_of_ble_eq_true rfl) (Nat.le_of_ble_eq_true rfl) ⟨Nat.zero_le _, Nat.zero_le _⟩ rfl rfl (Nat.le_of_ble_eq_true rfl) rfl dX7_lets_23 ?_
      have hf := (Option.some.inj hf)
      subst hf
      exact j_iretW (pc := 26) F dX7_lets_26 rfl rfl
theorem cf_X7_lets : cfV yX7_lets cX7_lets 3 (some .int) 1 := ⟨tm_751, tm_752, tm_53, tm_753, by decide, by decide, by decide +kernel⟩

def f_X7_slow (N : Nat) (σS : St2) (σT : St2) (σR : St2) (σV : St2 × (Nat → Nat)) (σQ : Nat → (St2 × Int64)) (σD : St2) (ra : Value) (x1 : Int32) : Option (Int32 × St2 × (Nat → (St2 × Int64))) := (f_X1_slowsOfAll N σV σQ σS).bind fun o_1 => if (lg_cmp o_1.1 0) = 0 then some ((-1), o_1.2.2, o_1.2.1) else if x1 = 0 then some (f_J13_numberOfTrailingZeros_95d88 o_1.1, o_1.2.2, o_1.2.1) else if x1 = 1 then some (63 - (f_J13_numberOfLeadingZeros_95d88 o_1.1), o_1.2.2, o_1.2.1) else if x1 = 2 then some (f_J13_bitCount_95d88 o_1.1, o_1.2.2, o_1.2.1) else some ((-1), o_1.2.2, o_1.2.1)
set_option maxHeartbeats 4000000 in
set_option maxRecDepth 100000 in
theorem c_X7_slow {l : Launch} {D : va_G} {cy : Nat → ClassId} {g : Gs} {aH : Nat → Nat} {aS : Nat → Nat} {aT : Nat → Nat} {aR : Nat → Nat} {aV : Nat → Nat} {aD : Nat → Nat} {aQ : Nat → Nat → Nat} {σS : St2} {σT : St2} {σR : St2} {σV : St2 × (Nat → Nat)} {σQ : Nat → (St2 × Int64)} {σD : St2} {ra : Value} {N : Nat} {x1 : Int32} {out : Int32 × St2 × (Nat → (St2 × Int64))} (hf : f_X7_slow N σS σT σR σV σQ σD ra x1 = some out) : CW l D cy g yX7_slow cX7_slow 4 (some .int) 6 149 (wHs aH aS aT aR aV aD aQ cy σS σT σR σV σQ σD ra) [.ref (aH 0), .int x1] (some (.int out.1)) (wHs aH aS aT aR aV aD aQ cy out.2.1 σT σR σV out.2.2 σD ra) := by
  unfold f_X7_slow at hf
  refine met_W (lv := [(0, .ref (aH 0)), (1, .int x1)]) (by decide) (Nat.le_of_ble_eq_true rfl) rfl ?_
  intro p e s m args below meth c A F hK hS hA
  refine j_aload_n (pc := 0) F 0 dX7_slow_0 rfl rfl ?_
  refine jw_get (pc := 1) (v := .ref (aV 0)) F hK ix_7 0 rfl rfl 3 (by decide) tm_229 rfl rfl dX7_slow_1 ?_
  refine j_aload_n (pc := 4) F 0 dX7_slow_4 rfl rfl ?_
  refine jw_get (pc := 5) (v := .ref (aS 0)) F hK ix_7 0 rfl rfl 0 (by decide) tm_226 rfl rfl dX7_slow_5 ?_
  obtain ⟨o_1, ho_1, hf⟩ := of_bnd hf
  refine j_callWp (pc := 8) (st := []) (st1 := [.long o_1.1]) (w' := wHs aH aS aT aR aV aD aQ cy o_1.2.2 σT σR σV o_1.2.1 σD ra) F hK hS hA (pq2 (pm_VQS _ _ _ _ _ _ _ _ _ _ _ _ _ _)) (pq2 (pm_VQS _ _ _ _ _ _ _ _ _ _ _ _ _ _)) (c_X1_slowsOfAll (l := l) (D := D) (cy := cy) (g := g) (aV := aV) (aQ := aQ) (aS := aS) ho_1) tm_781 cf_X1_slowsOfAll (Nat.le_of_ble_eq_true rfl) (Nat.le_of_ble_eq_true rfl) ⟨Nat.zero_le _, Nat.zero_le _⟩ 0 rfl rfl rfl rfl rfl (Nat.le_of_ble_eq_true rfl) rfl dX7_slow_8 ?_
  refine j_lstore_n (pc := 11) (lv' := [(2, .long o_1.1), (0, .ref (aH 0)), (1, .int x1)]) F dX7_slow_11 rfl (by decide) rfl ?_
  refine j_lload_n (pc := 12) F 0 dX7_slow_12 rfl rfl ?_
  refine j_lconst (pc := 13) F (v := 0) dX7_slow_13 rfl ?_
  refine j_lcmp (pc := 14) F dX7_slow_14 ?_
  refine j_if_ne (pc := 15) (tgt := 20) F dX7_slow_15 rfl (fun c_2 => ?_) (fun c_2 => ?_)
  · have hf := of_neg c_2 hf
    refine j_iload_n (pc := 20) F 2 dX7_slow_20 rfl rfl ?_
    by_cases c_3 : x1 = 0
    · have hf := of_pos c_3 hf
      refine j_tabIn (pc := 21) (tgt := 48) F 0 dX7_slow_21 c_3 (by decide) (by decide) rfl rfl ?_
      refine j_lload_n (pc := 48) F 0 dX7_slow_48 rfl rfl ?_
      refine j_callRS (pc := 49) (st := []) (st1 := [.int (f_J13_numberOfTrailingZeros_95d88 o_1.1)]) F hK (hpW hS hp_nil) (c_J13_numberOfTrailingZeros_95d88 (l := l) (D := D) (cy := cy) (g := g) (rfl : f_J13_numberOfTrailingZeros_95d88 o_1.1 = _)) tm_788 cf_J13_numberOfTrailingZeros_95d88 (Nat.le_of_ble_eq_true rfl) (Nat.le_of_ble_eq_true rfl) ⟨Nat.zero_le _, Nat.zero_le _⟩ rfl rfl (Nat.le_of_ble_eq_true rfl) rfl dX7_slow_49 ?_
      have hf := (Option.some.inj hf)
      subst hf
      exact j_iretW (pc := 52) F dX7_slow_52 rfl rfl
    · have hf := of_neg c_3 hf
      by_cases c_5 : x1 = 1
      · have hf := of_pos c_5 hf
        refine j_tabIn (pc := 21) (tgt := 53) F 1 dX7_slow_21 c_5 (by decide) (by decide) rfl rfl ?_
        refine j_bipush (pc := 53) F (v := 63) dX7_slow_53 rfl ?_
        refine j_lload_n (pc := 55) F 0 dX7_slow_55 rfl rfl ?_
        refine j_callRS (pc := 56) (st := [.int 63]) (st1 := [.int (f_J13_numberOfLeadingZeros_95d88 o_1.1), .int 63]) F hK (hpW hS hp_nil) (c_J13_numberOfLeadingZeros_95d88 (l := l) (D := D) (cy := cy) (g := g) (rfl : f_J13_numberOfLeadingZeros_95d88 o_1.1 = _)) tm_795 cf_J13_numberOfLeadingZeros_95d88 (Nat.le_of_ble_eq_true rfl) (Nat.le_of_ble_eq_true rfl) ⟨Nat.zero_le _, Nat.zero_le _⟩ rfl rfl (Nat.le_of_ble_eq_true rfl) rfl dX7_slow_56 ?_
        refine j_isub (pc := 59) F dX7_slow_59 ?_
        have hf := (Option.some.inj hf)
        subst hf
        exact j_iretW (pc := 60) F dX7_slow_60 rfl rfl
      · have hf := of_neg c_5 hf
        by_cases c_7 : x1 = 2
        · have hf := of_pos c_7 hf
          refine j_tabIn (pc := 21) (tgt := 61) F 2 dX7_slow_21 c_7 (by decide) (by decide) rfl rfl ?_
          refine j_lload_n (pc := 61) F 0 dX7_slow_61 rfl rfl ?_
          refine j_callRS (pc := 62) (st := []) (st1 := [.int (f_J13_bitCount_95d88 o_1.1)]) F hK (hpW hS hp_nil) (c_J13_bitCount_95d88 (l := l) (D := D) (cy := cy) (g := g) (rfl : f_J13_bitCount_95d88 o_1.1 = _)) tm_771 cf_J13_bitCount_95d88 (Nat.le_of_ble_eq_true rfl) (Nat.le_of_ble_eq_true rfl) ⟨Nat.zero_le _, Nat.zero_le _⟩ rfl rfl (Nat.le_of_ble_eq_true rfl) rfl dX7_slow_62 ?_
          have hf := (Option.some.inj hf)
          subst hf
          exact j_iretW (pc := 65) F dX7_slow_65 rfl rfl
        · have hf := of_neg c_7 hf
          refine j_tabOut (pc := 21) (n := 2) (tgt := 66) F dX7_slow_21 (by decide) (fun j hj => match j, hj with | 0, _ => c_3 | 1, _ => c_5 | 2, _ => c_7 | j + 3, hj => absurd hj (by omega)) rfl ?_
          refine j_iconst (pc := 66) F (v := (-1)) dX7_slow_66 rfl ?_
          have hf := (Option.some.inj hf)
          subst hf
          exact j_iretW (pc := 67) F dX7_slow_67 rfl rfl
  · have hf := of_pos c_2 hf
    refine j_iconst (pc := 18) F (v := (-1)) dX7_slow_18 rfl ?_
    have hf := (Option.some.inj hf)
    subst hf
    exact j_iretW (pc := 19) F dX7_slow_19 rfl rfl
theorem cf_X7_slow : cfV yX7_slow cX7_slow 4 (some .int) 1 := ⟨tm_778, tm_779, tm_53, tm_780, by decide, by decide, by decide +kernel⟩

def f_X7_drop (N : Nat) (σS : St2) (σT : St2) (σR : St2) (σV : St2 × (Nat → Nat)) (σQ : Nat → (St2 × Int64)) (σD : St2) (ra : Value) (x1 : Int32) : Option (Int32 × (St2 × (Nat → Nat))) := (f_X1_remove N σV σQ x1).bind fun o_1 => some (o_1.1, o_1.2)
set_option maxHeartbeats 4000000 in
set_option maxRecDepth 100000 in
theorem c_X7_drop {l : Launch} {D : va_G} {cy : Nat → ClassId} {g : Gs} {aH : Nat → Nat} {aS : Nat → Nat} {aT : Nat → Nat} {aR : Nat → Nat} {aV : Nat → Nat} {aD : Nat → Nat} {aQ : Nat → Nat → Nat} {σS : St2} {σT : St2} {σR : St2} {σV : St2 × (Nat → Nat)} {σQ : Nat → (St2 × Int64)} {σD : St2} {ra : Value} {N : Nat} {x1 : Int32} {out : Int32 × (St2 × (Nat → Nat))} (hf : f_X7_drop N σS σT σR σV σQ σD ra x1 = some out) : CW l D cy g yX7_drop cX7_drop 2 (some .int) 2 44 (wHs aH aS aT aR aV aD aQ cy σS σT σR σV σQ σD ra) [.ref (aH 0), .int x1] (some (.int out.1)) (wHs aH aS aT aR aV aD aQ cy σS σT σR out.2 σQ σD ra) := by
  unfold f_X7_drop at hf
  refine met_W (lv := [(0, .ref (aH 0)), (1, .int x1)]) (by decide) (Nat.le_of_ble_eq_true rfl) rfl ?_
  intro p e s m args below meth c A F hK hS hA
  refine j_aload_n (pc := 0) F 0 dX7_drop_0 rfl rfl ?_
  refine jw_get (pc := 1) (v := .ref (aV 0)) F hK ix_7 0 rfl rfl 3 (by decide) tm_229 rfl rfl dX7_drop_1 ?_
  refine j_iload_n (pc := 4) F 1 dX7_drop_4 rfl rfl ?_
  obtain ⟨o_1, ho_1, hf⟩ := of_bnd hf
  refine j_callWp (pc := 5) (st := []) (st1 := [.int o_1.1]) (w' := wHs aH aS aT aR aV aD aQ cy σS σT σR o_1.2 σQ σD ra) F hK hS hA (pq1 (pm_VQ _ _ _ _ _ _ _ _ _ _ _ _ _ _)) (pq1 (pm_VQ _ _ _ _ _ _ _ _ _ _ _ _ _ _)) (c_X1_remove (l := l) (D := D) (cy := cy) (g := g) (aV := aV) (aQ := aQ) ho_1) tm_805 cf_X1_remove (Nat.le_of_ble_eq_true rfl) (Nat.le_of_ble_eq_true rfl) ⟨Nat.zero_le _, Nat.zero_le _⟩ 0 rfl rfl rfl rfl rfl (Nat.le_of_ble_eq_true rfl) rfl dX7_drop_5 ?_
  have hf := (Option.some.inj hf)
  subst hf
  exact j_iretW (pc := 8) F dX7_drop_8 rfl rfl
theorem cf_X7_drop : cfV yX7_drop cX7_drop 2 (some .int) 1 := ⟨tm_802, tm_803, tm_53, tm_804, by decide, by decide, by decide +kernel⟩
