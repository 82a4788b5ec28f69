/-! the account against the reference's differs -/
def AccI (σA : St2) (K : Int32) (C E Y : Int) (nm : Nat → Int) : Prop := σA 0 0 = K ∧ σA 0 1 = iI C ∧ σA 0 2 = iI E ∧ σA 0 3 = iI Y ∧ ∀ p, p < 4 → σA 5 p = iI (nm p)
def ModR (σM : St2) (r : Nat) (K : Int32) (C E Y : Int) (nm : Nat → Int) : Prop := σM 28 r = K ∧ σM 31 r = iI C ∧ σM 32 r = iI E ∧ σM 30 r = iI Y ∧ ∀ p, p < 4 → σM 29 (4 * r + p) = iI (nm p)
def okR (C E Y : Int) (nm : Nat → Int) : Prop := (C = 0 ∨ C = 1 ∨ C = 2) ∧ (-720 ≤ E ∧ E ≤ 720) ∧ (-1 ≤ Y ∧ Y ≤ 600) ∧ ∀ p, p < 4 → -1 ≤ nm p ∧ nm p ≤ 999
def slp (n v : Int) : Int := if n = -1 then 0 else if n = v then 0 else 1
theorem slp_rng (n v : Int) : 0 ≤ slp n v ∧ slp n v ≤ 1 := by
  unfold slp
  repeat' split
  all_goals omega
def dMo (C d : Int) : Int := (fmd C (lng C (yrOf C d)) 13 (d - fdy C (yrOf C d))).1
def dDa (C d : Int) : Int := (fmd C (lng C (yrOf C d)) 13 (d - fdy C (yrOf C d))).2
theorem dMD_rng {C d : Int} (hc : C = 0 ∨ C = 1 ∨ C = 2) (hd : 0 ≤ d) (hd2 : d ≤ 400000) : (1 ≤ dMo C d ∧ dMo C d ≤ 13) ∧ (1 ≤ dDa C d ∧ dDa C d ≤ 31) := by
  have hr := yrOf_rng hc hd hd2
  have hs := fdy_succ hc hr.1
  have hg := fmd_rng (lng C (yrOf C d)) hc 13 (d - fdy C (yrOf C d)) (by omega) (by omega) (by rw [rsm_year hc]; omega)
  exact ⟨⟨hg.1, hg.2.1⟩, ⟨hg.2.2.1, hg.2.2.2⟩⟩
def dsum (C Y : Int) (nm : Nat → Int) (d : Int) : Int := slp (nm 0) (yrOf C d - Y) + slp (nm 1) (dMo C d) + slp (nm 2) (dDa C d)
def bad0 (C Y : Int) (nm : Nat → Int) (d : Int) : Prop := nm 0 ≠ -1 ∧ ¬ (0 ≤ yrOf C d - Y ∧ yrOf C d - Y ≤ 999)
def tot (C Y : Int) (nm : Nat → Int) (h : Int) : Int := if nm 0 = -1 ∨ (0 ≤ yrOf C (h / 24) - Y ∧ yrOf C (h / 24) - Y ≤ 999) then slp (nm 3) (h % 24) + dsum C Y nm (h / 24) else 5
theorem dsum_rng (C Y : Int) (nm : Nat → Int) (d : Int) : 0 ≤ dsum C Y nm d ∧ dsum C Y nm d ≤ 3 := by
  unfold dsum
  have h0 := slp_rng (nm 0) (yrOf C d - Y)
  have h1 := slp_rng (nm 1) (dMo C d)
  have h2 := slp_rng (nm 2) (dDa C d)
  omega
theorem tot_rng (C Y : Int) (nm : Nat → Int) (h : Int) : 0 ≤ tot C Y nm h ∧ tot C Y nm h ≤ 5 := by
  unfold tot
  have h0 := dsum_rng C Y nm (h / 24)
  have h1 := slp_rng (nm 3) (h % 24)
  split <;> omega
theorem has_eq {σA : St2 × Int64} {x : Int32} {p : Nat} (hp : p < 4) (hx : x = iI (p : Nat)) {n : Int} (hn : -1 ≤ n ∧ n ≤ 999) (h : σA.1 5 p = iI n) : f_X0_has σA x = some (decide (n ≠ -1)) := by
  subst hx
  unfold f_X0_has
  rw [if_neg (show ¬ (iI (p : Int) < 0) by rw [show (0 : Int32) = iI 0 from rfl, iI_lt (by omega) (by omega) (by omega) (by omega)]; omega), show (4 : Int32) = iI 4 from rfl, if_neg (by rw [iI_le (by omega) (by omega) (by omega) (by omega)]; omega), if_neg (ix_no (by omega) (by omega) (by omega)), iI_clamp (by omega) (by omega), show ((p : Int)).toNat = p from rfl, h, show (-1 : Int32) = iI (-1) from rfl]
  by_cases c : n = -1
  · rw [if_pos (by rw [c]), c]; rfl
  · rw [if_neg (by rw [iI_eq (by omega) (by omega) (by omega) (by omega)]; exact c)]
    rw [decide_eq_true c]
theorem slipOf_eq {σA : St2 × Int64} {x y : Int32} {p : Nat} (hp : p < 4) (hx : x = iI (p : Nat)) {n v : Int} (hn : -1 ≤ n ∧ n ≤ 999) (hv : -10000 ≤ v ∧ v ≤ 10000) (hy : y = iI v) (h : σA.1 5 p = iI n) : f_X0_slipOf σA x y = some (iI (slp n v)) := by
  unfold f_X0_slipOf
  rw [has_eq hp hx hn h, Option.bind_some]
  subst hx
  subst hy
  unfold slp
  by_cases c : n = -1
  · rw [if_pos c, if_pos (by rw [c]; exact bI_f)]; rfl
  · rw [if_neg c, if_neg (by rw [decide_eq_true c]; exact bI_t), if_neg (ix_no (by omega) (by omega) (by omega)), iI_clamp (by omega) (by omega), show ((p : Int)).toNat = p from rfl, h]
    by_cases d : n = v
    · rw [if_pos d, if_pos (by rw [d])]; rfl
    · rw [if_neg d, if_neg (by rw [iI_eq (by omega) (by omega) (by omega) (by omega)]; exact d)]; rfl
theorem slips119 {N : Nat} (hN : 12002 ≤ N) {σA : St2 × Int64} {K : Int32} {C E Y : Int} {nm : Nat → Int} (hA : AccI σA.1 K C E Y nm) (ho : okR C E Y nm) {s d : Int} (hd : 0 ≤ d) (hd2 : d ≤ 400000) : f_X0_slipsAt_119 N σA (iI s) (iI d) (iI (yrOf C d)) = some (iI (s + slp (nm 1) (dMo C d) + slp (nm 2) (dDa C d))) := by
  have hr := dMD_rng ho.1 hd hd2
  have hq := mdIn hr.1 hr.2
  unfold f_X0_slipsAt_119
  rw [hA.2.1, monthDayOf_eq hN ho.1 hd hd2, Option.bind_some]
  show (f_X0_slipOf σA 1 (f_X2_monthIn (iI (dMo C d * 100 + dDa C d)))).bind _ = _
  rw [hq.1, slipOf_eq (x := 1) (p := 1) (by omega) rfl (ho.2.2.2 1 (by omega)) (by omega) rfl (hA.2.2.2.2 1 (by omega)), Option.bind_some]
  show (f_X0_slipOf σA 2 (f_X2_dayIn (iI (dMo C d * 100 + dDa C d)))).bind _ = _
  rw [hq.2, slipOf_eq (x := 2) (p := 2) (by omega) rfl (ho.2.2.2 2 (by omega)) (by omega) rfl (hA.2.2.2.2 2 (by omega)), Option.bind_some, iI_add, iI_add]
theorem slp_m1 {n v : Int} (h : n = -1) : slp n v = 0 := by
  unfold slp
  rw [if_pos h]
theorem slips81 {N : Nat} (hN : 12002 ≤ N) {σA : St2 × Int64} {K : Int32} {C E Y : Int} {nm : Nat → Int} (hA : AccI σA.1 K C E Y nm) (ho : okR C E Y nm) {c s d : Int} (hc : 0 ≤ c ∧ c ≤ 5) (hs : 0 ≤ s ∧ s ≤ 1) (hd : 0 ≤ d) (hd2 : d ≤ 400000) : ∃ o : Int, f_X0_slipsAt_81 N σA (iI c) (iI s) (iI d) (iI (yrOf C d)) = some (iI o) ∧ 0 ≤ o ∧ o ≤ 5 ∧ (s + dsum C Y nm d ≤ c → o = s + dsum C Y nm d) ∧ (c < s + dsum C Y nm d → c < o) := by
  have hr := yrOf_rng ho.1 hd hd2
  have hY := ho.2.2.1
  have h0 := slp_rng (nm 0) (yrOf C d - Y)
  have h1 := slp_rng (nm 1) (dMo C d)
  have h2 := slp_rng (nm 2) (dDa C d)
  unfold f_X0_slipsAt_81
  rw [hA.2.2.2.1, iI_sub, slipOf_eq (x := 0) (p := 0) (by omega) rfl (ho.2.2.2 0 (by omega)) (by omega) rfl (hA.2.2.2.2 0 (by omega)), Option.bind_some, iI_add]
  unfold dsum
  by_cases c1 : c < s + slp (nm 0) (yrOf C d - Y)
  · rw [if_pos (by rw [iI_lt (by omega) (by omega) (by omega) (by omega)]; exact c1)]
    exact ⟨_, rfl, by omega, by omega, fun g => by omega, fun _ => c1⟩
  · rw [if_neg (by rw [iI_lt (by omega) (by omega) (by omega) (by omega)]; exact c1), has_eq (x := 1) (p := 1) (by omega) rfl (ho.2.2.2 1 (by omega)) (hA.2.2.2.2 1 (by omega)), Option.bind_some, has_eq (x := 2) (p := 2) (by omega) rfl (ho.2.2.2 2 (by omega)) (hA.2.2.2.2 2 (by omega)), Option.bind_some, slips119 hN hA ho hd hd2]
    by_cases n1 : nm 1 = -1
    · rw [if_pos (by rw [n1]; exact bI_f), slp_m1 n1]
      by_cases n2 : nm 2 = -1
      · rw [if_pos (by rw [n2]; exact bI_f), slp_m1 n2]
        exact ⟨_, rfl, by omega, by omega, fun g => by omega, fun g => by omega⟩
      · rw [if_neg (by rw [decide_eq_true n2]; exact bI_t)]
        exact ⟨_, rfl, by omega, by omega, fun g => by omega, fun g => by omega⟩
    · rw [if_neg (by rw [decide_eq_true n1]; exact bI_t)]
      exact ⟨_, rfl, by omega, by omega, fun g => by omega, fun g => by omega⟩
theorem canTell_eq {v : Int} (hv : -10000 ≤ v ∧ v ≤ 10000) : f_X0_canTell (iI v) = decide (0 ≤ v ∧ v ≤ 999) := by
  unfold f_X0_canTell
  rw [show (0 : Int32) = iI 0 from rfl, show (999 : Int32) = iI 999 from rfl]
  by_cases c : v < 0
  · rw [if_pos (by rw [iI_lt (by omega) (by omega) (by omega) (by omega)]; exact c), decide_eq_false (by omega)]
  · rw [if_neg (by rw [iI_lt (by omega) (by omega) (by omega) (by omega)]; exact c)]
    by_cases d : 999 < v
    · rw [if_pos (by rw [iI_lt (by omega) (by omega) (by omega) (by omega)]; exact d), decide_eq_false (by omega)]
    · rw [if_neg (by rw [iI_lt (by omega) (by omega) (by omega) (by omega)]; exact d), decide_eq_true (by omega)]
theorem slips41 {N : Nat} (hN : 12002 ≤ N) {σA : St2 × Int64} {K : Int32} {C E Y : Int} {nm : Nat → Int} (hA : AccI σA.1 K C E Y nm) (ho : okR C E Y nm) {c h : Int} (hc : 0 ≤ c ∧ c ≤ 4) (hh : 0 ≤ h) (hh2 : h ≤ 9600000) : ∃ o : Int, f_X0_slipsAt_41 N σA (iI h) (iI c) (iI (slp (nm 3) (h % 24))) = some (iI o) ∧ 0 ≤ o ∧ o ≤ 5 ∧ (tot C Y nm h ≤ c → o = tot C Y nm h) ∧ (c < tot C Y nm h → c < o) := by
  have hr := yrOf_rng ho.1 (d := h / 24) (by omega) (by omega)
  have hY := ho.2.2.1
  have h3 := slp_rng (nm 3) (h % 24)
  obtain ⟨o, e, g1, g2, g3, g4⟩ := slips81 hN hA ho (c := c) (s := slp (nm 3) (h % 24)) (d := h / 24) (by omega) h3 (by omega) (by omega)
  unfold f_X0_slipsAt_41
  rw [has_eq (x := 0) (p := 0) (by omega) rfl (ho.2.2.2 0 (by omega)) (hA.2.2.2.2 0 (by omega)), Option.bind_some, show (24 : Int32) = iI 24 from rfl, iI_div (by omega) (by omega) (by omega) (by omega), hA.2.1, yearOf_eq ho.1 (by omega) (by omega), e, hA.2.2.2.1, iI_sub, canTell_eq (by omega)]
  unfold tot
  by_cases n0 : nm 0 = -1
  · rw [if_pos (by rw [n0]; exact bI_f), if_pos (Or.inl n0)]
    exact ⟨o, rfl, g1, g2, g3, g4⟩
  · rw [if_neg (by rw [decide_eq_true n0]; exact bI_t)]
    by_cases c1 : 0 ≤ yrOf C (h / 24) - Y ∧ yrOf C (h / 24) - Y ≤ 999
    · rw [if_neg (by rw [decide_eq_true c1]; exact bI_t), if_pos (Or.inr c1)]
      exact ⟨o, rfl, g1, g2, g3, g4⟩
    · rw [if_pos (by rw [decide_eq_false c1]; exact bI_f), if_neg (fun g => g.elim n0 c1)]
      exact ⟨5, rfl, by omega, by omega, fun g => by omega, fun g => by omega⟩
theorem slipsAt_eq {N : Nat} (hN : 12002 ≤ N) {σA : St2 × Int64} {K : Int32} {C E Y : Int} {nm : Nat → Int} (hA : AccI σA.1 K C E Y nm) (ho : okR C E Y nm) {c h : Int} (hc : 0 ≤ c ∧ c ≤ 4) (hh : 0 ≤ h) (hh2 : h ≤ 9600000) : ∃ o : Int, f_X0_slipsAt N σA (iI h) (iI c) = some (iI o) ∧ 0 ≤ o ∧ o ≤ 5 ∧ (tot C Y nm h ≤ c → o = tot C Y nm h) ∧ (c < tot C Y nm h → c < o) := by
  have h3 := slp_rng (nm 3) (h % 24)
  obtain ⟨o, e, g1, g2, g3, g4⟩ := slips41 hN hA ho hc hh hh2
  have hd := dsum_rng C Y nm (h / 24)
  unfold f_X0_slipsAt
  rw [show (24 : Int32) = iI 24 from rfl, iI_rem (by omega) (by omega) (by omega) (by omega), slipOf_eq (x := 3) (p := 3) (by omega) rfl (ho.2.2.2 3 (by omega)) (by omega) rfl (hA.2.2.2.2 3 (by omega)), Option.bind_some]
  by_cases c1 : c < slp (nm 3) (h % 24)
  · rw [if_pos (by rw [iI_lt (by omega) (by omega) (by omega) (by omega)]; exact c1)]
    refine ⟨_, rfl, by omega, by omega, ?_, fun _ => c1⟩
    unfold tot
    split <;> intro g <;> omega
  · rw [if_neg (by rw [iI_lt (by omega) (by omega) (by omega) (by omega)]; exact c1), has_eq (x := 0) (p := 0) (by omega) rfl (ho.2.2.2 0 (by omega)) (hA.2.2.2.2 0 (by omega)), Option.bind_some, has_eq (x := 1) (p := 1) (by omega) rfl (ho.2.2.2 1 (by omega)) (hA.2.2.2.2 1 (by omega)), Option.bind_some, has_eq (x := 2) (p := 2) (by omega) rfl (ho.2.2.2 2 (by omega)) (hA.2.2.2.2 2 (by omega)), Option.bind_some, e]
    by_cases n0 : nm 0 = -1
    · rw [if_pos (by rw [n0]; exact bI_f)]
      by_cases n1 : nm 1 = -1
      · rw [if_pos (by rw [n1]; exact bI_f)]
        by_cases n2 : nm 2 = -1
        · rw [if_pos (by rw [n2]; exact bI_f)]
          have ht : tot C Y nm h = slp (nm 3) (h % 24) := by
            unfold tot dsum
            rw [if_pos (Or.inl n0), slp_m1 n0, slp_m1 n1, slp_m1 n2]
            omega
          rw [ht]
          exact ⟨_, rfl, by omega, by omega, fun _ => rfl, fun g => g⟩
        · rw [if_neg (by rw [decide_eq_true n2]; exact bI_t)]
          exact ⟨o, rfl, g1, g2, g3, g4⟩
      · rw [if_neg (by rw [decide_eq_true n1]; exact bI_t)]
        exact ⟨o, rfl, g1, g2, g3, g4⟩
    · rw [if_neg (by rw [decide_eq_true n0]; exact bI_t)]
      exact ⟨o, rfl, g1, g2, g3, g4⟩
