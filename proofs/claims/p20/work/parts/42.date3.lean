/-! date -/
theorem isCal_t {x : Int32} (h : ¬ bI (f_X2_isCalendar x) = 0) : x.toInt = 0 ∨ x.toInt = 1 ∨ x.toInt = 2 := by
  unfold f_X2_isCalendar at h
  by_cases h1 : x < 0
  · rw [if_pos h1] at h; exact absurd bI_f h
  · rw [if_neg h1] at h
    by_cases h2 : 2 < x
    · rw [if_pos h2] at h; exact absurd bI_f h
    · rw [Int32.lt_iff_toInt_lt] at h1 h2
      rw [show (0 : Int32) = iI 0 from rfl, iI_toInt (by omega) (by omega)] at h1
      rw [show (2 : Int32) = iI 2 from rfl, iI_toInt (by omega) (by omega)] at h2
      omega
theorem monthDayOf_eq {N : Nat} (hN : 12002 ≤ N) {c d : Int} (hc : c = 0 ∨ c = 1 ∨ c = 2) (hd : 0 ≤ d) (hd2 : d ≤ 400000) : f_X2_monthDayOf N (iI c) (iI (yrOf c d)) (iI d) = some (iI ((fmd c (lng c (yrOf c d)) 13 (d - fdy c (yrOf c d))).1 * 100 + (fmd c (lng c (yrOf c d)) 13 (d - fdy c (yrOf c d))).2)) := by
  have hr := yrOf_rng hc hd hd2
  have hs := fdy_succ hc hr.1
  have hy := ydy_rng c (lng c (yrOf c d))
  unfold f_X2_monthDayOf
  rw [firstDay_eq hc hr.1 (by omega), iI_sub]
  exact md_loop N hc hr.1 (by omega) 13 N _ (by omega) (by omega) (by omega) (by omega) (by rw [rsm_year hc]; omega)
theorem mdIn {m d : Int} (hm : 1 ≤ m ∧ m ≤ 13) (hd : 1 ≤ d ∧ d ≤ 31) : f_X2_monthIn (iI (m * 100 + d)) = iI m ∧ f_X2_dayIn (iI (m * 100 + d)) = iI d := by
  unfold f_X2_monthIn f_X2_dayIn
  rw [show (100 : Int32) = iI 100 from rfl, iI_rem (by omega) (by omega) (by omega) (by omega), iI_div (by omega) (by omega) (by omega) (by omega), show (m * 100 + d) / 100 = m by omega, show (m * 100 + d) % 100 = d by omega]
  exact ⟨rfl, rfl⟩
theorem date_eq {N : Nat} (hN : 12002 ≤ N) {σS σT σR : St2} {σV : St2 × (Nat → Nat)} {σQ : Nat → (St2 × Int64)} {σD : St2} {ra : Value} {σM : St2 × (Nat → Int64)} (ht : ∀ n, n < 12 → σM.1 10 n = iI (mtab n)) (x1 x2 x3 : Int32) : ∃ (o : Int32) (σ' : St2), f_X7_date N σS σT σR σV σQ σD ra x1 x2 x3 = some o ∧ f_X8_date N σM x1 x2 x3 = some (o, (σ', σM.2)) ∧ offD σ' σM.1 := by
  unfold f_X7_date f_X8_date
  rw [show f_X8_isIn x2 0 2 = f_X2_isCalendar x2 from rfl]
  have hb : bI (f_X8_isIn x1 0 400000) = 0 ↔ x1 < 0 ∨ 400000 < x1 := by
    unfold f_X8_isIn
    by_cases c1 : x1 < 0
    · rw [if_pos c1]; exact ⟨fun _ => Or.inl c1, fun _ => bI_f⟩
    · rw [if_neg c1]
      by_cases c2 : 400000 < x1
      · rw [if_pos c2]; exact ⟨fun _ => Or.inr c2, fun _ => bI_f⟩
      · rw [if_neg c2]; exact ⟨fun h => absurd h bI_t, fun h => absurd h (fun g => g.elim c1 c2)⟩
  by_cases c1 : x1 < 0
  · rw [if_pos c1, if_pos (hb.mpr (Or.inl c1))]
    exact ⟨-1, σM.1, rfl, rfl, offD_rf _⟩
  · rw [if_neg c1]
    by_cases c2 : 400000 < x1
    · rw [if_pos c2, if_pos (hb.mpr (Or.inr c2))]
      exact ⟨-1, σM.1, rfl, rfl, offD_rf _⟩
    · rw [if_neg c2, if_neg (fun h => (hb.mp h).elim c1 c2)]
      by_cases c3 : bI (f_X2_isCalendar x2) = 0
      · rw [if_pos c3, if_pos c3]
        exact ⟨-1, σM.1, rfl, rfl, offD_rf _⟩
      · rw [if_neg c3, if_neg c3]
        have hc := isCal_t c3
        rw [Int32.lt_iff_toInt_lt] at c1 c2
        rw [show (0 : Int32) = iI 0 from rfl, iI_toInt (by omega) (by omega)] at c1
        rw [show (400000 : Int32) = iI 400000 from rfl, iI_toInt (by omega) (by omega)] at c2
        rw [iI_of x1, iI_of x2]
        generalize x1.toInt = d at c1 c2
        generalize x2.toInt = c at hc
        have hr := yrOf_rng hc (d := d) (by omega) (by omega)
        have hs := fdy_succ hc hr.1
        obtain ⟨σ', e1, e2, e3, e4, e5⟩ := dates_eq hN hc (d := d) (by omega) (by omega) ht
        have hg := fmd_rng (lng c (yrOf c d)) hc 13 (d - fdy c (yrOf c d)) (by omega) (by omega) (by rw [rsm_year hc]; omega)
        have hq := mdIn ⟨hg.1, hg.2.1⟩ ⟨hg.2.2.1, hg.2.2.2⟩
        rw [yearOf_eq hc (by omega) (by omega), monthDayOf_eq hN hc (by omega) (by omega), e1, Option.bind_some, Option.bind_some, hq.1, hq.2]
        dsimp only
        rw [e2, e3, e4]
        repeat' split
        all_goals exact ⟨_, σ', rfl, rfl, e5⟩
