/-! the sky's half of the invariant, and its questions -/
def SkyI (σS σM : St2) (a b f : Int) : Prop := (0 ≤ a ∧ a < 36000) ∧ (0 ≤ b ∧ b < 36000) ∧ (0 ≤ f ∧ f < 36000) ∧ σS 0 0 = iI a ∧ σS 0 1 = iI b ∧ σS 0 2 = iI f ∧ σM 0 0 = iI a ∧ σM 0 1 = iI b ∧ σM 0 2 = iI f ∧ (σS 0 4 = 0 ∨ SkyOf σS a b f) ∧ (σM 0 3 = 0 ∨ ModOf σM a b f) ∧ (∀ n, n < 10 → σM 9 n = iI (wl n))
theorem isMoon_t {x : Int32} (h : ¬ bI (f_X5_isMoon x) = 0) : 0 ≤ x.toInt ∧ x.toInt ≤ 12000 := by
  unfold f_X5_isMoon at h
  by_cases h1 : x < 0
  · rw [if_pos h1] at h; exact absurd bI_f h
  · rw [if_neg h1] at h
    by_cases h2 : 12000 < x
    · rw [if_pos h2] at h; exact absurd bI_f h
    · rw [Int32.lt_iff_toInt_lt] at h1 h2
      rw [show (0 : Int32) = iI 0 from rfl, iI_toInt (by omega) (by omega)] at h1
      rw [show (12000 : Int32) = iI 12000 from rfl, iI_toInt (by omega) (by omega)] at h2
      omega
theorem first_loop (N : Nat) {σS : St2} {σM : St2 × (Nat → Int64)} {a f : Int} (ha : 0 ≤ a ∧ a < 36000) (hf : 0 ≤ f ∧ f < 36000) (h0 : σS 0 0 = iI a) (h2 : σS 0 2 = iI f) (g0 : σM.1 0 0 = iI a) (g2 : σM.1 0 2 = iI f) : ∀ (m n n' : Nat) (k : Int), 0 ≤ k → k ≤ 12000 → k < 446 * (m + 1) → m < n → m < n' → ∃ v : Int, 0 ≤ v ∧ v ≤ k ∧ f_X5_firstOfRound_2 N n σS (iI k) = some (iI v) ∧ ∀ y1 y2, f_X8_round_19 N n' σM y1 y2 (iI k) = f_X8_round_47 N σM y1 y2 (iI v) := by
  intro m
  induction m with
  | zero =>
    intro n n' k hk0 hk1 hk2 hn hn'
    cases n with
    | zero => exact absurd hn (Nat.not_lt_zero _)
    | succ n =>
      cases n' with
      | zero => exact absurd hn' (Nat.not_lt_zero _)
      | succ n' =>
        have c : iI k < 446 := by rw [show (446 : Int32) = iI 446 from rfl, iI_lt (by omega) (by omega) (by omega) (by omega)]; omega
        refine ⟨k, hk0, Int.le_refl k, ?_, ?_⟩
        · rw [f_X5_firstOfRound_2, if_pos c]
        · intro y1 y2
          rw [f_X8_round_19, if_pos c]
  | succ m ih =>
    intro n n' k hk0 hk1 hk2 hn hn'
    cases n with
    | zero => exact absurd hn (Nat.not_lt_zero _)
    | succ n =>
      cases n' with
      | zero => exact absurd hn' (Nat.not_lt_zero _)
      | succ n' =>
        by_cases hk : k < 446
        · have c : iI k < 446 := by rw [show (446 : Int32) = iI 446 from rfl, iI_lt (by omega) (by omega) (by omega) (by omega)]; omega
          refine ⟨k, hk0, Int.le_refl k, ?_, ?_⟩
          · rw [f_X5_firstOfRound_2, if_pos c]
          · intro y1 y2
            rw [f_X8_round_19, if_pos c]
        · have c : ¬ iI k < 446 := by rw [show (446 : Int32) = iI 446 from rfl, iI_lt (by omega) (by omega) (by omega) (by omega)]; omega
          have e1 : iI k - 446 = iI (k - 446) := by rw [show (446 : Int32) = iI 446 from rfl, iI_sub]
          have e2 : iI k + (-446) = iI (k - 446) := by rw [show (-446 : Int32) = iI (-446) from rfl, iI_add, Int.sub_eq_add_neg]
          have kr := knd_rng a f (k - 446)
          by_cases hz : iI (knd a f (k - 446)) = 0
          · refine ⟨k, hk0, Int.le_refl k, ?_, ?_⟩
            · rw [f_X5_firstOfRound_2, if_neg c, e1, kindOf_eq h0 h2 ha hf (by omega), if_pos hz]
            · intro y1 y2
              rw [f_X8_round_19, if_neg c, e1, sortOf_eq g0 g2 ha hf (by omega), if_pos hz]
          · obtain ⟨v, v0, v1, w1, w2⟩ := ih n n' (k - 446) (by omega) (by omega) (by omega) (by omega) (by omega)
            refine ⟨v, v0, by omega, ?_, ?_⟩
            · rw [f_X5_firstOfRound_2, if_neg c, e1, kindOf_eq h0 h2 ha hf (by omega), if_neg hz, e2, w1]
            · intro y1 y2
              rw [f_X8_round_19, if_neg c, e1, sortOf_eq g0 g2 ha hf (by omega), if_neg hz, e2, w2]
theorem last_loop (N : Nat) {σS : St2} {σM : St2 × (Nat → Int64)} {a f : Int} (ha : 0 ≤ a ∧ a < 36000) (hf : 0 ≤ f ∧ f < 36000) (h0 : σS 0 0 = iI a) (h2 : σS 0 2 = iI f) (g0 : σM.1 0 0 = iI a) (g2 : σM.1 0 2 = iI f) : ∀ (m n n' : Nat) (k : Int), 0 ≤ k → k ≤ 12000 → 12000 < k + 446 * (m + 1) → m < n → m < n' → ∃ v : Int, f_X5_lastOfRound_2 N n σS (iI k) = some (iI v) ∧ ∀ y1 y2 y3, f_X8_round_50 N n' σM y1 y2 y3 (iI k) = f_X8_round_84 N σM y1 y2 y3 (iI v) := by
  intro m
  induction m with
  | zero =>
    intro n n' k hk0 hk1 hk2 hn hn'
    cases n with
    | zero => exact absurd hn (Nat.not_lt_zero _)
    | succ n =>
      cases n' with
      | zero => exact absurd hn' (Nat.not_lt_zero _)
      | succ n' =>
        have c : 12000 < iI k + 446 := by rw [show (446 : Int32) = iI 446 from rfl, show (12000 : Int32) = iI 12000 from rfl, iI_add, iI_lt (by omega) (by omega) (by omega) (by omega)]; omega
        refine ⟨k, ?_, ?_⟩
        · rw [f_X5_lastOfRound_2, if_pos c]
        · intro y1 y2 y3
          rw [f_X8_round_50, if_pos c]
  | succ m ih =>
    intro n n' k hk0 hk1 hk2 hn hn'
    cases n with
    | zero => exact absurd hn (Nat.not_lt_zero _)
    | succ n =>
      cases n' with
      | zero => exact absurd hn' (Nat.not_lt_zero _)
      | succ n' =>
        by_cases hk : 12000 < k + 446
        · have c : 12000 < iI k + 446 := by rw [show (446 : Int32) = iI 446 from rfl, show (12000 : Int32) = iI 12000 from rfl, iI_add, iI_lt (by omega) (by omega) (by omega) (by omega)]; omega
          refine ⟨k, ?_, ?_⟩
          · rw [f_X5_lastOfRound_2, if_pos c]
          · intro y1 y2 y3
            rw [f_X8_round_50, if_pos c]
        · have c : ¬ 12000 < iI k + 446 := by rw [show (446 : Int32) = iI 446 from rfl, show (12000 : Int32) = iI 12000 from rfl, iI_add, iI_lt (by omega) (by omega) (by omega) (by omega)]; omega
          have e1 : iI k + 446 = iI (k + 446) := by rw [show (446 : Int32) = iI 446 from rfl, iI_add]
          have kr := knd_rng a f (k + 446)
          by_cases hz : iI (knd a f (k + 446)) = 0
          · refine ⟨k, ?_, ?_⟩
            · rw [f_X5_lastOfRound_2, if_neg c, e1, kindOf_eq h0 h2 ha hf (by omega), if_pos hz]
            · intro y1 y2 y3
              rw [f_X8_round_50, if_neg c, e1, sortOf_eq g0 g2 ha hf (by omega), if_pos hz]
          · obtain ⟨v, w1, w2⟩ := ih n n' (k + 446) (by omega) (by omega) (by omega) (by omega) (by omega)
            refine ⟨v, ?_, ?_⟩
            · rw [f_X5_lastOfRound_2, if_neg c, e1, kindOf_eq h0 h2 ha hf (by omega), if_neg hz, w1]
            · intro y1 y2 y3
              rw [f_X8_round_50, if_neg c, e1, sortOf_eq g0 g2 ha hf (by omega), if_neg hz, w2]
theorem round_eq {N : Nat} (hN : 12002 ≤ N) {σS σT σR : St2} {σV : St2 × (Nat → Nat)} {σQ : Nat → (St2 × Int64)} {σD : St2} {ra : Value} {σM : St2 × (Nat → Int64)} {a b f : Int} (h : SkyI σS σM.1 a b f) (x1 x2 : Int32) : ∃ o, f_X7_round N σS σT σR σV σQ σD ra x1 x2 = some o ∧ f_X8_round N σM x1 x2 = some o := by
  obtain ⟨ha, hb, hf, h0, h1, h2, g0, g1, g2, -, -, -⟩ := h
  unfold f_X7_round f_X8_round
  rw [show f_X8_isMoon x1 = f_X5_isMoon x1 from rfl]
  by_cases c1 : bI (f_X5_isMoon x1) = 0
  · rw [if_pos c1, if_pos c1]
    exact ⟨-1, rfl, rfl⟩
  · rw [if_neg c1, if_neg c1]
    have hx := isMoon_t c1
    rw [iI_of x1]
    generalize x1.toInt = k at hx
    rw [kindOf_eq h0 h2 ha hf hx, sortOf_eq g0 g2 ha hf hx]
    by_cases c2 : iI (knd a f k) = 0
    · rw [if_pos c2, if_pos c2]
      exact ⟨-1, rfl, rfl⟩
    · rw [if_neg c2, if_neg c2]
      obtain ⟨v, v0, v1, e1, e2⟩ := first_loop N ha hf h0 h2 g0 g2 30 N N k hx.1 hx.2 (by omega) (by omega) (by omega)
      obtain ⟨w, e3, e4⟩ := last_loop N ha hf h0 h2 g0 g2 30 N N k hx.1 hx.2 (by omega) (by omega) (by omega)
      unfold f_X5_firstOfRound f_X5_lastOfRound
      rw [e1, e2, e3]
      unfold f_X8_round_47
      rw [e4]
      unfold f_X8_round_84
      rw [Option.bind_some, Option.bind_some]
      repeat' split
      all_goals exact ⟨_, rfl, rfl⟩
theorem moon_eq {σS σT σR : St2} {σV : St2 × (Nat → Nat)} {σQ : Nat → (St2 × Int64)} {σD : St2} {ra : Value} {σM : St2 × (Nat → Int64)} {a b f : Int} (h : SkyI σS σM.1 a b f) (x1 x2 : Int32) : ∃ o, f_X7_moon σS σT σR σV σQ σD ra x1 x2 = some o ∧ f_X8_moon σM x1 x2 = some o := by
  obtain ⟨ha, hb, hf, h0, h1, h2, g0, g1, g2, -, -, hw⟩ := h
  unfold f_X7_moon f_X8_moon
  rw [show f_X8_isMoon x1 = f_X5_isMoon x1 from rfl]
  by_cases c1 : bI (f_X5_isMoon x1) = 0
  · rw [if_pos c1, if_pos c1]
    exact ⟨-1, rfl, rfl⟩
  · rw [if_neg c1, if_neg c1]
    have hx := isMoon_t c1
    rw [iI_of x1]
    generalize x1.toInt = k at hx
    rw [kindOf_eq h0 h2 ha hf hx, sortOf_eq g0 g2 ha hf hx, moonPlace_eq h0 ha hx, moonAt_eq g0 ha hx, sunPlace_eq h1 hb hx, sunAt_eq g1 hb hx, nodePlace_eq h2 hf hx, nodeAt_eq g2 hf hx, timeOf_eq h0 h1 ha hb hx, timeOfM_eq hw g0 g1 ha hb hx, Option.bind_some]
    repeat' split
    all_goals exact ⟨_, rfl, rfl⟩
theorem seen_eq {σS σT σR : St2} {σV : St2 × (Nat → Nat)} {σQ : Nat → (St2 × Int64)} {σD : St2} {ra : Value} {σM : St2 × (Nat → Int64)} {a b f : Int} (h : SkyI σS σM.1 a b f) (x1 x2 x3 : Int32) : ∃ o, f_X7_seen σS σT σR σV σQ σD ra x1 x2 x3 = some o ∧ f_X8_seen σM x1 x2 x3 = some o := by
  obtain ⟨ha, hb, hf, h0, h1, h2, g0, g1, g2, -, -, hw⟩ := h
  unfold f_X7_seen f_X8_seen
  rw [show f_X8_isMoon x1 = f_X5_isMoon x1 from rfl, show f_X8_isIn x2 (-720) 720 = f_X7_isEast x2 from rfl, show f_X8_isIn x3 0 60 = f_X7_isSlow x3 from rfl]
  by_cases c1 : bI (f_X5_isMoon x1) = 0
  · rw [if_pos c1, if_pos c1]
    exact ⟨_, rfl, rfl⟩
  · rw [if_neg c1, if_neg c1]
    have hx := isMoon_t c1
    rw [iI_of x1]
    generalize x1.toInt = k at hx
    rw [timeOf_eq h0 h1 ha hb hx, timeOfM_eq hw g0 g1 ha hb hx, Option.bind_some, Option.bind_some, show f_X8_seenAt (iI (tmI a b k)) x2 x3 = f_X5_minuteSeen (iI (tmI a b k)) x2 x3 from rfl]
    repeat' split
    all_goals exact ⟨_, rfl, rfl⟩
theorem off_sky {σS σ' σ : St2} {a b f : Int} (h : SkyI σS σ a b f) (hM : ModOf σ' a b f) (ho : off σ' σ) : SkyI σS σ' a b f := by
  obtain ⟨ha, hb, hf, h0, h1, h2, g0, g1, g2, hs, hm, hw⟩ := h
  refine ⟨ha, hb, hf, h0, h1, h2, hM.1, hM.2.1, hM.2.2.1, hs, Or.inr hM, ?_⟩
  intro n hn
  rw [ho.2 9 (by omega) (by omega) (by omega) (by omega)]
  exact hw n hn
theorem next_eq {N : Nat} (hN : 12002 ≤ N) {σS σT σR : St2} {σV : St2 × (Nat → Nat)} {σQ : Nat → (St2 × Int64)} {σD : St2} {ra : Value} {σM : St2 × (Nat → Int64)} {a b f : Int} (h : SkyI σS σM.1 a b f) (x1 x2 x3 : Int32) : ∃ (o : Int32) (σS' σ' : St2), f_X7_next N σS σT σR σV σQ σD ra x1 x2 x3 = some (o, σS') ∧ f_X8_next N σM x1 x2 x3 = some (o, (σ', σM.2)) ∧ SkyI σS' σ' a b f ∧ off σ' σM.1 ∧ σS' 0 3 = σS 0 3 := by
  have hh := h
  obtain ⟨ha, hb, hf, h0, h1, h2, g0, g1, g2, hs, hm, hw⟩ := h
  have no : off σM.1 σM.1 := ⟨fun _ _ _ => rfl, fun _ _ _ _ _ => rfl⟩
  unfold f_X7_next f_X8_next
  rw [show f_X8_isMoon x1 = f_X5_isMoon x1 from rfl]
  by_cases c1 : bI (f_X5_isMoon x1) = 0
  · rw [if_pos c1, if_pos c1]
    exact ⟨-1, σS, σM.1, rfl, rfl, hh, no, rfl⟩
  · rw [if_neg c1, if_neg c1]
    by_cases c2 : 1 ≤ x2
    · rw [if_pos c2, if_pos c2]
      obtain ⟨σS', e1, e2, e3⟩ := list_eq hN ha hb hf h0 h1 h2 hs
      obtain ⟨σ', q1, q2, q3⟩ := notes_eq hN ha hb hf hw g0 g1 g2 hm
      have hl := EL_len (a := a) hf
      obtain ⟨v, r1, r2⟩ := find_loop N (σM := (σ', σM.2)) (c := (EL a f 12001).length) rfl hf e2 q2 x1 x3 (EL a f 12001).length 0 N N x2 (Nat.zero_add _) (by omega) (by omega)
      refine ⟨v, σS', σ', ?_, ?_, ?_, q3, e3⟩
      · unfold f_X5_findEclipse
        rw [e1, Option.bind_some, show (0 : Int32) = iI ((0 : Nat) : Int) from rfl, r1]
        rfl
      · rw [q1, Option.bind_some, show (0 : Int32) = iI ((0 : Nat) : Int) from rfl, r2]
      · obtain ⟨_, _, _, _, _, _, s0, s1, s2, _, sm, sw⟩ := off_sky hh q2 q3
        exact ⟨ha, hb, hf, e2.1, e2.2.1, e2.2.2.1, s0, s1, s2, Or.inr e2, sm, sw⟩
    · rw [if_neg c2, if_neg c2]
      exact ⟨-1, σS, σM.1, rfl, rfl, hh, no, rfl⟩
theorem many_eq {N : Nat} (hN : 12002 ≤ N) {σS σT σR : St2} {σV : St2 × (Nat → Nat)} {σQ : Nat → (St2 × Int64)} {σD : St2} {ra : Value} {σM : St2 × (Nat → Int64)} {a b f : Int} (h : SkyI σS σM.1 a b f) (x1 x2 x3 : Int32) : ∃ (o : Int32) (σS' σ' : St2), f_X7_many N σS σT σR σV σQ σD ra x1 x2 x3 = some (o, σS') ∧ f_X8_many N σM x1 x2 x3 = some (o, (σ', σM.2)) ∧ SkyI σS' σ' a b f ∧ off σ' σM.1 ∧ σS' 0 3 = σS 0 3 := by
  have hh := h
  obtain ⟨ha, hb, hf, h0, h1, h2, g0, g1, g2, hs, hm, hw⟩ := h
  have no : off σM.1 σM.1 := ⟨fun _ _ _ => rfl, fun _ _ _ _ _ => rfl⟩
  unfold f_X7_many f_X8_many
  rw [show f_X8_isMoon x1 = f_X5_isMoon x1 from rfl, show f_X8_isMoon x2 = f_X5_isMoon x2 from rfl]
  by_cases c1 : bI (f_X5_isMoon x1) = 0
  · rw [if_pos c1, if_pos c1]
    exact ⟨-1, σS, σM.1, rfl, rfl, hh, no, rfl⟩
  · rw [if_neg c1, if_neg c1]
    by_cases c3 : bI (f_X5_isMoon x2) = 0
    · rw [if_pos c3, if_pos c3]
      exact ⟨-1, σS, σM.1, rfl, rfl, hh, no, rfl⟩
    · rw [if_neg c3, if_neg c3]
      by_cases c2 : x1 ≤ x2
      · rw [if_pos c2, if_pos c2]
        obtain ⟨σS', e1, e2, e3⟩ := list_eq hN ha hb hf h0 h1 h2 hs
        obtain ⟨σ', q1, q2, q3⟩ := notes_eq hN ha hb hf hw g0 g1 g2 hm
        have hl := EL_len (a := a) hf
        obtain ⟨v, r1, r2⟩ := many_loop N (σM := (σ', σM.2)) (c := (EL a f 12001).length) rfl hf e2 q2 x1 x2 x3 (EL a f 12001).length 0 N N 0 (Nat.zero_add _) (by omega) (by omega)
        refine ⟨v, σS', σ', ?_, ?_, ?_, q3, e3⟩
        · unfold f_X5_countEclipses
          rw [e1, Option.bind_some]
          show (f_X5_countEclipses_12 N N σS' x1 x2 x3 _ 0 (iI ((0 : Nat) : Int))).bind _ = _
          rw [r1]
          rfl
        · rw [q1, Option.bind_some]
          exact r2
        · obtain ⟨_, _, _, _, _, _, s0, s1, s2, _, sm, sw⟩ := off_sky hh q2 q3
          exact ⟨ha, hb, hf, e2.1, e2.2.1, e2.2.2.1, s0, s1, s2, Or.inr e2, sm, sw⟩
      · rw [if_neg c2, if_neg c2]
        exact ⟨-1, σS, σM.1, rfl, rfl, hh, no, rfl⟩
