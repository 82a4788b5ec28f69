/-! end -/
theorem end_eq {σS σT σR : St2} {σV : St2 × (Nat → Nat)} {σQ : Nat → (St2 × Int64)} {σD : St2} {ra : Value} {σM : St2 × (Nat → Int64)} {l : Nat} (h : TapeI σT σM.1 l) (x : Int32) : ∃ (o : Bool) (σT' σ' : St2) (l' : Nat), f_X7_end σS σT σR σV σQ σD ra x = (o, σT') ∧ f_X8_end σM x = (o, (σ', σM.2)) ∧ TapeI σT' σ' l' ∧ (∀ i, i ≠ 14 → σ' 0 i = σM.1 0 i) ∧ (∀ j, j ≠ 0 → σ' j = σM.1 j) := by
  have hh := h
  obtain ⟨b1, b2, b3, b4⟩ := h
  unfold f_X7_end f_X6_cutTo f_X8_end
  rw [b2, b3]
  by_cases c1 : x < 0
  · rw [if_pos c1, if_pos c1]
    exact ⟨false, σT, σM.1, l, rfl, rfl, hh, fun _ _ => rfl, fun _ _ => rfl⟩
  · rw [if_neg c1, if_neg c1]
    by_cases c2 : x ≤ iI (l : Int)
    · rw [if_pos c2, if_pos c2]
      rw [Int32.lt_iff_toInt_lt, show (0 : Int32) = iI 0 from rfl, iI_toInt (by omega) (by omega)] at c1
      rw [Int32.le_iff_toInt_le, iI_toInt (by omega) (by omega)] at c2
      have ex : x = iI ((x.toInt.toNat : Nat) : Int) := by
        rw [Int.toNat_of_nonneg (by omega)]
        exact iI_of x
      refine ⟨true, up2 σT 0 1 x, up2 σM.1 0 14 x, x.toInt.toNat, rfl, rfl, ⟨by omega, ex, ex, fun i hi => b4 i (by omega)⟩, ?_, ?_⟩
      · intro i hi
        show upd (σM.1 0) 14 _ i = _
        unfold upd
        rw [if_neg hi]
      · intro j hj
        unfold up2
        rw [if_neg hj]
    · rw [if_neg c2, if_neg c2]
      exact ⟨false, σT, σM.1, l, rfl, rfl, hh, fun _ _ => rfl, fun _ _ => rfl⟩
/-! calendars -/
def lng (c y : Int) : Bool := if c = 1 then decide (y % 4 = 0) else if c = 2 then decide ((7 * y + 1) % 19 < 7) else false
def ml (c : Int) (lo : Bool) (m : Nat) : Int := if c = 0 then (if m = 13 then 5 else 30) else if c = 1 then (if m = 13 then 0 else if m = 2 then (if lo then 29 else 28) else ([31, 28, 31, 30, 31, 30, 31, 31, 30, 31, 30, 31] : List Int).getD (m - 1) 0) else (if m = 13 then (if lo then 30 else 0) else if m % 2 = 1 then 30 else 29)
def fdy (c y : Int) : Int := if c = 0 then 365 * y else if c = 1 then 365 * y + (y + 3) / 4 else 354 * y + 30 * ((7 * y + 13) / 19)
def ydy (c : Int) (lo : Bool) : Int := if c = 0 then 365 else if c = 1 then (if lo then 366 else 365) else (if lo then 384 else 354)
theorem fdy_succ {c y : Int} (hc : c = 0 ∨ c = 1 ∨ c = 2) (hy : 0 ≤ y) : fdy c (y + 1) = fdy c y + ydy c (lng c y) := by
  unfold fdy ydy lng
  rcases hc with rfl | rfl | rfl
  · simp only [if_true, if_pos]
    omega
  · rw [if_neg (by omega), if_pos rfl, if_neg (by omega), if_pos rfl, if_neg (by omega), if_pos rfl, if_pos rfl]
    by_cases h : y % 4 = 0
    · rw [if_pos (decide_eq_true h)]; omega
    · rw [if_neg (by rw [decide_eq_false h]; decide)]; omega
  · simp only [show ¬ (2 : Int) = 0 by decide, show ¬ (2 : Int) = 1 by decide, if_false, if_pos]
    by_cases h : (7 * y + 1) % 19 < 7
    · rw [if_pos (decide_eq_true h), show 7 * (y + 1) + 13 = 7 * y + 20 by omega]
      generalize 7 * y = z at h ⊢
      omega
    · rw [if_neg (by rw [decide_eq_false h]; decide), show 7 * (y + 1) + 13 = 7 * y + 20 by omega]
      generalize 7 * y = z at h ⊢
      omega
theorem firstDay_eq {c y : Int} (hc : c = 0 ∨ c = 1 ∨ c = 2) (hy : 0 ≤ y) (hy2 : y ≤ 3000) : f_X2_firstDay (iI c) (iI y) = iI (fdy c y) := by
  unfold f_X2_firstDay fdy
  rcases hc with rfl | rfl | rfl
  · rw [if_pos (show iI 0 = 0 from rfl), if_pos (show (0 : Int) = 0 from rfl), show (365 : Int32) = iI 365 from rfl, iI_mul]
  · rw [if_neg (show ¬ iI 1 = 0 by decide), if_pos (show iI 1 = 1 from rfl), if_neg (show ¬ (1 : Int) = 0 by decide), if_pos (show (1 : Int) = 1 from rfl), show (365 : Int32) = iI 365 from rfl, show (3 : Int32) = iI 3 from rfl, show (4 : Int32) = iI 4 from rfl, iI_mul, iI_add, iI_div (by omega) (by omega) (by omega) (by omega), iI_add]
  · rw [if_neg (show ¬ iI 2 = 0 by decide), if_neg (show ¬ iI 2 = 1 by decide), if_neg (show ¬ (2 : Int) = 0 by decide), if_neg (show ¬ (2 : Int) = 1 by decide), show (354 : Int32) = iI 354 from rfl, show (30 : Int32) = iI 30 from rfl, show (7 : Int32) = iI 7 from rfl, show (13 : Int32) = iI 13 from rfl, show (19 : Int32) = iI 19 from rfl, iI_mul, iI_mul, iI_add, iI_div (by omega) (by omega) (by omega) (by omega), iI_mul, iI_add]
def yrOf (c d : Int) : Int := let g := if c = 0 then d / 365 else if c = 1 then 4 * d / 1461 else 19 * d / 6936; if fdy c g ≤ d then (if d < fdy c (g + 1) then g else g + 1) else g - 1
theorem yrOf_rng {c d : Int} (hc : c = 0 ∨ c = 1 ∨ c = 2) (hd : 0 ≤ d) (hd2 : d ≤ 400000) : 0 ≤ yrOf c d ∧ yrOf c d ≤ 1200 ∧ fdy c (yrOf c d) ≤ d ∧ d < fdy c (yrOf c d + 1) := by
  unfold yrOf fdy
  rcases hc with rfl | rfl | rfl
  · simp only [if_pos]
    split
    · split <;> omega
    · omega
  · simp only [show ¬ (1 : Int) = 0 by decide, if_false, if_pos]
    split
    · split <;> omega
    · omega
  · simp only [show ¬ (2 : Int) = 0 by decide, show ¬ (2 : Int) = 1 by decide, if_false]
    split
    · split <;> omega
    · rename_i hneg
      have h0 : ¬ 19 * d / 6936 = 0 := by
        intro e
        rw [e] at hneg
        omega
      rw [show 19 * d / 6936 - 1 + 1 = 19 * d / 6936 by omega]
      omega
theorem yearOf_eq {c d : Int} (hc : c = 0 ∨ c = 1 ∨ c = 2) (hd : 0 ≤ d) (hd2 : d ≤ 400000) : f_X2_yearOf (iI c) (iI d) = iI (yrOf c d) := by
  have hg : f_X2_guessYear (iI c) (iI d) = iI (if c = 0 then d / 365 else if c = 1 then 4 * d / 1461 else 19 * d / 6936) := by
    unfold f_X2_guessYear
    rcases hc with rfl | rfl | rfl
    · rw [if_pos (show iI 0 = 0 from rfl), if_pos (show (0 : Int) = 0 from rfl), show (365 : Int32) = iI 365 from rfl, iI_div (by omega) (by omega) (by omega) (by omega)]
    · rw [if_neg (show ¬ iI 1 = 0 by decide), if_pos (show iI 1 = 1 from rfl), if_neg (show ¬ (1 : Int) = 0 by decide), if_pos (show (1 : Int) = 1 from rfl), show (4 : Int32) = iI 4 from rfl, show (1461 : Int32) = iI 1461 from rfl, iI_mul, iI_div (by omega) (by omega) (by omega) (by omega)]
    · rw [if_neg (show ¬ iI 2 = 0 by decide), if_neg (show ¬ iI 2 = 1 by decide), if_neg (show ¬ (2 : Int) = 0 by decide), if_neg (show ¬ (2 : Int) = 1 by decide), show (19 : Int32) = iI 19 from rfl, show (6936 : Int32) = iI 6936 from rfl, iI_mul, iI_div (by omega) (by omega) (by omega) (by omega)]
  have hr : 0 ≤ (if c = 0 then d / 365 else if c = 1 then 4 * d / 1461 else 19 * d / 6936) ∧ (if c = 0 then d / 365 else if c = 1 then 4 * d / 1461 else 19 * d / 6936) ≤ 1200 := by
    split
    · omega
    · split <;> omega
  unfold f_X2_yearOf yrOf
  rw [hg]
  generalize (if c = 0 then d / 365 else if c = 1 then 4 * d / 1461 else 19 * d / 6936) = g at hr
  have he : 0 ≤ (7 * g + 13) / 19 := by omega
  have he2 : 0 ≤ (7 * (g + 1) + 13) / 19 := by omega
  have f1 : 0 ≤ fdy c g ∧ fdy c g ≤ 1000000 := by
    unfold fdy
    split
    · omega
    · split <;> omega
  have f2 : 0 ≤ fdy c (g + 1) ∧ fdy c (g + 1) ≤ 1000000 := by
    unfold fdy
    split
    · omega
    · split <;> omega
  rw [show (1 : Int32) = iI 1 from rfl, iI_add, iI_sub, firstDay_eq (y := g) hc (by omega) (by omega), firstDay_eq (y := g + 1) hc (by omega) (by omega)]
  dsimp only
  by_cases c1 : fdy c g ≤ d
  · rw [if_pos c1, if_pos (by rw [iI_le (by omega) (by omega) (by omega) (by omega)]; exact c1)]
    by_cases c2 : d < fdy c (g + 1)
    · rw [if_pos c2, if_pos (by rw [iI_lt (by omega) (by omega) (by omega) (by omega)]; exact c2)]
    · rw [if_neg c2, if_neg (by rw [iI_lt (by omega) (by omega) (by omega) (by omega)]; exact c2)]
  · rw [if_neg c1, if_neg (by rw [iI_le (by omega) (by omega) (by omega) (by omega)]; exact c1)]
