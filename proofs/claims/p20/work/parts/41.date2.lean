/-! the day's year, and date -/
theorem ydy_rng (c : Int) (lo : Bool) : 354 ≤ ydy c lo ∧ ydy c lo ≤ 384 := by
  unfold ydy
  repeat' split
  all_goals omega
theorem fdy_mono {c y : Int} (hc : c = 0 ∨ c = 1 ∨ c = 2) (hy : 0 ≤ y) : ∀ j : Nat, fdy c y ≤ fdy c (y + j)
  | 0 => by rw [show y + ((0 : Nat) : Int) = y by omega]; exact Int.le_refl _
  | j + 1 => by
    have h1 := fdy_mono hc hy j
    have h2 := fdy_succ hc (y := y + j) (by omega)
    have h3 := ydy_rng c (lng c (y + j))
    rw [show y + ((j + 1 : Nat) : Int) = y + j + 1 by omega]
    omega
theorem yr_loop {N : Nat} (hN : 12002 ≤ N) {c d Y : Int} (hc : c = 0 ∨ c = 1 ∨ c = 2) (hY2 : Y ≤ 1200) (hd1 : fdy c Y ≤ d) (hd2 : d < fdy c (Y + 1)) (hd3 : d ≤ 400000) : ∀ (k n : Nat) (y : Int) (σ : St2 × (Nat → Int64)), (∀ n, n < 12 → σ.1 10 n = iI (mtab n)) → 0 ≤ y → y ≤ Y → Y - y ≤ k → 0 ≤ d - fdy c y → 0 ≤ fdy c y → k < n → σ.1 0 10 = iI y → ∃ σ' : St2, f_X8_dates_62 N n σ (iI c) (iI (d - fdy c y)) = some (σ', σ.2) ∧ σ' 0 10 = iI Y ∧ σ' 0 11 = iI (fmd c (lng c Y) 13 (d - fdy c Y)).1 ∧ σ' 0 12 = iI (fmd c (lng c Y) 13 (d - fdy c Y)).2 ∧ offD σ' σ.1 := by
  intro k
  induction k with
  | zero =>
    intro n y σ ht y0 y1 y2 r0 f0 hn g10
    have ey : y = Y := by omega
    subst ey
    have hs := fdy_succ hc y0
    have hr := ydy_rng c (lng c y)
    cases n with
    | zero => exact absurd hn (Nat.not_lt_zero _)
    | succ n =>
      rw [f_X8_dates_62, g10, yearDays_eq hc y0 (by omega), if_pos (by rw [iI_lt (by omega) (by omega) (by omega) (by omega)]; omega)]
      obtain ⟨σ', e1, e2, e3, e4, e5⟩ := dm_loop N hc y0 (by omega) 13 N (d - fdy c y) (up2 σ.1 0 11 1, σ.2) ht g10 rfl (by omega) (by omega) (by omega) (by omega) (by rw [rsm_year hc]; omega)
      exact ⟨σ', e1, e2, e3, e4, offD_tr e5 (offD_up (Or.inr (Or.inl rfl)))⟩
  | succ k ih =>
    intro n y σ ht y0 y1 y2 r0 f0 hn g10
    have hs := fdy_succ hc y0
    have hr := ydy_rng c (lng c y)
    cases n with
    | zero => exact absurd hn (Nat.not_lt_zero _)
    | succ n =>
      by_cases ey : y = Y
      · subst ey
        rw [f_X8_dates_62, g10, yearDays_eq hc y0 (by omega), if_pos (by rw [iI_lt (by omega) (by omega) (by omega) (by omega)]; omega)]
        obtain ⟨σ', e1, e2, e3, e4, e5⟩ := dm_loop N hc y0 (by omega) 13 N (d - fdy c y) (up2 σ.1 0 11 1, σ.2) ht g10 rfl (by omega) (by omega) (by omega) (by omega) (by rw [rsm_year hc]; omega)
        exact ⟨σ', e1, e2, e3, e4, offD_tr e5 (offD_up (Or.inr (Or.inl rfl)))⟩
      · have hmo := fdy_mono hc (y := y + 1) (by omega) (Y - (y + 1)).toNat
        rw [Int.toNat_of_nonneg (by omega), show y + 1 + (Y - (y + 1)) = Y by omega] at hmo
        rw [f_X8_dates_62, g10, yearDays_eq hc y0 (by omega), if_neg (by rw [iI_lt (by omega) (by omega) (by omega) (by omega)]; omega), show (1 : Int32) = iI 1 from rfl, iI_add, iI_sub, show d - fdy c y - ydy c (lng c y) = d - fdy c (y + 1) by omega]
        obtain ⟨σ', e1, e2, e3, e4, e5⟩ := ih n (y + 1) (up2 σ.1 0 10 (iI (y + 1)), σ.2) ht (by omega) (by omega) (by omega) (by omega) (by omega) (by omega) rfl
        exact ⟨σ', e1, e2, e3, e4, offD_tr e5 (offD_up (Or.inl rfl))⟩
theorem dates44 {N : Nat} (hN : 12002 ≤ N) {c d s u : Int} (hc : c = 0 ∨ c = 1 ∨ c = 2) (hd : 0 ≤ d) (hd2 : d ≤ 400000) (hs : 0 ≤ s ∧ s ≤ 19) (hu : 300 ≤ u ∧ u ≤ 7000) (hf : fdy c (d / u * s) = d / u * u) (hy : 0 ≤ d / u * s) {σ : St2 × (Nat → Int64)} (ht : ∀ n, n < 12 → σ.1 10 n = iI (mtab n)) : ∃ σ' : St2, f_X8_dates_44 N σ (iI d) (iI c) (iI s) (iI u) = some (σ', σ.2) ∧ σ' 0 10 = iI (yrOf c d) ∧ σ' 0 11 = iI (fmd c (lng c (yrOf c d)) 13 (d - fdy c (yrOf c d))).1 ∧ σ' 0 12 = iI (fmd c (lng c (yrOf c d)) 13 (d - fdy c (yrOf c d))).2 ∧ offD σ' σ.1 := by
  have hr := yrOf_rng hc hd hd2
  have hm := Int.emod_def d u
  have hp := Int.emod_nonneg d (b := u) (by omega)
  have hq : u * (d / u) = d / u * u := Int.mul_comm _ _
  have hz : ¬ iI u = 0 := by rw [show (0 : Int32) = iI 0 from rfl, iI_eq (by omega) (by omega) (by omega) (by omega)]; omega
  have hv : 0 ≤ d / u := Int.ediv_nonneg hd (by omega)
  have hw : 0 ≤ d / u * u := Int.mul_nonneg hv (by omega)
  have hy2 : d / u * s ≤ yrOf c d := by
    by_cases e : d / u * s ≤ yrOf c d
    · exact e
    · have hmo := fdy_mono hc (y := yrOf c d + 1) (by omega) (d / u * s - (yrOf c d + 1)).toNat
      rw [Int.toNat_of_nonneg (by omega), show yrOf c d + 1 + (d / u * s - (yrOf c d + 1)) = d / u * s by omega] at hmo
      omega
  unfold f_X8_dates_44 lt
  dsimp only
  rw [if_neg hz, if_neg hz, iI_rem hd (by omega) (by omega) (by omega), iI_div hd (by omega) (by omega) (by omega), iI_mul, show d % u = d - fdy c (d / u * s) by omega]
  obtain ⟨σ', e1, e2, e3, e4, e5⟩ := yr_loop hN hc (Y := yrOf c d) hr.2.1 hr.2.2.1 hr.2.2.2 hd2 1200 N (d / u * s) (up2 σ.1 0 10 (iI (d / u * s)), σ.2) ht hy hy2 (by omega) (by omega) (by omega) (by omega) rfl
  exact ⟨σ', e1, e2, e3, e4, offD_tr e5 (offD_up (Or.inl rfl))⟩
theorem dates_eq {N : Nat} (hN : 12002 ≤ N) {c d : Int} (hc : c = 0 ∨ c = 1 ∨ c = 2) (hd : 0 ≤ d) (hd2 : d ≤ 400000) {σ : St2 × (Nat → Int64)} (ht : ∀ n, n < 12 → σ.1 10 n = iI (mtab n)) : ∃ σ' : St2, f_X8_dates N σ (iI d) (iI c) = some (σ', σ.2) ∧ σ' 0 10 = iI (yrOf c d) ∧ σ' 0 11 = iI (fmd c (lng c (yrOf c d)) 13 (d - fdy c (yrOf c d))).1 ∧ σ' 0 12 = iI (fmd c (lng c (yrOf c d)) 13 (d - fdy c (yrOf c d))).2 ∧ offD σ' σ.1 := by
  have hr := yrOf_rng hc hd hd2
  unfold f_X8_dates f_X8_dates_19
  rcases hc with rfl | rfl | rfl
  · rw [if_pos (show iI 0 = 0 from rfl), if_pos (show iI 0 = 0 from rfl)]
    refine dates44 hN (c := 0) (s := 1) (u := 365) (Or.inl rfl) hd hd2 (by omega) (by omega) ?_ ?_ ht
    · unfold fdy; rw [if_pos rfl]; omega
    · omega
  · rw [if_neg (show ¬ iI 1 = 0 by decide), if_pos (show iI 1 = 1 from rfl), if_neg (show ¬ iI 1 = 0 by decide), if_pos (show iI 1 = 1 from rfl)]
    refine dates44 hN (c := 1) (s := 4) (u := 1461) (Or.inr (Or.inl rfl)) hd hd2 (by omega) (by omega) ?_ ?_ ht
    · unfold fdy; rw [if_neg (by decide), if_pos rfl]; omega
    · omega
  · rw [if_neg (show ¬ iI 2 = 0 by decide), if_neg (show ¬ iI 2 = 1 by decide), if_neg (show ¬ iI 2 = 0 by decide), if_neg (show ¬ iI 2 = 1 by decide)]
    refine dates44 hN (c := 2) (s := 19) (u := 6936) (Or.inr (Or.inr rfl)) hd hd2 (by omega) (by omega) ?_ ?_ ht
    · unfold fdy; rw [if_neg (by decide), if_neg (by decide)]; omega
    · omega
