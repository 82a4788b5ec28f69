/-! day -/
def sml (c : Int) (lo : Bool) : Nat → Nat → Int
  | _, 0 => 0
  | m, k + 1 => ml c lo m + sml c lo (m + 1) k
theorem dy_house (N : Nat) {c y : Int} (hc : c = 0 ∨ c = 1 ∨ c = 2) (hy : 0 ≤ y) (hy2 : y ≤ 3000) (d : Int) {mo : Nat} (hmo : mo ≤ 13) : ∀ (k n m : Nat) (acc : Int), 1 ≤ m → m + k = mo → k < n → f_X2_dayOf_27 N n (iI c) (iI y) (iI mo) (iI d) (iI acc) (iI m) = some (iI (acc + sml c (lng c y) m k + d - 1)) := by
  intro k
  induction k with
  | zero =>
    intro n m acc hm hk hn
    cases n with
    | zero => exact absurd hn (Nat.not_lt_zero _)
    | succ n =>
      rw [f_X2_dayOf_27, if_pos (by rw [iI_le (by omega) (by omega) (by omega) (by omega)]; omega), iI_add, show (1 : Int32) = iI 1 from rfl, iI_sub]
      show some (iI (acc + d - 1)) = some (iI (acc + 0 + d - 1))
      rw [Int.add_zero]
  | succ k ih =>
    intro n m acc hm hk hn
    cases n with
    | zero => exact absurd hn (Nat.not_lt_zero _)
    | succ n =>
      rw [f_X2_dayOf_27, if_neg (by rw [iI_le (by omega) (by omega) (by omega) (by omega)]; omega), if_neg (by rw [show (13 : Int32) = iI 13 from rfl, iI_le (by omega) (by omega) (by omega) (by omega)]; omega), monthLength_eq hc hy hy2 (m := m) (by omega), Option.bind_some, iI_add, nx, ih n (m + 1) _ (by omega) (by omega) (by omega), sml, Int.add_assoc acc]
theorem dy_model (N : Nat) {σ : St2 × (Nat → Int64)} (ht : ∀ n, n < 12 → σ.1 10 n = iI (mtab n)) {c y : Int} (hc : c = 0 ∨ c = 1 ∨ c = 2) (hy : 0 ≤ y) (hy2 : y ≤ 3000) {mo : Nat} (hmo : mo ≤ 13) : ∀ (k n m : Nat) (acc : Int), 1 ≤ m → m + k = mo → k < n → f_X8_day_75 N n σ (iI c) (iI y) (iI mo) (iI acc) (iI m) = some (iI (acc + sml c (lng c y) m k)) := by
  intro k
  induction k with
  | zero =>
    intro n m acc hm hk hn
    cases n with
    | zero => exact absurd hn (Nat.not_lt_zero _)
    | succ n =>
      rw [f_X8_day_75, if_pos (by rw [iI_le (by omega) (by omega) (by omega) (by omega)]; omega)]
      show some (iI acc) = some (iI (acc + 0))
      rw [Int.add_zero]
  | succ k ih =>
    intro n m acc hm hk hn
    cases n with
    | zero => exact absurd hn (Nat.not_lt_zero _)
    | succ n =>
      rw [f_X8_day_75, if_neg (by rw [iI_le (by omega) (by omega) (by omega) (by omega)]; omega), monthDays_eq ht hc hy hy2 (m := m) (by omega), Option.bind_some, iI_add, nx, ih n (m + 1) _ (by omega) (by omega) (by omega), sml, Int.add_assoc acc]
theorem dy_years {N : Nat} (hN : 12002 ≤ N) {σ : St2 × (Nat → Int64)} (ht : ∀ n, n < 12 → σ.1 10 n = iI (mtab n)) {c : Int} (hc : c = 0 ∨ c = 1 ∨ c = 2) {y : Nat} (hy2 : y ≤ 3000) {mo : Nat} (hmo : 1 ≤ mo ∧ mo ≤ 13) : ∀ (k n i : Nat) (acc : Int), i + k = y → k < n → f_X8_day_49 N n σ (iI c) (iI y) (iI mo) (iI acc) (iI i) = some (iI (acc + (fdy c y - fdy c i) + sml c (lng c y) 1 (mo - 1))) := by
  intro k
  induction k with
  | zero =>
    intro n i acc hk hn
    have ei : i = y := by omega
    subst ei
    cases n with
    | zero => exact absurd hn (Nat.not_lt_zero _)
    | succ n =>
      rw [f_X8_day_49, if_pos (by rw [iI_le (by omega) (by omega) (by omega) (by omega)]; omega), show (1 : Int32) = iI ((1 : Nat) : Int) from rfl, dy_model N ht hc (by omega) (by omega) hmo.2 (mo - 1) N 1 acc (by omega) (by omega) (by omega), Int.sub_self, Int.add_zero]
  | succ k ih =>
    intro n i acc hk hn
    have hs := fdy_succ hc (y := (i : Int)) (by omega)
    cases n with
    | zero => exact absurd hn (Nat.not_lt_zero _)
    | succ n =>
      rw [f_X8_day_49, if_neg (by rw [iI_le (by omega) (by omega) (by omega) (by omega)]; omega), yearDays_eq hc (by omega) (by omega), iI_add, nx, ih n (i + 1) _ (by omega) (by omega)]
      congr 2
      rw [show ((i + 1 : Nat) : Int) = (i : Int) + 1 by omega, hs]
      omega
theorem ml_le {c : Int} (lo : Bool) (hc : c = 0 ∨ c = 1 ∨ c = 2) {m : Nat} (hm : 1 ≤ m ∧ m ≤ 13) : 0 ≤ ml c lo m ∧ ml c lo m ≤ 31 := by
  have := ml_rng lo hc (13 - m) (by omega)
  rw [show 13 - (13 - m) = m by omega] at this
  exact this
theorem day_eq {N : Nat} (hN : 12002 ≤ N) {σS σT σR : St2} {σV : St2 × (Nat → Nat)} {σQ : Nat → (St2 × Int64)} {σD : St2} {ra : Value} {σM : St2 × (Nat → Int64)} (ht : ∀ n, n < 12 → σM.1 10 n = iI (mtab n)) (x1 x2 x3 x4 : Int32) : ∃ o : Int32, f_X7_day N σS σT σR σV σQ σD ra x1 x2 x3 x4 = some o ∧ f_X8_day N σM x1 x2 x3 x4 = some o := by
  unfold f_X7_day f_X8_day f_X2_dayOf
  rw [show f_X8_isIn x1 0 2 = f_X2_isCalendar x1 from rfl]
  by_cases c3 : bI (f_X2_isCalendar x1) = 0
  · rw [if_pos c3, if_pos c3]
    exact ⟨-1, rfl, rfl⟩
  · rw [if_neg c3, if_neg c3]
    have hc := isCal_t c3
    unfold f_X8_isIn
    by_cases c1 : x2 < 0
    · rw [if_pos c1, if_pos c1, if_pos bI_f]
      exact ⟨-1, rfl, rfl⟩
    · rw [if_neg c1, if_neg c1]
      by_cases c2 : 1100 < x2
      · have c2' : ¬ x2 ≤ 1100 := by
          rw [Int32.lt_iff_toInt_lt] at c2
          rw [Int32.le_iff_toInt_le]
          omega
        rw [if_neg c2', if_pos c2, if_pos bI_f]
        exact ⟨-1, rfl, rfl⟩
      · have c2' : x2 ≤ 1100 := by
          rw [Int32.lt_iff_toInt_lt] at c2
          rw [Int32.le_iff_toInt_le]
          omega
        rw [if_pos c2', if_neg c2, if_neg bI_t]
        by_cases c4 : x4 < 1
        · rw [if_pos c4, if_pos c4]
          exact ⟨-1, rfl, rfl⟩
        · rw [if_neg c4, if_neg c4]
          have d1 : ¬ x4 ≤ 0 := by
            rw [Int32.lt_iff_toInt_lt, show (1 : Int32) = iI 1 from rfl, iI_toInt (by omega) (by omega)] at c4
            rw [Int32.le_iff_toInt_le, show (0 : Int32) = iI 0 from rfl, iI_toInt (by omega) (by omega)]
            omega
          by_cases c5 : x3 < 1
          · unfold f_X2_monthLength f_X8_monthDays
            rw [if_pos c5, if_pos c5, Option.bind_some, Option.bind_some, if_neg d1, if_neg d1]
            exact ⟨-1, rfl, rfl⟩
          · by_cases c6 : x3 ≤ 13
            · rw [Int32.lt_iff_toInt_lt, show (1 : Int32) = iI 1 from rfl, iI_toInt (by omega) (by omega)] at c5
              rw [Int32.le_iff_toInt_le, show (13 : Int32) = iI 13 from rfl, iI_toInt (by omega) (by omega)] at c6
              rw [Int32.lt_iff_toInt_lt, show (0 : Int32) = iI 0 from rfl, iI_toInt (by omega) (by omega)] at c1
              rw [Int32.le_iff_toInt_le, show (1100 : Int32) = iI 1100 from rfl, iI_toInt (by omega) (by omega)] at c2'
              have e3 : x3 = iI ((x3.toInt.toNat : Nat) : Int) := by
                rw [Int.toNat_of_nonneg (by omega)]
                exact iI_of x3
              have e2 : x2 = iI ((x2.toInt.toNat : Nat) : Int) := by
                rw [Int.toNat_of_nonneg (by omega)]
                exact iI_of x2
              have r3 : 1 ≤ x3.toInt.toNat ∧ x3.toInt.toNat ≤ 13 := by omega
              have r2 : x2.toInt.toNat ≤ 1100 := by omega
              rw [e3, e2, iI_of x1, iI_of x4]
              generalize x3.toInt.toNat = mo at r3
              generalize x2.toInt.toNat = y at r2
              generalize x1.toInt = c at hc
              generalize x4.toInt = d
              rw [monthLength_eq hc (by omega) (by omega) r3, monthDays_eq ht hc (by omega) (by omega) r3, Option.bind_some, Option.bind_some]
              by_cases c7 : iI d ≤ iI (ml c (lng c y) mo)
              · rw [if_pos c7, if_pos c7, firstDay_eq hc (by omega) (by omega)]
                have q1 := dy_house N hc (y := (y : Int)) (by omega) (by omega) d r3.2 (mo - 1) N 1 (fdy c y) (by omega) (by omega) (by omega)
                have q2 := dy_years hN ht hc (y := y) (by omega) r3 y N 0 (d - 1) (by omega) (by omega)
                have f0 : fdy c ((0 : Nat) : Int) = 0 := by
                  rcases hc with rfl | rfl | rfl <;> decide
                rw [f0] at q2
                rw [show (0 : Int32) = iI ((0 : Nat) : Int) from rfl, show (1 : Int32) = iI ((1 : Nat) : Int) from rfl, q1, Option.bind_some, iI_sub]
                refine ⟨_, rfl, ?_⟩
                rw [show (d - ((1 : Nat) : Int)) = d - 1 from rfl, q2]
                congr 2
                omega
              · rw [if_neg c7, if_neg c7]
                exact ⟨-1, rfl, rfl⟩
            · unfold f_X2_monthLength f_X8_monthDays
              rw [if_neg c5, if_neg c5, if_neg c6, if_neg c6, Option.bind_some, Option.bind_some, if_neg d1, if_neg d1]
              exact ⟨-1, rfl, rfl⟩
