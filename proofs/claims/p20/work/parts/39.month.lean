/-! months -/
def mtab (n : Nat) : Int := ([31, 28, 31, 30, 31, 30, 31, 31, 30, 31, 30, 31] : List Int).getD n 0
theorem mtab_sF : ∀ n, n < 12 → sF 1 n = iI (mtab n) := by decide +kernel
theorem monthLength_eq {c y : Int} (hc : c = 0 ∨ c = 1 ∨ c = 2) (hy : 0 ≤ y) (hy2 : y ≤ 3000) {m : Nat} (hm : 1 ≤ m ∧ m ≤ 13) : f_X2_monthLength (iI c) (iI y) (iI m) = some (iI (ml c (lng c y) m)) := by
  have a1 : ¬ iI (m : Int) < 1 := by rw [show (1 : Int32) = iI 1 from rfl, iI_lt (by omega) (by omega) (by omega) (by omega)]; omega
  have a2 : iI (m : Int) ≤ 13 := by rw [show (13 : Int32) = iI 13 from rfl, iI_le (by omega) (by omega) (by omega) (by omega)]; omega
  have a3 : 13 ≤ iI (m : Int) ↔ m = 13 := by rw [show (13 : Int32) = iI 13 from rfl, iI_le (by omega) (by omega) (by omega) (by omega)]; omega
  have a4 : iI (m : Int) ≤ 12 ↔ ¬ m = 13 := by rw [show (12 : Int32) = iI 12 from rfl, iI_le (by omega) (by omega) (by omega) (by omega)]; omega
  have a5 : iI (m : Int) = 2 ↔ m = 2 := by rw [show (2 : Int32) = iI 2 from rfl, iI_eq (by omega) (by omega) (by omega) (by omega)]; omega
  unfold f_X2_monthLength f_X2_monthLength_48
  rw [if_neg a1, if_pos a2]
  rcases hc with rfl | rfl | rfl
  · rw [if_pos (show iI 0 = 0 from rfl)]
    unfold ml
    rw [if_pos (show (0 : Int) = 0 from rfl)]
    by_cases e : m = 13
    · rw [if_pos (a3.mpr e), if_pos e]; rfl
    · rw [if_neg (fun h => e (a3.mp h)), if_neg e]; rfl
  · rw [if_neg (show ¬ iI 1 = 0 by decide), if_neg (show ¬ iI 1 = 2 by decide), if_neg (show ¬ iI 1 = 2 by decide)]
    unfold ml lng
    rw [if_neg (show ¬ (1 : Int) = 0 by decide), if_pos (show (1 : Int) = 1 from rfl), if_pos (show (1 : Int) = 1 from rfl)]
    by_cases e : m = 13
    · rw [if_neg (fun h => a4.mp h e), if_pos e]; rfl
    · rw [if_pos (a4.mpr e), if_neg e]
      have ix : ¬ (iI (m : Int) - 1 < 0 ∨ 12 ≤ Int32.toNatClampNeg (iI (m : Int) - 1)) := by
        rw [show (1 : Int32) = iI 1 from rfl, iI_sub]
        exact ix_no (n := 12) (by omega) (by omega) (by omega)
      have cl : Int32.toNatClampNeg (iI (m : Int) - 1) = m - 1 := by
        rw [show (1 : Int32) = iI 1 from rfl, iI_sub, iI_clamp (by omega) (by omega)]
        omega
      by_cases e2 : m = 2
      · rw [if_pos (a5.mpr e2), if_pos e2, show (4 : Int32) = iI 4 from rfl, iI_rem (by omega) (by omega) (by omega) (by omega)]
        by_cases e3 : y % 4 = 0
        · rw [if_pos (by rw [e3]; rfl), if_pos (decide_eq_true e3)]; rfl
        · rw [if_neg (by rw [show (0 : Int32) = iI 0 from rfl, iI_eq (by omega) (by omega) (by omega) (by omega)]; exact e3), if_neg ix, cl, if_neg (by rw [decide_eq_false e3]; decide), e2]; rfl
      · rw [if_neg (fun h => e2 (a5.mp h)), if_neg e2, if_neg ix, cl, mtab_sF (m - 1) (by omega)]; rfl
  · rw [if_neg (show ¬ iI 2 = 0 by decide), if_pos (show iI 2 = 2 from rfl), if_pos (show iI 2 = 2 from rfl)]
    unfold ml lng
    rw [if_neg (show ¬ (2 : Int) = 0 by decide), if_neg (show ¬ (2 : Int) = 1 by decide), if_neg (show ¬ (2 : Int) = 1 by decide), if_pos (show (2 : Int) = 2 from rfl)]
    by_cases e : m = 13
    · rw [if_pos (a3.mpr e), if_pos e, show (7 : Int32) = iI 7 from rfl, show (1 : Int32) = iI 1 from rfl, show (19 : Int32) = iI 19 from rfl, iI_mul, iI_add, iI_rem (by omega) (by omega) (by omega) (by omega)]
      by_cases e3 : (7 * y + 1) % 19 < 7
      · rw [if_neg (by rw [iI_le (by omega) (by omega) (by omega) (by omega)]; omega), if_pos (decide_eq_true e3)]; rfl
      · rw [if_pos (by rw [iI_le (by omega) (by omega) (by omega) (by omega)]; omega), if_neg (by rw [decide_eq_false e3]; decide)]; rfl
    · rw [if_neg (fun h => e (a3.mp h)), if_neg e, show (2 : Int32) = iI 2 from rfl, iI_rem (by omega) (by omega) (by omega) (by omega), show (29 : Int32) = iI 29 from rfl, iI_add]
      by_cases e2 : m % 2 = 1
      · rw [if_pos e2, show (29 + (m : Int) % 2) = 30 by omega]
      · rw [if_neg e2, show (29 + (m : Int) % 2) = 29 by omega]
theorem isLong_eq {c y : Int} (hc : c = 0 ∨ c = 1 ∨ c = 2) (hy : 0 ≤ y) (hy2 : y ≤ 3000) : f_X8_isLong (iI c) (iI y) = lng c y := by
  unfold f_X8_isLong lng
  rcases hc with rfl | rfl | rfl
  · rfl
  · rw [if_pos (show iI 1 = 1 from rfl), if_pos (show (1 : Int) = 1 from rfl), show (4 : Int32) = iI 4 from rfl, iI_rem (by omega) (by omega) (by omega) (by omega)]
    by_cases e3 : y % 4 = 0
    · rw [if_pos (by rw [e3]; rfl), decide_eq_true e3]
    · rw [if_neg (by rw [show (0 : Int32) = iI 0 from rfl, iI_eq (by omega) (by omega) (by omega) (by omega)]; exact e3), decide_eq_false e3]
  · rw [if_neg (show ¬ iI 2 = 1 by decide), if_pos (show iI 2 = 2 from rfl), if_neg (show ¬ (2 : Int) = 1 by decide), if_pos (show (2 : Int) = 2 from rfl), show (7 : Int32) = iI 7 from rfl, show (1 : Int32) = iI 1 from rfl, show (19 : Int32) = iI 19 from rfl, iI_mul, iI_add, iI_rem (by omega) (by omega) (by omega) (by omega)]
    by_cases e3 : (7 * y + 1) % 19 < 7
    · rw [if_neg (by rw [iI_le (by omega) (by omega) (by omega) (by omega)]; omega), decide_eq_true e3]
    · rw [if_pos (by rw [iI_le (by omega) (by omega) (by omega) (by omega)]; omega), decide_eq_false e3]
theorem yearDays_eq {c y : Int} (hc : c = 0 ∨ c = 1 ∨ c = 2) (hy : 0 ≤ y) (hy2 : y ≤ 3000) : f_X8_yearDays (iI c) (iI y) = iI (ydy c (lng c y)) := by
  unfold f_X8_yearDays
  rw [isLong_eq hc hy hy2]
  rcases hc with rfl | rfl | rfl
  · rfl
  · rw [if_neg (show ¬ iI 1 = 0 by decide), if_pos (show iI 1 = 1 from rfl)]
    cases lng 1 y <;> rfl
  · rw [if_neg (show ¬ iI 2 = 0 by decide), if_neg (show ¬ iI 2 = 1 by decide)]
    cases lng 2 y <;> rfl
theorem monthDays_eq {σ : St2 × (Nat → Int64)} (h10 : ∀ n, n < 12 → σ.1 10 n = iI (mtab n)) {c y : Int} (hc : c = 0 ∨ c = 1 ∨ c = 2) (hy : 0 ≤ y) (hy2 : y ≤ 3000) {m : Nat} (hm : 1 ≤ m ∧ m ≤ 13) : f_X8_monthDays σ (iI c) (iI y) (iI m) = some (iI (ml c (lng c y) m)) := by
  have a1 : ¬ iI (m : Int) < 1 := by rw [show (1 : Int32) = iI 1 from rfl, iI_lt (by omega) (by omega) (by omega) (by omega)]; omega
  have a2 : iI (m : Int) ≤ 13 := by rw [show (13 : Int32) = iI 13 from rfl, iI_le (by omega) (by omega) (by omega) (by omega)]; omega
  have a3 : iI (m : Int) = 13 ↔ m = 13 := by rw [show (13 : Int32) = iI 13 from rfl, iI_eq (by omega) (by omega) (by omega) (by omega)]; omega
  have a5 : iI (m : Int) = 2 ↔ m = 2 := by rw [show (2 : Int32) = iI 2 from rfl, iI_eq (by omega) (by omega) (by omega) (by omega)]; omega
  unfold f_X8_monthDays
  rw [if_neg a1, if_pos a2, isLong_eq hc hy hy2]
  rcases hc with rfl | rfl | rfl
  · rw [if_pos (show iI 0 = 0 from rfl)]
    unfold ml
    rw [if_pos (show (0 : Int) = 0 from rfl)]
    by_cases e : m = 13
    · rw [if_pos (a3.mpr e), if_pos e]; rfl
    · rw [if_neg (fun h => e (a3.mp h)), if_neg e]; rfl
  · rw [if_neg (show ¬ iI 1 = 0 by decide), if_pos (show iI 1 = 1 from rfl)]
    unfold ml
    rw [if_neg (show ¬ (1 : Int) = 0 by decide), if_pos (show (1 : Int) = 1 from rfl)]
    by_cases e : m = 13
    · rw [if_pos (a3.mpr e), if_pos e]; rfl
    · rw [if_neg (fun h => e (a3.mp h)), if_neg e]
      have ix : ¬ (iI (m : Int) - 1 < 0 ∨ 12 ≤ Int32.toNatClampNeg (iI (m : Int) - 1)) := by
        rw [show (1 : Int32) = iI 1 from rfl, iI_sub]
        exact ix_no (n := 12) (by omega) (by omega) (by omega)
      have cl : Int32.toNatClampNeg (iI (m : Int) - 1) = m - 1 := by
        rw [show (1 : Int32) = iI 1 from rfl, iI_sub, iI_clamp (by omega) (by omega)]
        omega
      by_cases e2 : m = 2
      · rw [if_pos (a5.mpr e2), if_pos e2, if_neg ix, cl, e2, h10 (2 - 1) (by omega)]
        cases lng 1 y <;> rfl
      · rw [if_neg (fun h => e2 (a5.mp h)), if_neg e2, if_neg ix, cl, h10 (m - 1) (by omega)]; rfl
  · rw [if_neg (show ¬ iI 2 = 0 by decide), if_neg (show ¬ iI 2 = 1 by decide)]
    unfold ml
    rw [if_neg (show ¬ (2 : Int) = 0 by decide), if_neg (show ¬ (2 : Int) = 1 by decide)]
    by_cases e : m = 13
    · rw [if_pos (a3.mpr e), if_pos e]
      cases lng 2 y <;> rfl
    · rw [if_neg (fun h => e (a3.mp h)), if_neg e, show (2 : Int32) = iI 2 from rfl, iI_rem (by omega) (by omega) (by omega) (by omega)]
      by_cases e2 : m % 2 = 1
      · rw [if_pos (by rw [show (1 : Int32) = iI 1 from rfl, iI_eq (by omega) (by omega) (by omega) (by omega)]; omega), if_pos e2]; rfl
      · rw [if_neg (by rw [show (1 : Int32) = iI 1 from rfl, iI_eq (by omega) (by omega) (by omega) (by omega)]; omega), if_neg e2]; rfl
