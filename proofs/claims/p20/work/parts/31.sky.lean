/-! WAVES, TIMES, KINDS: both sides -/
def wl (n : Nat) : Int := ([0, 174, 342, 500, 643, 766, 866, 940, 985, 1000] : List Int).getD n 0
def hw (q : Int) : Int := if 9 ≤ q / 1000 then 1000 else wl (q / 1000).toNat + (wl ((q / 1000).toNat + 1) - wl (q / 1000).toNat) * (q % 1000) / 1000
def hv (p : Int) : Int := if p ≤ 9000 then hw p else hw (18000 - p)
def wv (p : Int) : Int := if p ≤ 18000 then hv p else -(hv (p - 18000))
theorem wl_sF : ∀ n, n < 10 → sF 0 n = iI (wl n) := by decide +kernel
theorem wl_rng : ∀ n, n < 10 → 0 ≤ wl n ∧ wl n ≤ 1000 := by decide +kernel
theorem wl_up : ∀ n, n < 9 → 0 ≤ wl (n + 1) - wl n ∧ wl (n + 1) - wl n ≤ 174 := by decide +kernel
theorem hw_core {q r d : Int} (hr : 0 ≤ r ∧ r < 9) (hd : 0 ≤ d ∧ d < 1000) : 0 ≤ (wl (r.toNat + 1) - wl r.toNat) * d ∧ (wl (r.toNat + 1) - wl r.toNat) * d < 174000 := by
  have h := wl_up r.toNat (by omega)
  generalize wl (r.toNat + 1) - wl r.toNat = x at h ⊢
  exact ⟨Int.mul_nonneg h.1 hd.1, by
    have := Int.mul_le_mul h.2 (show d ≤ 999 by omega) hd.1 (by omega)
    omega⟩
theorem hw_rng {q : Int} (h : 0 ≤ q ∧ q ≤ 9000) : 0 ≤ hw q ∧ hw q ≤ 1174 := by
  unfold hw
  split
  · omega
  · have h2 := hw_core (q := q) (r := q / 1000) (d := q % 1000) (by omega) (by omega)
    have h3 := wl_rng (q / 1000).toNat (by omega)
    omega
theorem wv_rng {p : Int} (h : 0 ≤ p ∧ p < 36000) : -1174 ≤ wv p ∧ wv p ≤ 1174 := by
  unfold wv hv
  split
  · split
    · have := hw_rng (q := p) (by omega); omega
    · have := hw_rng (q := 18000 - p) (by omega); omega
  · split
    · have := hw_rng (q := p - 18000) (by omega); omega
    · have := hw_rng (q := 18000 - (p - 18000)) (by omega); omega
theorem halfWave16_eq {q : Int} (h : 0 ≤ q ∧ q ≤ 9000) : f_X5_halfWave_16 (iI q) = some (iI (hw q)) := by
  unfold f_X5_halfWave_16
  rw [show (1000 : Int32) = iI 1000 from rfl, show (10 - 1 : Int32) = iI 9 from rfl, show (1 : Int32) = iI 1 from rfl, iI_div (by omega) (by omega) (by omega) (by omega), iI_add]
  rw [if_neg (show ¬ iI (q / 1000) < 0 by rw [iI_lit 0, iI_lt (by omega) (by omega) (by omega) (by omega)]; omega)]
  by_cases h9 : q / 1000 < 9
  · rw [if_pos (by rw [iI_lt (by omega) (by omega) (by omega) (by omega)]; exact h9)]
    rw [if_neg (ix_no (n := 10) (by omega) (by omega) (by omega)), if_neg (ix_no (n := 10) (by omega) (by omega) (by omega)), if_neg (ix_no (n := 10) (by omega) (by omega) (by omega))]
    have e1 : Int32.toNatClampNeg (iI (q / 1000)) = (q / 1000).toNat := iI_clamp (by omega) (by omega)
    have e2 : Int32.toNatClampNeg (iI (q / 1000 + 1)) = (q / 1000).toNat + 1 := by rw [iI_clamp (by omega) (by omega)]; omega
    rw [e1, e2, wl_sF _ (by omega), wl_sF _ (by omega), iI_mul, iI_sub, iI_sub, em_eq, iI_mul]
    have h2 := hw_core (q := q) (r := q / 1000) (d := q % 1000) (by omega) (by omega)
    rw [iI_div (by omega) (by omega) (by omega) (by omega), iI_add]
    unfold hw
    rw [if_neg (by omega)]
  · rw [if_neg (by rw [iI_lt (by omega) (by omega) (by omega) (by omega)]; exact h9)]
    rw [if_neg (ix_no (n := 10) (by omega) (by omega) (by omega))]
    unfold hw
    rw [if_pos (by omega)]
    rfl
theorem halfWave_eq {p : Int} (h : 0 ≤ p ∧ p ≤ 18000) : f_X5_halfWave (iI p) = some (iI (hv p)) := by
  unfold f_X5_halfWave hv
  rw [show (9000 : Int32) = iI 9000 from rfl, show (18000 : Int32) = iI 18000 from rfl, iI_sub]
  by_cases h9 : p ≤ 9000
  · rw [if_pos (by rw [iI_le (by omega) (by omega) (by omega) (by omega)]; exact h9), if_pos h9, halfWave16_eq (by omega)]
  · rw [if_neg (by rw [iI_le (by omega) (by omega) (by omega) (by omega)]; exact h9), if_neg h9, halfWave16_eq (by omega)]
theorem waveOf_eq {p : Int} (h : 0 ≤ p ∧ p < 36000) : f_X5_waveOf (iI p) = some (iI (wv p)) := by
  unfold f_X5_waveOf wv
  rw [show (18000 : Int32) = iI 18000 from rfl, iI_sub]
  by_cases h9 : p ≤ 18000
  · rw [if_pos (by rw [iI_le (by omega) (by omega) (by omega) (by omega)]; exact h9), if_pos h9, halfWave_eq (by omega)]
    rfl
  · rw [if_neg (by rw [iI_le (by omega) (by omega) (by omega) (by omega)]; exact h9), if_neg h9, halfWave_eq (by omega)]
    show some (-iI (hv (p - 18000))) = _
    rw [iI_neg]
/-- floorDiv by a thousand -/
theorem floorDiv_eq {a b : Int} (h1 : -2147483648 < a) (h2 : a < 2147483648) (hb : 0 < b) (hb2 : b < 2147483648) : f_J9_floorDiv_7cf53 (iI a) (iI b) = some (iI (a / b)) := by
  have hx : (0 ≤ iI a ^^^ iI b) ↔ 0 ≤ a := by
    have e : ∀ x y : Int32, (0 ≤ x ^^^ y) ↔ ((x < 0) ↔ (y < 0)) := by
      intro x y
      have ex : ∀ z : Int32, z < 0 ↔ z.toBitVec.msb = true := by
        intro z
        rw [Int32.lt_iff_toInt_lt, BitVec.msb_eq_toInt]
        show z.toInt < 0 ↔ decide (z.toBitVec.toInt < 0) = true
        rw [decide_eq_true_iff]
        exact Iff.rfl
      have el : ∀ z : Int32, 0 ≤ z ↔ ¬ z < 0 := by
        intro z
        rw [Int32.le_iff_toInt_le, Int32.lt_iff_toInt_lt]
        omega
      rw [el, ex, ex, ex]
      show ¬ (x.toBitVec ^^^ y.toBitVec).msb = true ↔ _
      rw [BitVec.msb_xor]
      cases x.toBitVec.msb <;> cases y.toBitVec.msb <;> simp
    rw [e, iI_lit 0, iI_lt (by omega) (by omega) (by omega) (by omega), iI_lt (by omega) (by omega) (by omega) (by omega)]
    omega
  unfold f_J9_floorDiv_7cf53
  rw [if_neg (by rw [iI_lit 0, iI_eq (by omega) (by omega) (by omega) (by omega)]; omega)]
  by_cases ha : 0 ≤ a
  · rw [if_pos (hx.mpr ha), iI_div ha h2 hb hb2]
  · rw [if_neg (fun z => ha (hx.mp z)), iI_tdiv (by omega) h2 hb hb2, iI_mul, iI_lit 1, iI_sub]
    have hd := Int.tdiv_eq_ediv (a := a) (b := b)
    have hs : b.sign = 1 := Int.sign_eq_one_of_pos hb
    have hab : b * (a / b) + a % b = a := Int.mul_ediv_add_emod a b
    have hm0 := Int.emod_nonneg a (show b ≠ 0 by omega)
    have hml := Int.emod_lt_of_pos a hb
    by_cases hdv : b ∣ a
    · rw [if_pos (Or.inr hdv)] at hd
      have e0 : a.tdiv b = a / b := by omega
      have e1 : a / b * b = a := Int.ediv_mul_cancel hdv
      rw [e0, e1, if_pos rfl]
    · rw [if_neg (by intro z; rcases z with z | z; exact ha z; exact hdv z), hs] at hd
      have hm : a % b ≠ 0 := fun z => hdv (Int.dvd_of_emod_eq_zero z)
      have e1 : a.tdiv b * b = a - a % b + b := by
        rw [hd, Int.add_mul, Int.one_mul, Int.mul_comm]
        omega
      rw [e1, if_neg]
      · rw [hd]
        show some (iI (a / b + 1 - 1)) = some (iI (a / b))
        rw [show a / b + 1 - 1 = a / b by omega]
      · rw [iI_eq (by omega) (by omega) (by omega) (by omega)]
        omega
