/-! NUMBERS: an int as an Int -/
def iI (z : Int) : Int32 := Int32.ofInt z
def lI (z : Int) : Int64 := Int64.ofInt z
theorem iI_lit (n : Nat) : (OfNat.ofNat n : Int32) = iI (n : Int) := by
  show Int32.ofNat n = Int32.ofInt n
  exact Int32.ofInt_eq_ofNat.symm
theorem lI_lit (n : Nat) : (OfNat.ofNat n : Int64) = lI (n : Int) := by
  show Int64.ofNat n = Int64.ofInt n
  exact Int64.ofInt_eq_ofNat.symm
theorem iI_add (a b : Int) : iI a + iI b = iI (a + b) := (Int32.ofInt_add a b).symm
theorem iI_sub (a b : Int) : iI a - iI b = iI (a - b) := (Int32.ofInt_sub a b).symm
theorem iI_mul (a b : Int) : iI a * iI b = iI (a * b) := (Int32.ofInt_mul a b).symm
theorem iI_neg (a : Int) : -iI a = iI (-a) := (Int32.ofInt_neg a).symm
theorem lI_add (a b : Int) : lI a + lI b = lI (a + b) := (Int64.ofInt_add a b).symm
theorem lI_sub (a b : Int) : lI a - lI b = lI (a - b) := (Int64.ofInt_sub a b).symm
theorem lI_mul (a b : Int) : lI a * lI b = lI (a * b) := (Int64.ofInt_mul a b).symm
theorem iI_of (x : Int32) : x = iI x.toInt := (Int32.ofInt_toInt x).symm
theorem iI_rng (x : Int32) : -2147483648 ≤ x.toInt ∧ x.toInt < 2147483648 := ⟨by have := x.minValue_le_toInt; rw [Int32.toInt_minValue] at this; omega, by have := x.toInt_lt; omega⟩
theorem iI_toInt {a : Int} (h1 : -2147483648 ≤ a) (h2 : a < 2147483648) : (iI a).toInt = a := Int32.toInt_ofInt_of_le (by omega) (by omega)
theorem lI_toInt {a : Int} (h1 : -9223372036854775808 ≤ a) (h2 : a < 9223372036854775808) : (lI a).toInt = a := Int64.toInt_ofInt_of_le (by omega) (by omega)
theorem iI_lt {a b : Int} (h1 : -2147483648 ≤ a) (h2 : a < 2147483648) (h3 : -2147483648 ≤ b) (h4 : b < 2147483648) : iI a < iI b ↔ a < b := by rw [Int32.lt_iff_toInt_lt, iI_toInt h1 h2, iI_toInt h3 h4]
theorem iI_le {a b : Int} (h1 : -2147483648 ≤ a) (h2 : a < 2147483648) (h3 : -2147483648 ≤ b) (h4 : b < 2147483648) : iI a ≤ iI b ↔ a ≤ b := by rw [Int32.le_iff_toInt_le, iI_toInt h1 h2, iI_toInt h3 h4]
theorem iI_eq {a b : Int} (h1 : -2147483648 ≤ a) (h2 : a < 2147483648) (h3 : -2147483648 ≤ b) (h4 : b < 2147483648) : iI a = iI b ↔ a = b := by rw [← Int32.toInt_inj, iI_toInt h1 h2, iI_toInt h3 h4]
theorem lI_lt {a b : Int} (h1 : -9223372036854775808 ≤ a) (h2 : a < 9223372036854775808) (h3 : -9223372036854775808 ≤ b) (h4 : b < 9223372036854775808) : lI a < lI b ↔ a < b := by rw [Int64.lt_iff_toInt_lt, lI_toInt h1 h2, lI_toInt h3 h4]
theorem lI_eq {a b : Int} (h1 : -9223372036854775808 ≤ a) (h2 : a < 9223372036854775808) (h3 : -9223372036854775808 ≤ b) (h4 : b < 9223372036854775808) : lI a = lI b ↔ a = b := by rw [← Int64.toInt_inj, lI_toInt h1 h2, lI_toInt h3 h4]
theorem iI_div {a b : Int} (h1 : 0 ≤ a) (h2 : a < 2147483648) (h3 : 0 < b) (h4 : b < 2147483648) : iI a / iI b = iI (a / b) := by
  rw [← Int.tdiv_eq_ediv_of_nonneg h1]
  exact (Int32.ofInt_tdiv (by rw [Int32.toInt_minValue]; omega) (by rw [Int32.toInt_maxValue]; omega) (by rw [Int32.toInt_minValue]; omega) (by rw [Int32.toInt_maxValue]; omega)).symm
theorem lI_div {a b : Int} (h1 : 0 ≤ a) (h2 : a < 9223372036854775808) (h3 : 0 < b) (h4 : b < 9223372036854775808) : lI a / lI b = lI (a / b) := by
  rw [← Int.tdiv_eq_ediv_of_nonneg h1]
  exact (Int64.ofInt_tdiv (by rw [Int64.toInt_minValue]; omega) (by rw [Int64.toInt_maxValue]; omega) (by rw [Int64.toInt_minValue]; omega) (by rw [Int64.toInt_maxValue]; omega)).symm
theorem iI_tdiv {a b : Int} (h1 : -2147483648 ≤ a) (h2 : a < 2147483648) (h3 : 0 < b) (h4 : b < 2147483648) : iI a / iI b = iI (a.tdiv b) := (Int32.ofInt_tdiv (by rw [Int32.toInt_minValue]; omega) (by rw [Int32.toInt_maxValue]; omega) (by rw [Int32.toInt_minValue]; omega) (by rw [Int32.toInt_maxValue]; omega)).symm
theorem lI_tdiv {a b : Int} (h1 : -9223372036854775808 ≤ a) (h2 : a < 9223372036854775808) (h3 : 0 < b) (h4 : b < 9223372036854775808) : lI a / lI b = lI (a.tdiv b) := (Int64.ofInt_tdiv (by rw [Int64.toInt_minValue]; omega) (by rw [Int64.toInt_maxValue]; omega) (by rw [Int64.toInt_minValue]; omega) (by rw [Int64.toInt_maxValue]; omega)).symm
theorem em_eq (a b : Int) : a - a / b * b = a % b := by rw [Int.emod_def, Int.mul_comm]
theorem iI_rem {a b : Int} (h1 : 0 ≤ a) (h2 : a < 2147483648) (h3 : 0 < b) (h4 : b < 2147483648) : iI a - iI a / iI b * iI b = iI (a % b) := by
  rw [iI_div h1 h2 h3 h4, iI_mul, iI_sub, em_eq]
theorem lI_rem {a b : Int} (h1 : 0 ≤ a) (h2 : a < 9223372036854775808) (h3 : 0 < b) (h4 : b < 9223372036854775808) : lI a - lI a / lI b * lI b = lI (a % b) := by
  rw [lI_div h1 h2 h3 h4, lI_mul, lI_sub, em_eq]
theorem iI_clamp {a : Int} (h1 : 0 ≤ a) (h2 : a < 2147483648) : (iI a).toNatClampNeg = a.toNat := Int32.toNatClampNeg_ofInt_of_le (by omega) (by omega)
theorem iI_l {a : Int} (h1 : -2147483648 ≤ a) (h2 : a < 2147483648) : (iI a).toInt64 = lI a := Int32.toInt64_ofInt (by rw [Int32.toInt_minValue]; omega) (by rw [Int32.toInt_maxValue]; omega)
theorem lI_i (a : Int) : (lI a).toInt32 = iI a := Int64.toInt32_ofInt
theorem nI_iI (n : Nat) : nI n = iI (n : Int) := Int32.ofInt_eq_ofNat.symm
theorem bI_0 {b : Bool} : (bI b = 0) = (b = false) := by cases b <;> simp [bI]
/-- an index within: as the walks ask it -/
theorem ix_no {a : Int} {n : Nat} (h1 : 0 ≤ a) (h2 : a < n) (h3 : n < 2147483648) : ¬ (iI a < 0 ∨ n ≤ Int32.toNatClampNeg (iI a)) := by
  rw [iI_clamp h1 (by omega), iI_lit 0, iI_lt (by omega) (by omega) (by omega) (by omega)]
  omega
/-! THE TABLES -/
def pA (a k : Int) : Int := (19291 * k + a) % 36000
def pF (f k : Int) : Int := (1953353 * k / 100 + f) % 36000
def pB (b k : Int) : Int := (1455 * k + b) % 36000
theorem pA_rng (a k : Int) : 0 ≤ pA a k ∧ pA a k < 36000 := by unfold pA; omega
theorem pB_rng (a k : Int) : 0 ≤ pB a k ∧ pB a k < 36000 := by unfold pB; omega
theorem pF_rng (a k : Int) : 0 ≤ pF a k ∧ pF a k < 36000 := by unfold pF; omega
theorem moonPlace_eq {σ : St2} {a k : Int} (h : σ 0 0 = iI a) (ha : 0 ≤ a ∧ a < 36000) (hk : 0 ≤ k ∧ k ≤ 12000) : f_X5_moonPlace σ (iI k) = iI (pA a k) := by
  unfold f_X5_moonPlace pA
  rw [h, iI_lit 19291, iI_lit 36000, iI_mul, iI_add]
  exact iI_rem (by omega) (by omega) (by omega) (by omega)
theorem sunPlace_eq {σ : St2} {a k : Int} (h : σ 0 1 = iI a) (ha : 0 ≤ a ∧ a < 36000) (hk : 0 ≤ k ∧ k ≤ 12000) : f_X5_sunPlace σ (iI k) = iI (pB a k) := by
  unfold f_X5_sunPlace pB
  rw [h, iI_lit 1455, iI_lit 36000, iI_mul, iI_add]
  exact iI_rem (by omega) (by omega) (by omega) (by omega)
theorem nodePlace_eq {σ : St2} {a k : Int} (h : σ 0 2 = iI a) (ha : 0 ≤ a ∧ a < 36000) (hk : 0 ≤ k ∧ k ≤ 12000) : f_X5_nodePlace σ (iI k) = iI (pF a k) := by
  unfold f_X5_nodePlace pF
  rw [h, iI_l (by omega) (by omega), iI_l (by omega) (by omega), lI_lit 1953353, lI_lit 100, lI_lit 36000, lI_mul, lI_div (by omega) (by omega) (by omega) (by omega), lI_add, lI_rem (by omega) (by omega) (by omega) (by omega), lI_i]
  rfl
