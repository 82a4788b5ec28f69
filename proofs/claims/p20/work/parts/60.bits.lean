/-! Long.bitCount -/
def nt (x : Int64) : Nat := x.toBitVec.toNat
theorem nt_lt (x : Int64) : nt x < 18446744073709551616 := x.toBitVec.isLt
theorem nt_and (x y : Int64) : nt (x &&& y) = nt x &&& nt y := BitVec.toNat_and ..
theorem nt_add (x y : Int64) : nt (x + y) = (nt x + nt y) % 18446744073709551616 := BitVec.toNat_add ..
theorem nt_sub (x y : Int64) : nt (x - y) = (18446744073709551616 - nt y + nt x) % 18446744073709551616 := BitVec.toNat_sub ..
theorem nt_shr (x : Int64) (b : UInt64) : nt ((x.toUInt64 >>> b).toInt64) = nt x >>> (b.toNat % 64) := UInt64.toNat_shiftRight x.toUInt64 b
theorem nt_bit (x : Int64) (j : Nat) : x.toBitVec.getLsbD j = (nt x).testBit j := rfl
theorem shm1 {d m A M j : Nat} (hd : d < 256) (hj : j ≤ 8) (hm : m < 2 ^ (8 - j)) : ((d + 256 * A) >>> j) &&& (m + 256 * M) = ((d >>> j) &&& m) + 256 * ((A >>> j) &&& M) := by
  have hp : 2 ^ (8 - j) ≤ 2 ^ 8 := Nat.pow_le_pow_right (by omega) (by omega)
  have hm8 : m < 2 ^ 8 := by omega
  have hdm : (d >>> j) &&& m < 2 ^ 8 := Nat.lt_of_le_of_lt Nat.and_le_right hm8
  apply Nat.eq_of_testBit_eq
  intro i
  rw [Nat.testBit_and, Nat.testBit_shiftRight, show d + 256 * A = 2 ^ 8 * A + d by omega, show m + 256 * M = 2 ^ 8 * M + m by omega, show ((d >>> j) &&& m) + 256 * ((A >>> j) &&& M) = 2 ^ 8 * ((A >>> j) &&& M) + ((d >>> j) &&& m) by omega, Nat.testBit_two_pow_mul_add A (by omega : d < 2 ^ 8), Nat.testBit_two_pow_mul_add M hm8, Nat.testBit_two_pow_mul_add _ hdm]
  by_cases c : i < 8
  · rw [if_pos c, if_pos c, Nat.testBit_and, Nat.testBit_shiftRight]
    by_cases c2 : j + i < 8
    · rw [if_pos c2]
    · rw [if_neg c2]
      have : m.testBit i = false := Nat.testBit_lt_two_pow (Nat.lt_of_lt_of_le hm (Nat.pow_le_pow_right (by omega) (by omega)))
      rw [this, Bool.and_false, Bool.and_false]
  · rw [if_neg c, if_neg c, if_neg (by omega), Nat.testBit_and, Nat.testBit_shiftRight, show j + i - 8 = j + (i - 8) by omega]
theorem shm0 {j : Nat} : ((0 : Nat) >>> j) &&& 0 = 0 := by rw [Nat.and_zero]
def D8 (b0 b1 b2 b3 b4 b5 b6 b7 : Nat) : Nat := b0 + 256 * (b1 + 256 * (b2 + 256 * (b3 + 256 * (b4 + 256 * (b5 + 256 * (b6 + 256 * (b7 + 256 * 0)))))))
theorem D8_sh {b0 b1 b2 b3 b4 b5 b6 b7 m j : Nat} (h0 : b0 < 256) (h1 : b1 < 256) (h2 : b2 < 256) (h3 : b3 < 256) (h4 : b4 < 256) (h5 : b5 < 256) (h6 : b6 < 256) (h7 : b7 < 256) (hj : j ≤ 8) (hm : m < 2 ^ (8 - j)) : (D8 b0 b1 b2 b3 b4 b5 b6 b7 >>> j) &&& D8 m m m m m m m m = D8 ((b0 >>> j) &&& m) ((b1 >>> j) &&& m) ((b2 >>> j) &&& m) ((b3 >>> j) &&& m) ((b4 >>> j) &&& m) ((b5 >>> j) &&& m) ((b6 >>> j) &&& m) ((b7 >>> j) &&& m) := by
  unfold D8
  rw [shm1 h0 hj hm, shm1 h1 hj hm, shm1 h2 hj hm, shm1 h3 hj hm, shm1 h4 hj hm, shm1 h5 hj hm, shm1 h6 hj hm, shm1 h7 hj hm, shm0]
def c1 (b : Nat) : Nat := (b >>> 1) &&& 85
def e1 (b : Nat) : Nat := b - c1 b
def g2 (b : Nat) : Nat := ((e1 b >>> 0) &&& 51) + ((e1 b >>> 2) &&& 51)
def pb (b : Nat) : Nat := cnt (fun j => b.testBit j) 8
theorem byte_facts : ∀ b, b < 256 → c1 b ≤ b ∧ g2 b % 16 ≤ 4 ∧ g2 b / 16 ≤ 4 ∧ g2 b < 256 ∧ g2 b % 16 + g2 b / 16 = pb b := by decide +kernel
theorem cnt_cg {P Q : Nat → Bool} : ∀ n, (∀ j, j < n → P j = Q j) → cnt P n = cnt Q n
  | 0, _ => rfl
  | n + 1, h => by
    rw [cnt, cnt, cnt_cg n (fun j hj => h j (by omega)), h n (by omega)]
theorem cnt_byte {d A : Nat} (hd : d < 256) : ∀ n, cnt (fun j => (d + 256 * A).testBit j) (8 + n) = pb d + cnt (fun j => A.testBit j) n
  | 0 => by
    refine (cnt_cg 8 (fun j hj => ?_)).trans (Nat.add_zero _).symm
    show (d + 256 * A).testBit j = d.testBit j
    rw [show d + 256 * A = 2 ^ 8 * A + d by omega, Nat.testBit_two_pow_mul_add A (by omega : d < 2 ^ 8), if_pos hj]
  | n + 1 => by
    rw [show 8 + (n + 1) = 8 + n + 1 from rfl, cnt, cnt, cnt_byte hd n]
    show pb d + cnt _ n + (if (d + 256 * A).testBit (8 + n) = true then 1 else 0) = _
    rw [show d + 256 * A = 2 ^ 8 * A + d by omega, Nat.testBit_two_pow_mul_add A (by omega : d < 2 ^ 8), if_neg (show ¬ 8 + n < 8 by omega), show 8 + n - 8 = n by omega]
    omega
theorem cnt_D8 {b0 b1 b2 b3 b4 b5 b6 b7 : Nat} (h0 : b0 < 256) (h1 : b1 < 256) (h2 : b2 < 256) (h3 : b3 < 256) (h4 : b4 < 256) (h5 : b5 < 256) (h6 : b6 < 256) (h7 : b7 < 256) : cnt (fun j => (D8 b0 b1 b2 b3 b4 b5 b6 b7).testBit j) 64 = pb b0 + (pb b1 + (pb b2 + (pb b3 + (pb b4 + (pb b5 + (pb b6 + pb b7)))))) := by
  unfold D8
  rw [show (64 : Nat) = 8 + 56 from rfl, cnt_byte h0, show (56 : Nat) = 8 + 48 from rfl, cnt_byte h1, show (48 : Nat) = 8 + 40 from rfl, cnt_byte h2, show (40 : Nat) = 8 + 32 from rfl, cnt_byte h3, show (32 : Nat) = 8 + 24 from rfl, cnt_byte h4, show (24 : Nat) = 8 + 16 from rfl, cnt_byte h5, show (16 : Nat) = 8 + 8 from rfl, cnt_byte h6, show (8 : Nat) = 8 + 0 from rfl, cnt_byte h7]
  rfl
theorem D8_ex (X : Nat) (h : X < 18446744073709551616) : ∃ b0 b1 b2 b3 b4 b5 b6 b7, b0 < 256 ∧ b1 < 256 ∧ b2 < 256 ∧ b3 < 256 ∧ b4 < 256 ∧ b5 < 256 ∧ b6 < 256 ∧ b7 < 256 ∧ X = D8 b0 b1 b2 b3 b4 b5 b6 b7 := by
  refine ⟨X % 256, X / 256 % 256, X / 65536 % 256, X / 16777216 % 256, X / 4294967296 % 256, X / 1099511627776 % 256, X / 281474976710656 % 256, X / 72057594037927936 % 256, by omega, by omega, by omega, by omega, by omega, by omega, by omega, by omega, ?_⟩
  unfold D8
  omega
theorem low7 (z : Int64) : z.toInt32 &&& 127 = iI ((nt z % 128 : Nat) : Int) := by
  apply Int32.toBitVec_inj.mp
  apply BitVec.eq_of_toNat_eq
  rw [Int32.toBitVec_and, BitVec.toNat_and, Int64.toBitVec_toInt32, BitVec.signExtend_eq_setWidth_of_le _ (by omega), BitVec.toNat_setWidth]
  show (nt z % 2 ^ 32) &&& (2 ^ 7 - 1) = _
  rw [Nat.and_two_pow_sub_one_eq_mod, Nat.mod_mod_of_dvd _ (by decide), iI_nat]
  have : nt z % 128 < 128 := Nat.mod_lt _ (by decide)
  omega
theorem bc1 {x : Int64} {b0 b1 b2 b3 b4 b5 b6 b7 : Nat} (h0 : b0 < 256) (h1 : b1 < 256) (h2 : b2 < 256) (h3 : b3 < 256) (h4 : b4 < 256) (h5 : b5 < 256) (h6 : b6 < 256) (h7 : b7 < 256) (hx : nt x = D8 b0 b1 b2 b3 b4 b5 b6 b7) : nt (x - (((x.toUInt64 >>> ((1 : Int32).toInt64.toUInt64 &&& Int64.toUInt64 63)).toInt64) &&& 6148914691236517205)) = D8 (e1 b0) (e1 b1) (e1 b2) (e1 b3) (e1 b4) (e1 b5) (e1 b6) (e1 b7) := by
  rw [nt_sub, nt_and, nt_shr, hx, show ((1 : Int32).toInt64.toUInt64 &&& Int64.toUInt64 63).toNat % 64 = 1 from rfl, show nt 6148914691236517205 = D8 85 85 85 85 85 85 85 85 from rfl, D8_sh h0 h1 h2 h3 h4 h5 h6 h7 (by omega) (by omega)]
  show (18446744073709551616 - D8 (c1 b0) (c1 b1) (c1 b2) (c1 b3) (c1 b4) (c1 b5) (c1 b6) (c1 b7) + D8 b0 b1 b2 b3 b4 b5 b6 b7) % 18446744073709551616 = _
  have k0 := (byte_facts b0 h0).1
  have k1 := (byte_facts b1 h1).1
  have k2 := (byte_facts b2 h2).1
  have k3 := (byte_facts b3 h3).1
  have k4 := (byte_facts b4 h4).1
  have k5 := (byte_facts b5 h5).1
  have k6 := (byte_facts b6 h6).1
  have k7 := (byte_facts b7 h7).1
  unfold D8 e1
  omega
theorem e1_lt {b : Nat} (h : b < 256) : e1 b < 256 := by
  unfold e1
  omega
theorem bc2 {x : Int64} {b0 b1 b2 b3 b4 b5 b6 b7 : Nat} (h0 : b0 < 256) (h1 : b1 < 256) (h2 : b2 < 256) (h3 : b3 < 256) (h4 : b4 < 256) (h5 : b5 < 256) (h6 : b6 < 256) (h7 : b7 < 256) (hx : nt x = D8 (e1 b0) (e1 b1) (e1 b2) (e1 b3) (e1 b4) (e1 b5) (e1 b6) (e1 b7)) : nt ((x &&& 3689348814741910323) + (((x.toUInt64 >>> ((2 : Int32).toInt64.toUInt64 &&& Int64.toUInt64 63)).toInt64) &&& 3689348814741910323)) = D8 (g2 b0) (g2 b1) (g2 b2) (g2 b3) (g2 b4) (g2 b5) (g2 b6) (g2 b7) := by
  rw [nt_add, nt_and, nt_and, nt_shr, hx, show ((2 : Int32).toInt64.toUInt64 &&& Int64.toUInt64 63).toNat % 64 = 2 from rfl, show nt 3689348814741910323 = D8 51 51 51 51 51 51 51 51 from rfl, D8_sh (e1_lt h0) (e1_lt h1) (e1_lt h2) (e1_lt h3) (e1_lt h4) (e1_lt h5) (e1_lt h6) (e1_lt h7) (j := 2) (by omega) (by omega), show D8 (e1 b0) (e1 b1) (e1 b2) (e1 b3) (e1 b4) (e1 b5) (e1 b6) (e1 b7) &&& D8 51 51 51 51 51 51 51 51 = (D8 (e1 b0) (e1 b1) (e1 b2) (e1 b3) (e1 b4) (e1 b5) (e1 b6) (e1 b7) >>> 0) &&& D8 51 51 51 51 51 51 51 51 from rfl, D8_sh (e1_lt h0) (e1_lt h1) (e1_lt h2) (e1_lt h3) (e1_lt h4) (e1_lt h5) (e1_lt h6) (e1_lt h7) (j := 0) (by omega) (by omega)]
  have k0 := (byte_facts b0 h0).2.2.2.1
  have k1 := (byte_facts b1 h1).2.2.2.1
  have k2 := (byte_facts b2 h2).2.2.2.1
  have k3 := (byte_facts b3 h3).2.2.2.1
  have k4 := (byte_facts b4 h4).2.2.2.1
  have k5 := (byte_facts b5 h5).2.2.2.1
  have k6 := (byte_facts b6 h6).2.2.2.1
  have k7 := (byte_facts b7 h7).2.2.2.1
  unfold D8
  unfold g2 at k0 k1 k2 k3 k4 k5 k6 k7 ⊢
  omega
theorem and15 (y : Nat) : (y >>> 0) &&& 15 = y % 16 := Nat.and_two_pow_sub_one_eq_mod y 4
theorem y16 {a b : Nat} (h : a < 16) : (a + 16 * b) % 16 = a := by rw [Nat.add_mul_mod_self_left, Nat.mod_eq_of_lt h]
theorem D8_id (l0 l1 l2 l3 l4 l5 l6 l7 k0 k1 k2 k3 k4 k5 k6 k7 : Nat) : D8 (l0 + 16 * k0) (l1 + 16 * k1) (l2 + 16 * k2) (l3 + 16 * k3) (l4 + 16 * k4) (l5 + 16 * k5) (l6 + 16 * k6) (l7 + 16 * k7) + (k0 + 16 * (l1 + 16 * (k1 + 16 * (l2 + 16 * (k2 + 16 * (l3 + 16 * (k3 + 16 * (l4 + 16 * (k4 + 16 * (l5 + 16 * (k5 + 16 * (l6 + 16 * (k6 + 16 * (l7 + 16 * (k7))))))))))))))) = D8 (l0 + k0 + 16 * (k0 + l1)) (l1 + k1 + 16 * (k1 + l2)) (l2 + k2 + 16 * (k2 + l3)) (l3 + k3 + 16 * (k3 + l4)) (l4 + k4 + 16 * (k4 + l5)) (l5 + k5 + 16 * (k5 + l6)) (l6 + k6 + 16 * (k6 + l7)) (l7 + k7 + 16 * k7) := by
  unfold D8
  omega
theorem D8_lt {b0 b1 b2 b3 b4 b5 b6 b7 : Nat} (h0 : b0 < 256) (h1 : b1 < 256) (h2 : b2 < 256) (h3 : b3 < 256) (h4 : b4 < 256) (h5 : b5 < 256) (h6 : b6 < 256) (h7 : b7 < 256) : D8 b0 b1 b2 b3 b4 b5 b6 b7 < 18446744073709551616 := by
  unfold D8
  omega
theorem bc3 {x : Int64} {l0 l1 l2 l3 l4 l5 l6 l7 k0 k1 k2 k3 k4 k5 k6 k7 : Nat} (h0 : l0 ≤ 4 ∧ k0 ≤ 4) (h1 : l1 ≤ 4 ∧ k1 ≤ 4) (h2 : l2 ≤ 4 ∧ k2 ≤ 4) (h3 : l3 ≤ 4 ∧ k3 ≤ 4) (h4 : l4 ≤ 4 ∧ k4 ≤ 4) (h5 : l5 ≤ 4 ∧ k5 ≤ 4) (h6 : l6 ≤ 4 ∧ k6 ≤ 4) (h7 : l7 ≤ 4 ∧ k7 ≤ 4) (hx : nt x = D8 (l0 + 16 * k0) (l1 + 16 * k1) (l2 + 16 * k2) (l3 + 16 * k3) (l4 + 16 * k4) (l5 + 16 * k5) (l6 + 16 * k6) (l7 + 16 * k7)) : nt ((x + ((x.toUInt64 >>> ((4 : Int32).toInt64.toUInt64 &&& Int64.toUInt64 63)).toInt64)) &&& 1085102592571150095) = D8 (l0 + k0) (l1 + k1) (l2 + k2) (l3 + k3) (l4 + k4) (l5 + k5) (l6 + k6) (l7 + k7) := by
  have hd : (D8 (l0 + 16 * k0) (l1 + 16 * k1) (l2 + 16 * k2) (l3 + 16 * k3) (l4 + 16 * k4) (l5 + 16 * k5) (l6 + 16 * k6) (l7 + 16 * k7)) / 2 ^ 4 = k0 + 16 * (l1 + 16 * (k1 + 16 * (l2 + 16 * (k2 + 16 * (l3 + 16 * (k3 + 16 * (l4 + 16 * (k4 + 16 * (l5 + 16 * (k5 + 16 * (l6 + 16 * (k6 + 16 * (l7 + 16 * (k7)))))))))))))) := by
    have e : (D8 (l0 + 16 * k0) (l1 + 16 * k1) (l2 + 16 * k2) (l3 + 16 * k3) (l4 + 16 * k4) (l5 + 16 * k5) (l6 + 16 * k6) (l7 + 16 * k7)) = l0 + 16 * (k0 + 16 * (l1 + 16 * (k1 + 16 * (l2 + 16 * (k2 + 16 * (l3 + 16 * (k3 + 16 * (l4 + 16 * (k4 + 16 * (l5 + 16 * (k5 + 16 * (l6 + 16 * (k6 + 16 * (l7 + 16 * (k7))))))))))))))) := by
      unfold D8
      omega
    rw [e, Nat.add_mul_div_left _ _ (by decide), Nat.div_eq_of_lt (by omega), Nat.zero_add]
  have hs : nt (x + ((x.toUInt64 >>> ((4 : Int32).toInt64.toUInt64 &&& Int64.toUInt64 63)).toInt64)) = D8 (l0 + k0 + 16 * (k0 + l1)) (l1 + k1 + 16 * (k1 + l2)) (l2 + k2 + 16 * (k2 + l3)) (l3 + k3 + 16 * (k3 + l4)) (l4 + k4 + 16 * (k4 + l5)) (l5 + k5 + 16 * (k5 + l6)) (l6 + k6 + 16 * (k6 + l7)) (l7 + k7 + 16 * k7) := by
    rw [nt_add, nt_shr, hx, show ((4 : Int32).toInt64.toUInt64 &&& Int64.toUInt64 63).toNat % 64 = 4 from rfl, Nat.shiftRight_eq_div_pow, hd, D8_id, Nat.mod_eq_of_lt (D8_lt (by omega) (by omega) (by omega) (by omega) (by omega) (by omega) (by omega) (by omega))]
  rw [nt_and, hs, show nt 1085102592571150095 = D8 15 15 15 15 15 15 15 15 from rfl]
  show (D8 (l0 + k0 + 16 * (k0 + l1)) (l1 + k1 + 16 * (k1 + l2)) (l2 + k2 + 16 * (k2 + l3)) (l3 + k3 + 16 * (k3 + l4)) (l4 + k4 + 16 * (k4 + l5)) (l5 + k5 + 16 * (k5 + l6)) (l6 + k6 + 16 * (k6 + l7)) (l7 + k7 + 16 * k7) >>> 0) &&& D8 15 15 15 15 15 15 15 15 = _
  rw [D8_sh (by omega) (by omega) (by omega) (by omega) (by omega) (by omega) (by omega) (by omega) (by omega) (by omega), and15, and15, and15, and15, and15, and15, and15, and15, y16 (by omega), y16 (by omega), y16 (by omega), y16 (by omega), y16 (by omega), y16 (by omega), y16 (by omega), y16 (by omega)]
theorem bc4 {x : Int64} {p0 p1 p2 p3 p4 p5 p6 p7 : Nat} (h0 : p0 ≤ 8) (h1 : p1 ≤ 8) (h2 : p2 ≤ 8) (h3 : p3 ≤ 8) (h4 : p4 ≤ 8) (h5 : p5 ≤ 8) (h6 : p6 ≤ 8) (h7 : p7 ≤ 8) (hx : nt x = D8 p0 p1 p2 p3 p4 p5 p6 p7) : nt (x + ((x.toUInt64 >>> ((8 : Int32).toInt64.toUInt64 &&& Int64.toUInt64 63)).toInt64)) = D8 (p0 + p1) (p1 + p2) (p2 + p3) (p3 + p4) (p4 + p5) (p5 + p6) (p6 + p7) p7 := by
  have hd : D8 p0 p1 p2 p3 p4 p5 p6 p7 / 2 ^ 8 = p1 + 256 * (p2 + 256 * (p3 + 256 * (p4 + 256 * (p5 + 256 * (p6 + 256 * (p7)))))) := by
    have e : D8 p0 p1 p2 p3 p4 p5 p6 p7 = (p0) + 256 * (p1 + 256 * (p2 + 256 * (p3 + 256 * (p4 + 256 * (p5 + 256 * (p6 + 256 * (p7))))))) := by
      unfold D8
      omega
    rw [e, Nat.add_mul_div_left _ _ (by decide), Nat.div_eq_of_lt (by omega), Nat.zero_add]
  rw [nt_add, nt_shr, hx, show ((8 : Int32).toInt64.toUInt64 &&& Int64.toUInt64 63).toNat % 64 = 8 from rfl, Nat.shiftRight_eq_div_pow, hd]
  unfold D8
  rw [Nat.mod_eq_of_lt (a := _ + _) (by omega)]
  omega
theorem bc5 {x : Int64} {p0 p1 p2 p3 p4 p5 p6 p7 : Nat} (h0 : p0 ≤ 16) (h1 : p1 ≤ 16) (h2 : p2 ≤ 16) (h3 : p3 ≤ 16) (h4 : p4 ≤ 16) (h5 : p5 ≤ 16) (h6 : p6 ≤ 16) (h7 : p7 ≤ 16) (hx : nt x = D8 p0 p1 p2 p3 p4 p5 p6 p7) : nt (x + ((x.toUInt64 >>> ((16 : Int32).toInt64.toUInt64 &&& Int64.toUInt64 63)).toInt64)) = D8 (p0 + p2) (p1 + p3) (p2 + p4) (p3 + p5) (p4 + p6) (p5 + p7) p6 p7 := by
  have hd : D8 p0 p1 p2 p3 p4 p5 p6 p7 / 2 ^ 16 = p2 + 256 * (p3 + 256 * (p4 + 256 * (p5 + 256 * (p6 + 256 * (p7))))) := by
    have e : D8 p0 p1 p2 p3 p4 p5 p6 p7 = (p0 + 256 * (p1)) + 65536 * (p2 + 256 * (p3 + 256 * (p4 + 256 * (p5 + 256 * (p6 + 256 * (p7)))))) := by
      unfold D8
      omega
    rw [e, Nat.add_mul_div_left _ _ (by decide), Nat.div_eq_of_lt (by omega), Nat.zero_add]
  rw [nt_add, nt_shr, hx, show ((16 : Int32).toInt64.toUInt64 &&& Int64.toUInt64 63).toNat % 64 = 16 from rfl, Nat.shiftRight_eq_div_pow, hd]
  unfold D8
  rw [Nat.mod_eq_of_lt (a := _ + _) (by omega)]
  omega
theorem bc6 {x : Int64} {p0 p1 p2 p3 p4 p5 p6 p7 : Nat} (h0 : p0 ≤ 32) (h1 : p1 ≤ 32) (h2 : p2 ≤ 32) (h3 : p3 ≤ 32) (h4 : p4 ≤ 32) (h5 : p5 ≤ 32) (h6 : p6 ≤ 32) (h7 : p7 ≤ 32) (hx : nt x = D8 p0 p1 p2 p3 p4 p5 p6 p7) : nt (x + ((x.toUInt64 >>> ((32 : Int32).toInt64.toUInt64 &&& Int64.toUInt64 63)).toInt64)) % 128 = (p0 + p4) % 128 := by
  have hd : D8 p0 p1 p2 p3 p4 p5 p6 p7 / 2 ^ 32 = p4 + 256 * (p5 + 256 * (p6 + 256 * (p7))) := by
    have e : D8 p0 p1 p2 p3 p4 p5 p6 p7 = (p0 + 256 * (p1 + 256 * (p2 + 256 * (p3)))) + 4294967296 * (p4 + 256 * (p5 + 256 * (p6 + 256 * (p7)))) := by
      unfold D8
      omega
    rw [e, Nat.add_mul_div_left _ _ (by decide), Nat.div_eq_of_lt (by omega), Nat.zero_add]
  rw [nt_add, nt_shr, hx, show ((32 : Int32).toInt64.toUInt64 &&& Int64.toUInt64 63).toNat % 64 = 32 from rfl, Nat.shiftRight_eq_div_pow, hd]
  unfold D8
  rw [Nat.mod_eq_of_lt (a := _ + _) (by omega)]
  omega
theorem bitCount_eq (x : Int64) : f_J13_bitCount_95d88 x = iI ((cnt (fun j => x.toBitVec.getLsbD j) 64 : Nat) : Int) := by
  obtain ⟨b0, b1, b2, b3, b4, b5, b6, b7, h0, h1, h2, h3, h4, h5, h6, h7, hx⟩ := D8_ex (nt x) (nt_lt x)
  have hc : cnt (fun j => x.toBitVec.getLsbD j) 64 = pb b0 + (pb b1 + (pb b2 + (pb b3 + (pb b4 + (pb b5 + (pb b6 + pb b7)))))) := by
    rw [← cnt_D8 h0 h1 h2 h3 h4 h5 h6 h7, ← hx]
    rfl
  obtain ⟨-, q0, r0, -, s0⟩ := byte_facts b0 h0
  obtain ⟨-, q1, r1, -, s1⟩ := byte_facts b1 h1
  obtain ⟨-, q2, r2, -, s2⟩ := byte_facts b2 h2
  obtain ⟨-, q3, r3, -, s3⟩ := byte_facts b3 h3
  obtain ⟨-, q4, r4, -, s4⟩ := byte_facts b4 h4
  obtain ⟨-, q5, r5, -, s5⟩ := byte_facts b5 h5
  obtain ⟨-, q6, r6, -, s6⟩ := byte_facts b6 h6
  obtain ⟨-, q7, r7, -, s7⟩ := byte_facts b7 h7
  have z1 := bc1 h0 h1 h2 h3 h4 h5 h6 h7 hx
  unfold f_J13_bitCount_95d88 lt
  dsimp only
  have z2 := bc2 h0 h1 h2 h3 h4 h5 h6 h7 z1
  rw [← Nat.mod_add_div (g2 b0) 16, ← Nat.mod_add_div (g2 b1) 16, ← Nat.mod_add_div (g2 b2) 16, ← Nat.mod_add_div (g2 b3) 16, ← Nat.mod_add_div (g2 b4) 16, ← Nat.mod_add_div (g2 b5) 16, ← Nat.mod_add_div (g2 b6) 16, ← Nat.mod_add_div (g2 b7) 16] at z2
  have z3 := bc3 ⟨q0, r0⟩ ⟨q1, r1⟩ ⟨q2, r2⟩ ⟨q3, r3⟩ ⟨q4, r4⟩ ⟨q5, r5⟩ ⟨q6, r6⟩ ⟨q7, r7⟩ z2
  rw [s0, s1, s2, s3, s4, s5, s6, s7] at z3
  have z4 := bc4 (by omega) (by omega) (by omega) (by omega) (by omega) (by omega) (by omega) (by omega) z3
  have z5 := bc5 (by omega) (by omega) (by omega) (by omega) (by omega) (by omega) (by omega) (by omega) z4
  have z6 := bc6 (by omega) (by omega) (by omega) (by omega) (by omega) (by omega) (by omega) (by omega) z5
  rw [low7, z6, hc]
  congr 2
  omega
