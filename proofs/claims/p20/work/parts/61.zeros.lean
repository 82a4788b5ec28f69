/-! numberOfTrailingZeros, numberOfLeadingZeros -/
theorem fstB_at {P : Nat → Bool} {t : Nat} (h : P t = true) (hl : ∀ j, j < t → P j = false) : ∀ n, t < n → fstB P n = (t : Int)
  | 0, hn => absurd hn (Nat.not_lt_zero _)
  | n + 1, hn => by
    have h0 : ∀ m, m ≤ t → cnt P m = 0 := by
      intro m
      induction m with
      | zero => intro _; rfl
      | succ m IH =>
        intro hm
        rw [cnt, IH (by omega), hl m (by omega)]
        rfl
    unfold fstB
    by_cases c : n = t
    · rw [c, if_pos (h0 t (by omega)), if_pos h]
    · have hp : ∀ m, t < m → cnt P m ≠ 0 := by
        intro m
        induction m with
        | zero => intro g; omega
        | succ m IH =>
          intro g
          rw [cnt]
          by_cases c2 : m = t
          · rw [c2, if_pos h]; omega
          · have := IH (by omega)
            omega
      rw [if_neg (hp n (by omega)), fstB_at h hl n (by omega)]
theorem lstB_at {P : Nat → Bool} {t : Nat} (h : P t = true) : ∀ n, t < n → (∀ j, t < j → j < n → P j = false) → lstB P n = (t : Int)
  | 0, hn, _ => absurd hn (Nat.not_lt_zero _)
  | n + 1, hn, hl => by
    unfold lstB
    by_cases c : n = t
    · rw [c, if_pos h]
    · rw [hl n (by omega) (by omega), if_neg (by decide), lstB_at h n (by omega) (fun j a b => hl j a (by omega))]
theorem fst_ex (P : Nat → Bool) : ∀ n, cnt P n ≠ 0 → ∃ t, t < n ∧ P t = true ∧ ∀ j, j < t → P j = false
  | 0, h => absurd rfl h
  | n + 1, h => by
    by_cases c : cnt P n = 0
    · have hz : ∀ m, cnt P m = 0 → ∀ j, j < m → P j = false := by
        intro m
        induction m with
        | zero => intro _ j g; omega
        | succ m IH =>
          intro g j hj
          rw [cnt] at g
          by_cases c2 : j = m
          · rw [c2]
            by_cases c3 : P m = true
            · rw [if_pos c3] at g; omega
            · exact Bool.eq_false_iff.mpr c3
          · exact IH (by omega) j (by omega)
      refine ⟨n, by omega, ?_, hz n c⟩
      rw [cnt, c] at h
      by_cases c3 : P n = true
      · exact c3
      · rw [if_neg c3] at h; omega
    · obtain ⟨t, a, b, d⟩ := fst_ex P n c
      exact ⟨t, by omega, b, d⟩
theorem lst_ex (P : Nat → Bool) : ∀ n, cnt P n ≠ 0 → ∃ t, t < n ∧ P t = true ∧ ∀ j, t < j → j < n → P j = false
  | 0, h => absurd rfl h
  | n + 1, h => by
    by_cases c : P n = true
    · exact ⟨n, by omega, c, fun j a b => by omega⟩
    · rw [cnt, if_neg c] at h
      obtain ⟨t, a, b, d⟩ := lst_ex P n (by omega)
      refine ⟨t, by omega, b, fun j e f => ?_⟩
      by_cases c2 : j = n
      · rw [c2]; exact Bool.eq_false_iff.mpr c
      · exact d j e (by omega)
def ntzF (q : Int32) : Int32 := if 0 < q then if q ≤ 65536 then f_J6_numberOfTrailingZeros_0f7a4_34 q 1 else lt ((q.toUInt32 >>> ((16 : Int32).toUInt32 &&& Int32.toUInt32 31)).toInt32 : Int32) fun z_3 => f_J6_numberOfTrailingZeros_0f7a4_34 z_3 (1 + 16) else q &&& 32
theorem ntzF_all : ∀ t, t < 32 → ntzF (iI ((2 ^ t - 1 : Nat) : Int)) = iI (t : Nat) := by decide +kernel
theorem low_mask {Y t : Nat} (hY : Y < 2 ^ 32) (ht : t < 32) (h : Y.testBit t = true) (hl : ∀ j, j < t → Y.testBit j = false) : (Y ^^^ (2 ^ 32 - 1)) &&& (Y - 1) = 2 ^ t - 1 := by
  have hY2 : Y = 2 ^ (t + 1) * (Y / 2 ^ (t + 1)) + 2 ^ t := by
    apply Nat.eq_of_testBit_eq
    intro j
    rw [Nat.testBit_two_pow_mul_add _ (Nat.pow_lt_pow_right (by omega) (by omega))]
    by_cases c : j < t + 1
    · rw [if_pos c, Nat.testBit_two_pow]
      by_cases c2 : t = j
      · rw [← c2, h]; exact (decide_eq_true rfl).symm
      · rw [hl j (by omega), decide_eq_false c2]
    · rw [if_neg c, Nat.testBit_div_two_pow, show j - (t + 1) + (t + 1) = j by omega]
  have hp : 0 < 2 ^ t := Nat.two_pow_pos t
  have hY3 : Y - 1 = 2 ^ (t + 1) * (Y / 2 ^ (t + 1)) + (2 ^ t - 1) := by
    generalize 2 ^ (t + 1) * (Y / 2 ^ (t + 1)) = w at hY2
    omega
  apply Nat.eq_of_testBit_eq
  intro j
  rw [Nat.testBit_and, Nat.testBit_xor, hY3, Nat.testBit_two_pow_mul_add _ (Nat.lt_of_lt_of_le (Nat.sub_lt hp (by omega)) (Nat.pow_le_pow_right (by omega) (by omega))), Nat.testBit_two_pow_sub_one, Nat.testBit_two_pow_sub_one]
  by_cases c : j < t + 1
  · rw [if_pos c]
    by_cases c2 : j < t
    · rw [hl j c2, decide_eq_true (show j < 32 by omega), decide_eq_true c2]; rfl
    · rw [decide_eq_false c2, Bool.and_false]
  · rw [if_neg c, Nat.testBit_div_two_pow, show j - (t + 1) + (t + 1) = j by omega, decide_eq_false (show ¬ j < t by omega)]
    by_cases c3 : j < 32
    · rw [decide_eq_true c3]
      cases Y.testBit j <;> rfl
    · rw [Nat.testBit_lt_two_pow (Nat.lt_of_lt_of_le hY (Nat.pow_le_pow_right (by omega) (by omega))), decide_eq_false c3]; rfl
theorem ntz32 {y : Int32} {t : Nat} (ht : t < 32) (h : y.toBitVec.getLsbD t = true) (hl : ∀ j, j < t → y.toBitVec.getLsbD j = false) : f_J6_numberOfTrailingZeros_0f7a4 y = iI (t : Nat) := by
  have hY := y.toBitVec.isLt
  have hm := low_mask (Y := y.toBitVec.toNat) hY ht h hl
  have hp : 0 < 2 ^ t := Nat.two_pow_pos t
  have hp2 : 2 ^ t ≤ 2 ^ 31 := Nat.pow_le_pow_right (by omega) (by omega)
  have hge : 2 ^ t ≤ y.toBitVec.toNat := Nat.ge_two_pow_of_testBit h
  have e : (y ^^^ (-1)) &&& (y - 1) = iI ((2 ^ t - 1 : Nat) : Int) := by
    apply Int32.toBitVec_inj.mp
    apply BitVec.eq_of_toNat_eq
    rw [iI_nat (by omega), ← hm, Int32.toBitVec_and, BitVec.toNat_and, Int32.toBitVec_xor, BitVec.toNat_xor, Int32.toBitVec_sub, BitVec.toNat_sub]
    show (y.toBitVec.toNat ^^^ (2 ^ 32 - 1)) &&& ((2 ^ 32 - 1 + y.toBitVec.toNat) % 2 ^ 32) = _
    rw [show (2 ^ 32 - 1 + y.toBitVec.toNat) % 2 ^ 32 = y.toBitVec.toNat - 1 by omega]
  show ntzF ((y ^^^ (-1)) &&& (y - 1)) = _
  rw [e]
  exact ntzF_all t ht
theorem lo32 (x : Int64) (j : Nat) (hj : j < 32) : x.toInt32.toBitVec.getLsbD j = x.toBitVec.getLsbD j := by
  rw [Int64.toBitVec_toInt32, BitVec.signExtend_eq_setWidth_of_le _ (by omega), BitVec.getLsbD_setWidth, decide_eq_true hj, Bool.true_and]
def hiW (x : Int64) : Int32 := ((x.toUInt64 >>> ((32 : Int32).toInt64.toUInt64 &&& Int64.toUInt64 63)).toInt64).toInt32
theorem hi32 (x : Int64) (j : Nat) (hj : j < 32) : (hiW x).toBitVec.getLsbD j = x.toBitVec.getLsbD (32 + j) := by
  unfold hiW
  rw [lo32 _ j hj, nt_bit, nt_shr, show ((32 : Int32).toInt64.toUInt64 &&& Int64.toUInt64 63).toNat % 64 = 32 from rfl, Nat.testBit_shiftRight, nt_bit]
theorem z32 {y : Int32} (h : ∀ j, j < 32 → y.toBitVec.getLsbD j = false) : y = 0 := by
  apply Int32.toBitVec_inj.mp
  apply BitVec.eq_of_getLsbD_eq
  intro j hj
  rw [h j hj]
  exact (show ((0 : Int32).toBitVec).getLsbD j = false from BitVec.getLsbD_zero).symm
theorem nz32 {y : Int32} {j : Nat} (h : y.toBitVec.getLsbD j = true) : y ≠ 0 := by
  rintro rfl
  rw [show ((0 : Int32).toBitVec).getLsbD j = false from BitVec.getLsbD_zero] at h
  exact absurd h (by decide)
theorem ntz64 {x : Int64} {t : Nat} (ht : t < 64) (h : x.toBitVec.getLsbD t = true) (hl : ∀ j, j < t → x.toBitVec.getLsbD j = false) : f_J13_numberOfTrailingZeros_95d88 x = iI (t : Nat) := by
  unfold f_J13_numberOfTrailingZeros_95d88
  by_cases c : t < 32
  · rw [if_neg (nz32 (j := t) (by rw [lo32 x t c]; exact h))]
    exact ntz32 c (by rw [lo32 x t c]; exact h) (fun j hj => by rw [lo32 x j (by omega)]; exact hl j hj)
  · rw [if_pos (z32 (fun j hj => by rw [lo32 x j hj]; exact hl j (by omega)))]
    show 32 + f_J6_numberOfTrailingZeros_0f7a4 (hiW x) = _
    rw [ntz32 (t := t - 32) (by omega) (by rw [hi32 x _ (by omega), show 32 + (t - 32) = t by omega]; exact h) (fun j hj => by rw [hi32 x j (by omega)]; exact hl _ (by omega)), show (32 : Int32) = iI 32 from rfl, iI_add]
    congr 1
    omega
