/-! numberOfLeadingZeros -/
theorem sh32 {y : Nat} (h : y < 2147483648) (b : UInt32) : ((iI (y : Int)).toUInt32 >>> b).toInt32 = iI ((y / 2 ^ (b.toNat % 32) : Nat) : Int) := by
  have hle : y / 2 ^ (b.toNat % 32) ≤ y := Nat.div_le_self _ _
  apply Int32.toBitVec_inj.mp
  apply BitVec.eq_of_toNat_eq
  rw [iI_nat (by omega)]
  show ((iI (y : Int)).toUInt32 >>> b).toNat = _
  rw [UInt32.toNat_shiftRight]
  show (iI (y : Int)).toBitVec.toNat >>> _ = _
  rw [iI_nat h, Nat.shiftRight_eq_div_pow]
theorem log2_dv {y k : Nat} (h : 2 ^ k ≤ y) : Nat.log2 y = k + Nat.log2 (y / 2 ^ k) := by
  have hp : 0 < 2 ^ k := Nat.two_pow_pos k
  have hd : 0 < y / 2 ^ k := Nat.div_pos h hp
  have hy : y ≠ 0 := by omega
  rw [Nat.log2_eq_iff hy]
  have h1 := Nat.log2_self_le (n := y / 2 ^ k) (by omega)
  have h2 := Nat.lt_log2_self (n := y / 2 ^ k)
  generalize Nat.log2 (y / 2 ^ k) = L at h1 h2
  constructor
  · rw [Nat.pow_add]
    exact Nat.le_trans (Nat.mul_le_mul_left _ h1) (Nat.mul_div_le _ _)
  · rw [Nat.add_assoc, Nat.pow_add, Nat.mul_comm]
    exact (Nat.div_lt_iff_lt_mul hp).mp h2
theorem nl61 {y : Nat} (h0 : 1 ≤ y) (h : y < 16) (w : Int) : f_J6_numberOfLeadingZeros_0f7a4_61 (iI (y : Int)) (iI w) = iI (w - (Nat.log2 y : Int)) := by
  have hf : ∀ y, y < 16 → 1 ≤ y → (y < 4 → y / 2 = Nat.log2 y) ∧ (¬ y < 4 → 2 + y / 4 / 2 = Nat.log2 y) := by decide
  have hy := hf y h h0
  unfold f_J6_numberOfLeadingZeros_0f7a4_61 lt
  dsimp only
  rw [sh32 (by omega), sh32 (by omega), show ((2 : Int32).toUInt32 &&& Int32.toUInt32 31).toNat % 32 = 2 from rfl, sh32 (by omega), show ((1 : Int32).toUInt32 &&& Int32.toUInt32 31).toNat % 32 = 1 from rfl, show (4 : Int32) = iI 4 from rfl, show (-2 : Int32) = iI (-2) from rfl, iI_add, iI_sub, iI_sub]
  by_cases c : y < 4
  · rw [if_pos (by rw [iI_lt (by omega) (by omega) (by omega) (by omega)]; omega), ← hy.1 c]
  · rw [if_neg (by rw [iI_lt (by omega) (by omega) (by omega) (by omega)]; omega), ← hy.2 c]
    congr 1
    omega
theorem nl48 {y : Nat} (h0 : 1 ≤ y) (h : y < 256) (w : Int) : f_J6_numberOfLeadingZeros_0f7a4_48 (iI (y : Int)) (iI w) = iI (w - (Nat.log2 y : Int)) := by
  unfold f_J6_numberOfLeadingZeros_0f7a4_48 lt
  dsimp only
  rw [sh32 (by omega), show ((4 : Int32).toUInt32 &&& Int32.toUInt32 31).toNat % 32 = 4 from rfl, show (16 : Int32) = iI 16 from rfl, show (-4 : Int32) = iI (-4) from rfl, iI_add]
  by_cases c : y < 16
  · rw [if_pos (by rw [iI_lt (by omega) (by omega) (by omega) (by omega)]; omega), nl61 h0 c]
  · rw [if_neg (by rw [iI_lt (by omega) (by omega) (by omega) (by omega)]; omega), nl61 (by omega) (by omega), log2_dv (y := y) (k := 4) (by omega)]
    congr 1
    omega
theorem nl33 {y : Nat} (h0 : 1 ≤ y) (h : y < 65536) (w : Int) : f_J6_numberOfLeadingZeros_0f7a4_33 (iI (y : Int)) (iI w) = iI (w - (Nat.log2 y : Int)) := by
  unfold f_J6_numberOfLeadingZeros_0f7a4_33 lt
  dsimp only
  rw [sh32 (by omega), show ((8 : Int32).toUInt32 &&& Int32.toUInt32 31).toNat % 32 = 8 from rfl, show (256 : Int32) = iI 256 from rfl, show (-8 : Int32) = iI (-8) from rfl, iI_add]
  by_cases c : y < 256
  · rw [if_pos (by rw [iI_lt (by omega) (by omega) (by omega) (by omega)]; omega), nl48 h0 c]
  · rw [if_neg (by rw [iI_lt (by omega) (by omega) (by omega) (by omega)]; omega), nl48 (by omega) (by omega), log2_dv (y := y) (k := 8) (by omega)]
    congr 1
    omega
theorem nl32 {y : Nat} (h0 : 1 ≤ y) (h : y < 2147483648) : f_J6_numberOfLeadingZeros_0f7a4 (iI (y : Int)) = iI (31 - (Nat.log2 y : Int)) := by
  unfold f_J6_numberOfLeadingZeros_0f7a4 lt
  dsimp only
  rw [if_pos (show 0 < iI (y : Int) by rw [show (0 : Int32) = iI 0 from rfl, iI_lt (by omega) (by omega) (by omega) (by omega)]; omega), sh32 (by omega), show ((16 : Int32).toUInt32 &&& Int32.toUInt32 31).toNat % 32 = 16 from rfl]
  by_cases c : y < 65536
  · rw [if_pos (show iI (y : Int) < 65536 by rw [show (65536 : Int32) = iI 65536 from rfl, iI_lt (by omega) (by omega) (by omega) (by omega)]; omega)]
    exact nl33 h0 c 31
  · rw [if_neg (show ¬ iI (y : Int) < 65536 by rw [show (65536 : Int32) = iI 65536 from rfl, iI_lt (by omega) (by omega) (by omega) (by omega)]; omega), show (31 + (-16) : Int32) = iI 15 from rfl, nl33 (by omega) (by omega), log2_dv (y := y) (k := 16) (by omega)]
    congr 1
    omega
theorem nlz32 {y : Int32} {t : Nat} (ht : t < 32) (h : y.toBitVec.getLsbD t = true) (hl : ∀ j, t < j → j < 32 → y.toBitVec.getLsbD j = false) : f_J6_numberOfLeadingZeros_0f7a4 y = iI (31 - (t : Int)) := by
  have hY := y.toBitVec.isLt
  have hge : 2 ^ t ≤ y.toBitVec.toNat := Nat.ge_two_pow_of_testBit h
  have hlt : y.toBitVec.toNat < 2 ^ (t + 1) := by
    apply Nat.lt_pow_two_of_testBit
    intro j hj
    by_cases c : j < 32
    · exact hl j (by omega) c
    · exact Nat.testBit_lt_two_pow (Nat.lt_of_lt_of_le hY (Nat.pow_le_pow_right (by omega) (by omega)))
  have hp : 0 < 2 ^ t := Nat.two_pow_pos t
  by_cases c : t = 31
  · subst c
    have e : ¬ 0 < y := by
      rw [Int32.lt_iff_toInt_lt]
      have : y.toInt = y.toBitVec.toInt := rfl
      rw [this, BitVec.toInt_eq_toNat_cond, if_neg (by omega)]
      rw [show ((0 : Int32)).toInt = 0 from rfl]
      omega
    unfold f_J6_numberOfLeadingZeros_0f7a4
    rw [if_neg e, if_neg (nz32 h)]
    rfl
  · have hp2 : 2 ^ (t + 1) ≤ 2 ^ 31 := Nat.pow_le_pow_right (by omega) (by omega)
    have e : y = iI ((y.toBitVec.toNat : Nat) : Int) := by
      apply Int32.toBitVec_inj.mp
      apply BitVec.eq_of_toNat_eq
      rw [iI_nat (by omega)]
    rw [e, nl32 (by omega) (by omega), (Nat.log2_eq_iff (by omega)).mpr ⟨hge, hlt⟩]
theorem nlz64 {x : Int64} {t : Nat} (ht : t < 64) (h : x.toBitVec.getLsbD t = true) (hl : ∀ j, t < j → j < 64 → x.toBitVec.getLsbD j = false) : 63 - f_J13_numberOfLeadingZeros_95d88 x = iI (t : Nat) := by
  have e : f_J13_numberOfLeadingZeros_95d88 x = if hiW x = 0 then 32 + (f_J6_numberOfLeadingZeros_0f7a4 x.toInt32) else f_J6_numberOfLeadingZeros_0f7a4 (hiW x) := rfl
  rw [e]
  by_cases c : t < 32
  · rw [if_pos (z32 (fun j hj => by rw [hi32 x j hj]; exact hl _ (by omega) (by omega))), nlz32 c (by rw [lo32 x t c]; exact h) (fun j a b => by rw [lo32 x j b]; exact hl j a (by omega)), show (32 : Int32) = iI 32 from rfl, show (63 : Int32) = iI 63 from rfl, iI_add, iI_sub]
    congr 1
    omega
  · rw [if_neg (nz32 (j := t - 32) (by rw [hi32 x _ (by omega), show 32 + (t - 32) = t by omega]; exact h)), nlz32 (t := t - 32) (by omega) (by rw [hi32 x _ (by omega), show 32 + (t - 32) = t by omega]; exact h) (fun j a b => by rw [hi32 x j b]; exact hl _ (by omega) (by omega)), show (63 : Int32) = iI 63 from rfl, iI_sub]
    congr 1
    omega
theorem cnt_61 {P : Nat → Bool} (h : ∀ j, 61 ≤ j → j < 64 → P j = false) : cnt P 64 = cnt P 61 := by
  show cnt P 61 + (if P 61 = true then 1 else 0) + (if P 62 = true then 1 else 0) + (if P 63 = true then 1 else 0) = _
  rw [h 61 (by omega) (by omega), h 62 (by omega) (by omega), h 63 (by omega) (by omega)]
  rfl
theorem mask_ans {x : Int64} {Q : Nat → Prop} (hx : MskI x Q) (y1 : Int32) : f_J13_bitCount_95d88 x = iI ((cnt (fun j => x.toBitVec.getLsbD j) 61 : Nat) : Int) ∧ (if lg_cmp x 0 = 0 then (-1 : Int32) else if y1 = 0 then f_J13_numberOfTrailingZeros_95d88 x else if y1 = 1 then 63 - f_J13_numberOfLeadingZeros_95d88 x else if y1 = 2 then f_J13_bitCount_95d88 x else -1) = slowAns (fun j => x.toBitVec.getLsbD j) y1 := by
  have hb : ∀ j, 61 ≤ j → j < 64 → x.toBitVec.getLsbD j = false := by
    intro j a b
    rw [Bool.eq_false_iff]
    intro g
    have := ((hx j b).mp g).1
    omega
  have hc : f_J13_bitCount_95d88 x = iI ((cnt (fun j => x.toBitVec.getLsbD j) 61 : Nat) : Int) := by
    rw [bitCount_eq, cnt_61 hb]
  refine ⟨hc, ?_⟩
  unfold slowAns
  by_cases c0 : cnt (fun j => x.toBitVec.getLsbD j) 61 = 0
  · rw [if_pos c0]
    have : x = 0 := by
      apply Decidable.byContradiction
      intro hne
      apply hne
      apply (Msk_z hx).mpr
      intro j hj hQ
      have hbit := (hx j (by omega)).mpr ⟨hj, hQ⟩
      have hz : ∀ m, cnt (fun j => x.toBitVec.getLsbD j) m = 0 → ∀ j, j < m → x.toBitVec.getLsbD j = false := by
        intro m
        induction m with
        | zero => intro _ j g; omega
        | succ m IH =>
          intro g j hj
          rw [cnt] at g
          by_cases c2 : j = m
          · rw [c2]
            by_cases c3 : x.toBitVec.getLsbD m = true
            · rw [if_pos c3] at g; omega
            · exact Bool.eq_false_iff.mpr c3
          · exact IH (by omega) j (by omega)
      have := hz 61 c0 j (by omega)
      rw [this] at hbit
      exact absurd hbit (by decide)
    rw [if_pos ((lg_eq0 _ _).mpr this)]
  · rw [if_neg c0]
    obtain ⟨t, t1, t2, t3⟩ := fst_ex _ 61 c0
    obtain ⟨u, u1, u2, u3⟩ := lst_ex _ 61 c0
    have hne : ¬ lg_cmp x 0 = 0 := by
      intro g
      have g' := (lg_eq0 _ _).mp g
      have t2' : x.toBitVec.getLsbD t = true := t2
      rw [g', show ((0 : Int64).toBitVec).getLsbD t = false from BitVec.getLsbD_zero] at t2'
      exact absurd t2' (by decide)
    rw [if_neg hne, hc, ntz64 (t := t) (by omega) t2 t3, nlz64 (t := u) (by omega) u2 (fun j a b => by
      by_cases c : j < 61
      · exact u3 j a c
      · exact hb j (by omega) b), fstB_at t2 t3 61 t1, lstB_at u2 61 u1 u3]
