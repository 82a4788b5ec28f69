theorem lg_ge0 (x y : Int64) : 0 ≤ lg_cmp x y ↔ ¬ x < y := by
  unfold lg_cmp
  by_cases h1 : y < x
  · rw [if_pos h1]
    rw [Int64.lt_iff_toInt_lt] at h1
    rw [Int64.lt_iff_toInt_lt]
    exact ⟨fun _ => by omega, fun _ => by decide⟩
  · rw [if_neg h1]
    by_cases h2 : x < y
    · have hne : ¬ x = y := fun z => by rw [z, Int64.lt_iff_toInt_lt] at h2; omega
      first
        | (rw [if_neg hne]; exact ⟨fun z => absurd z (by decide), fun z => absurd h2 z⟩)
        | (rw [if_pos h2]; exact ⟨fun z => absurd z (by decide), fun z => absurd h2 z⟩)
    · have he : x = y := by
        rw [Int64.lt_iff_toInt_lt] at h1 h2
        exact Int64.toInt_inj.mp (by omega)
      first
        | (rw [if_pos he]; exact ⟨fun _ => h2, fun _ => by decide⟩)
        | (rw [if_neg h2]; exact ⟨fun _ => h2, fun _ => by decide⟩)
theorem lg_eq0 (x y : Int64) : lg_cmp x y = 0 ↔ x = y := by
  unfold lg_cmp
  by_cases h1 : y < x
  · rw [if_pos h1]
    rw [Int64.lt_iff_toInt_lt] at h1
    exact ⟨fun z => absurd z (by decide), fun z => by rw [z] at h1; omega⟩
  · rw [if_neg h1]
    by_cases h2 : x < y
    · have hne : ¬ x = y := fun z => by rw [z, Int64.lt_iff_toInt_lt] at h2; omega
      first
        | (rw [if_neg hne]; exact ⟨fun z => absurd z (by decide), fun z => absurd z hne⟩)
        | (rw [if_pos h2]; exact ⟨fun z => absurd z (by decide), fun z => absurd z hne⟩)
    · have he : x = y := by
        rw [Int64.lt_iff_toInt_lt] at h1 h2
        exact Int64.toInt_inj.mp (by omega)
      first
        | (rw [if_pos he]; exact ⟨fun _ => he, fun _ => rfl⟩)
        | (rw [if_neg h2]; exact ⟨fun _ => he, fun _ => rfl⟩)
def tmI (a b k : Int) : Int := 212620236 * k / 10000 - 586 * wv (pA a k) / 1000 + 248 * wv (pB b k) / 1000 + 1000
theorem tmI_rng {a b k : Int} (hk : 0 ≤ k ∧ k ≤ 12000) : 0 < tmI a b k ∧ tmI a b k < 255148000 := by
  unfold tmI
  have h1 := wv_rng (pA_rng a k)
  have h2 := wv_rng (pB_rng b k)
  omega
theorem timeOf_eq {σ : St2} {a b k : Int} (h0 : σ 0 0 = iI a) (h1 : σ 0 1 = iI b) (ha : 0 ≤ a ∧ a < 36000) (hb : 0 ≤ b ∧ b < 36000) (hk : 0 ≤ k ∧ k ≤ 12000) : f_X5_timeOf σ (iI k) = some (iI (tmI a b k)) := by
  have w1 := wv_rng (pA_rng a k)
  have w2 := wv_rng (pB_rng b k)
  unfold f_X5_timeOf
  rw [moonPlace_eq h0 ha hk, sunPlace_eq h1 hb hk, waveOf_eq (pA_rng a k), waveOf_eq (pB_rng b k)]
  show (f_J9_floorDiv_7cf53 (586 * iI (wv (pA a k))) 1000).bind _ = _
  rw [show (586 : Int32) = iI 586 from rfl, show (1000 : Int32) = iI 1000 from rfl, show (248 : Int32) = iI 248 from rfl, iI_mul, floorDiv_eq (by omega) (by omega) (by omega) (by omega)]
  show (f_J9_floorDiv_7cf53 (iI 248 * iI (wv (pB b k))) (iI 1000)).bind _ = _
  rw [iI_mul, floorDiv_eq (by omega) (by omega) (by omega) (by omega)]
  show some (((((212620236 * (iI k).toInt64) / 10000).toInt32 - iI _) + iI _) + iI 1000) = _
  rw [iI_l (by omega) (by omega), lI_lit 212620236, lI_lit 10000, lI_mul, lI_div (by omega) (by omega) (by omega) (by omega), lI_i, iI_sub, iI_add, iI_add]
  rfl
def dF (f k : Int) : Int := if pF f k % 18000 ≤ 9000 then pF f k % 18000 else 18000 - pF f k % 18000
def knd (a f k : Int) : Int := if k % 2 = 1 then (if dF f k ≤ 480 then 4 else if dF f k ≤ 1080 then 5 else 0) else if dF f k ≤ 1000 then (if pA a k < 9000 then 1 else if pA a k < 27000 then 2 else 1) else if dF f k ≤ 1550 then 3 else 0
theorem knd_rng (a f k : Int) : 0 ≤ knd a f k ∧ knd a f k ≤ 5 := by
  unfold knd
  repeat' split
  all_goals omega
theorem dF_rng (f k : Int) : 0 ≤ dF f k ∧ dF f k ≤ 9000 := by
  unfold dF
  split
  · omega
  · omega
theorem min_eq {a b : Int} (h1 : -2147483648 ≤ a) (h2 : a < 2147483648) (h3 : -2147483648 ≤ b) (h4 : b < 2147483648) : f_J9_min_7cf53 (iI a) (iI b) = iI (if b < a then b else a) := by
  unfold f_J9_min_7cf53
  by_cases h : b < a
  · rw [if_pos ((iI_lt h3 h4 h1 h2).mpr h), if_pos h]
  · rw [if_neg (fun z => h ((iI_lt h3 h4 h1 h2).mp z)), if_neg h]
theorem kindOf_eq {σ : St2} {a f k : Int} (h0 : σ 0 0 = iI a) (h2 : σ 0 2 = iI f) (ha : 0 ≤ a ∧ a < 36000) (hf : 0 ≤ f ∧ f < 36000) (hk : 0 ≤ k ∧ k ≤ 12000) : f_X5_kindOf σ (iI k) = iI (knd a f k) := by
  have hp := pF_rng f k
  have hq := pA_rng a k
  unfold f_X5_kindOf lt
  rw [nodePlace_eq h2 hf hk, show (18000 : Int32) = iI 18000 from rfl, iI_rem (by omega) (by omega) (by omega) (by omega)]
  dsimp only
  rw [iI_sub, min_eq (by omega) (by omega) (by omega) (by omega)]
  have ed : (if 18000 - pF f k % 18000 < pF f k % 18000 then 18000 - pF f k % 18000 else pF f k % 18000) = dF f k := by
    unfold dF
    split <;> split <;> omega
  rw [ed, show (2 : Int32) = iI 2 from rfl, iI_rem (by omega) (by omega) (by omega) (by omega)]
  have hd := dF_rng f k
  unfold knd
  generalize dF f k = d at hd ⊢
  by_cases hk2 : k % 2 = 1
  · rw [if_neg (by rw [iI_lit 0, iI_eq (by omega) (by omega) (by omega) (by omega)]; omega), if_pos hk2]
    unfold f_X5_moonKind
    rw [show (480 : Int32) = iI 480 from rfl, show (1080 : Int32) = iI 1080 from rfl]
    by_cases h4 : d ≤ 480
    · rw [if_neg (by rw [iI_lt (by omega) (by omega) (by omega) (by omega)]; omega), if_pos h4]; rfl
    · rw [if_pos (by rw [iI_lt (by omega) (by omega) (by omega) (by omega)]; omega), if_neg h4]
      by_cases h5 : d ≤ 1080
      · rw [if_neg (by rw [iI_lt (by omega) (by omega) (by omega) (by omega)]; omega), if_pos h5]; rfl
      · rw [if_pos (by rw [iI_lt (by omega) (by omega) (by omega) (by omega)]; omega), if_neg h5]; rfl
  · rw [if_pos (by rw [iI_lit 0, iI_eq (by omega) (by omega) (by omega) (by omega)]; omega), if_neg hk2]
    unfold f_X5_sunKind
    rw [moonPlace_eq h0 ha hk, show (1000 : Int32) = iI 1000 from rfl, show (9000 : Int32) = iI 9000 from rfl, show (27000 : Int32) = iI 27000 from rfl, show (1550 : Int32) = iI 1550 from rfl]
    by_cases h4 : d ≤ 1000
    · rw [if_pos (by rw [iI_le (by omega) (by omega) (by omega) (by omega)]; omega), if_pos h4]
      by_cases h5 : pA a k < 9000
      · rw [if_pos (by rw [iI_lt (by omega) (by omega) (by omega) (by omega)]; omega), if_pos h5]; rfl
      · rw [if_neg (by rw [iI_lt (by omega) (by omega) (by omega) (by omega)]; omega), if_neg h5]
        by_cases h6 : pA a k < 27000
        · rw [if_pos (by rw [iI_lt (by omega) (by omega) (by omega) (by omega)]; omega), if_pos h6]; rfl
        · rw [if_neg (by rw [iI_lt (by omega) (by omega) (by omega) (by omega)]; omega), if_neg h6]; rfl
    · rw [if_neg (by rw [iI_le (by omega) (by omega) (by omega) (by omega)]; omega), if_neg h4]
      by_cases h5 : d ≤ 1550
      · rw [if_neg (by rw [iI_lt (by omega) (by omega) (by omega) (by omega)]; omega), if_pos h5]; rfl
      · rw [if_pos (by rw [iI_lt (by omega) (by omega) (by omega) (by omega)]; omega), if_neg h5]; rfl
/-! the reference's -/
theorem moonAt_eq {σ : St2 × (Nat → Int64)} {a k : Int} (h : σ.1 0 0 = iI a) (ha : 0 ≤ a ∧ a < 36000) (hk : 0 ≤ k ∧ k ≤ 12000) : f_X8_moonAt σ (iI k) = iI (pA a k) := by
  unfold f_X8_moonAt pA
  rw [h, iI_l (by omega) (by omega), iI_l (by omega) (by omega), lI_lit 19291, lI_lit 36000, lI_mul, lI_add, lI_rem (by omega) (by omega) (by omega) (by omega), lI_i]
  rfl
theorem sunAt_eq {σ : St2 × (Nat → Int64)} {a k : Int} (h : σ.1 0 1 = iI a) (ha : 0 ≤ a ∧ a < 36000) (hk : 0 ≤ k ∧ k ≤ 12000) : f_X8_sunAt σ (iI k) = iI (pB a k) := by
  unfold f_X8_sunAt pB
  rw [h, iI_l (by omega) (by omega), iI_l (by omega) (by omega), lI_lit 1455, lI_lit 36000, lI_mul, lI_add, lI_rem (by omega) (by omega) (by omega) (by omega), lI_i]
  rfl
theorem nodeAt_eq {σ : St2 × (Nat → Int64)} {a k : Int} (h : σ.1 0 2 = iI a) (ha : 0 ≤ a ∧ a < 36000) (hk : 0 ≤ k ∧ k ≤ 12000) : f_X8_nodeAt σ (iI k) = iI (pF a k) := by
  unfold f_X8_nodeAt pF
  rw [h, iI_l (by omega) (by omega), iI_l (by omega) (by omega), lI_lit 1953353, lI_lit 100, lI_lit 36000, lI_mul, lI_div (by omega) (by omega) (by omega) (by omega), lI_add, lI_rem (by omega) (by omega) (by omega) (by omega), lI_i]
  rfl
theorem quarter_eq {σ : St2 × (Nat → Int64)} (hw9 : ∀ n, n < 10 → σ.1 9 n = iI (wl n)) {q : Int} (h : 0 ≤ q ∧ q ≤ 9000) : f_X8_quarter σ (iI q) = some (iI (hw q)) := by
  unfold f_X8_quarter
  rw [show (1000 : Int32) = iI 1000 from rfl, show (9 : Int32) = iI 9 from rfl, show (1 : Int32) = iI 1 from rfl, iI_div (by omega) (by omega) (by omega) (by omega), iI_add]
  by_cases h9 : q / 1000 < 9
  · rw [if_neg (by rw [iI_eq (by omega) (by omega) (by omega) (by omega)]; omega)]
    rw [if_neg (ix_no (n := 10) (by omega) (by omega) (by omega)), if_neg (ix_no (n := 10) (by omega) (by omega) (by omega)), if_neg (ix_no (n := 10) (by omega) (by omega) (by omega))]
    have e1 : Int32.toNatClampNeg (iI (q / 1000)) = (q / 1000).toNat := iI_clamp (by omega) (by omega)
    have e2 : Int32.toNatClampNeg (iI (q / 1000 + 1)) = (q / 1000).toNat + 1 := by rw [iI_clamp (by omega) (by omega)]; omega
    rw [e1, e2, hw9 _ (by omega), hw9 _ (by omega), iI_mul, iI_sub, iI_sub, em_eq, iI_mul]
    have h2 := hw_core (q := q) (r := q / 1000) (d := q % 1000) (by omega) (by omega)
    rw [iI_div (by omega) (by omega) (by omega) (by omega), iI_add]
    unfold hw
    rw [if_neg (by omega)]
  · rw [if_pos (by rw [iI_eq (by omega) (by omega) (by omega) (by omega)]; omega)]
    rw [if_neg (ix_no (n := 10) (by omega) (by omega) (by omega)), iI_clamp (by omega) (by omega), hw9 _ (by decide)]
    unfold hw
    rw [if_pos (by omega)]
    rfl
theorem wave_eq {σ : St2 × (Nat → Int64)} (hw9 : ∀ n, n < 10 → σ.1 9 n = iI (wl n)) {p : Int} (h : 0 ≤ p ∧ p < 36000) : f_X8_wave σ (iI p) = some (iI (wv p)) := by
  unfold f_X8_wave wv f_X8_wave_16 f_X8_wave_34 hv
  rw [show (18000 : Int32) = iI 18000 from rfl, show (9000 : Int32) = iI 9000 from rfl, iI_sub, iI_sub, iI_sub]
  by_cases h9 : p ≤ 18000
  · rw [if_pos (by rw [iI_le (by omega) (by omega) (by omega) (by omega)]; exact h9), if_pos h9]
    by_cases h8 : p ≤ 9000
    · rw [if_pos (by rw [iI_le (by omega) (by omega) (by omega) (by omega)]; exact h8), if_pos h8, quarter_eq hw9 (by omega)]
      show (if iI p ≤ iI 18000 then some (iI (hw p)) else _) = _
      rw [if_pos (by rw [iI_le (by omega) (by omega) (by omega) (by omega)]; exact h9)]
    · rw [if_neg (by rw [iI_le (by omega) (by omega) (by omega) (by omega)]; exact h8), if_neg h8, quarter_eq hw9 (by omega)]
      show (if iI p ≤ iI 18000 then some (iI (hw (18000 - p))) else _) = _
      rw [if_pos (by rw [iI_le (by omega) (by omega) (by omega) (by omega)]; exact h9)]
  · rw [if_neg (by rw [iI_le (by omega) (by omega) (by omega) (by omega)]; exact h9), if_neg h9]
    by_cases h8 : p - 18000 ≤ 9000
    · rw [if_pos (by rw [iI_le (by omega) (by omega) (by omega) (by omega)]; exact h8), if_pos h8, quarter_eq hw9 (by omega)]
      show (if iI p ≤ iI 18000 then _ else some (-iI (hw (p - 18000)))) = _
      rw [if_neg (by rw [iI_le (by omega) (by omega) (by omega) (by omega)]; exact h9), iI_neg]
    · rw [if_neg (by rw [iI_le (by omega) (by omega) (by omega) (by omega)]; exact h8), if_neg h8, quarter_eq hw9 (by omega)]
      show (if iI p ≤ iI 18000 then _ else some (-iI (hw (18000 - (p - 18000))))) = _
      rw [if_neg (by rw [iI_le (by omega) (by omega) (by omega) (by omega)]; exact h9), iI_neg]
theorem floor_eq {a b : Int} (h1 : -9223372036854775808 < a) (h2 : a < 9223372036854775808) (hb : 0 < b) (hb2 : b < 1000000) : f_X8_floor (lI a) (lI b) = some (lI (a / b)) := by
  unfold f_X8_floor
  have hb0 : ¬ lI b = 0 := by rw [lI_lit 0, lI_eq (by omega) (by omega) (by omega) (by omega)]; omega
  rw [if_neg hb0, if_neg hb0]
  have hd := Int.tdiv_eq_ediv (a := a) (b := b)
  have hs : b.sign = 1 := Int.sign_eq_one_of_pos hb
  have hm0 := Int.emod_nonneg a (show b ≠ 0 by omega)
  have hml := Int.emod_lt_of_pos a hb
  have hab : b * (a / b) + a % b = a := Int.mul_ediv_add_emod a b
  rw [lI_tdiv (by omega) (by omega) hb (by omega), lI_mul, lI_sub, lI_lit 0, lI_lit 1, lI_sub]
  by_cases ha : 0 ≤ a ∨ b ∣ a
  · rw [if_pos ha] at hd
    have e0 : a.tdiv b = a / b := by omega
    have e1 : a - a.tdiv b * b = a % b := by rw [e0, em_eq]
    rw [e1, if_pos, e0]
    rw [lg_ge0, lI_lt (by omega) (by omega) (by omega) (by omega)]
    omega
  · rw [if_neg ha, hs] at hd
    have hm : a % b ≠ 0 := fun z => ha (Or.inr (Int.dvd_of_emod_eq_zero z))
    have e1 : a - a.tdiv b * b = a % b - b := by
      rw [hd, Int.add_mul, Int.one_mul, Int.mul_comm]
      omega
    rw [e1, if_neg]
    · rw [hd]
      show some (lI (a / b + 1 - 1)) = some (lI (a / b))
      rw [show a / b + 1 - 1 = a / b by omega]
    · rw [lg_ge0, lI_lt (by omega) (by omega) (by omega) (by omega)]
      omega
theorem timeOfM_eq {σ : St2 × (Nat → Int64)} (hw9 : ∀ n, n < 10 → σ.1 9 n = iI (wl n)) {a b k : Int} (h0 : σ.1 0 0 = iI a) (h1 : σ.1 0 1 = iI b) (ha : 0 ≤ a ∧ a < 36000) (hb : 0 ≤ b ∧ b < 36000) (hk : 0 ≤ k ∧ k ≤ 12000) : f_X8_timeOf σ (iI k) = some (iI (tmI a b k)) := by
  have w1 := wv_rng (pA_rng a k)
  have w2 := wv_rng (pB_rng b k)
  unfold f_X8_timeOf
  rw [moonAt_eq h0 ha hk, sunAt_eq h1 hb hk, wave_eq hw9 (pA_rng a k), wave_eq hw9 (pB_rng b k)]
  show (f_X8_floor (586 * (iI (wv (pA a k))).toInt64) 1000).bind _ = _
  rw [show (586 : Int64) = lI 586 from rfl, show (1000 : Int64) = lI 1000 from rfl, show (248 : Int64) = lI 248 from rfl, iI_l (by omega) (by omega), lI_mul, floor_eq (by omega) (by omega) (by omega) (by omega)]
  show (f_X8_floor (lI 248 * (iI (wv (pB b k))).toInt64) (lI 1000)).bind _ = _
  rw [iI_l (by omega) (by omega), lI_mul, floor_eq (by omega) (by omega) (by omega) (by omega)]
  show some (((((212620236 * (iI k).toInt64) / 10000 - lI _) + lI _) + lI 1000).toInt32) = _
  rw [iI_l (by omega) (by omega), lI_lit 212620236, lI_lit 10000, lI_mul, lI_div (by omega) (by omega) (by omega) (by omega), lI_sub, lI_add, lI_add, lI_i]
  rfl
theorem sortOf_eq {σ : St2 × (Nat → Int64)} {a f k : Int} (h0 : σ.1 0 0 = iI a) (h2 : σ.1 0 2 = iI f) (ha : 0 ≤ a ∧ a < 36000) (hf : 0 ≤ f ∧ f < 36000) (hk : 0 ≤ k ∧ k ≤ 12000) : f_X8_sortOf σ (iI k) = iI (knd a f k) := by
  have hp := pF_rng f k
  have hq := pA_rng a k
  unfold f_X8_sortOf lt
  rw [nodeAt_eq h2 hf hk, show (18000 : Int32) = iI 18000 from rfl, show (9000 : Int32) = iI 9000 from rfl, iI_rem (by omega) (by omega) (by omega) (by omega)]
  dsimp only
  rw [iI_sub]
  have ed : (if iI (pF f k % 18000) ≤ iI 9000 then f_X8_sortOf_25 σ (iI k) (iI (pF f k % 18000)) else f_X8_sortOf_25 σ (iI k) (iI (18000 - pF f k % 18000))) = f_X8_sortOf_25 σ (iI k) (iI (dF f k)) := by
    unfold dF
    by_cases h : pF f k % 18000 ≤ 9000
    · rw [if_pos (by rw [iI_le (by omega) (by omega) (by omega) (by omega)]; exact h), if_pos h]
    · rw [if_neg (by rw [iI_le (by omega) (by omega) (by omega) (by omega)]; exact h), if_neg h]
  rw [ed]
  have hd := dF_rng f k
  unfold knd f_X8_sortOf_25
  generalize dF f k = d at hd ⊢
  rw [show (2 : Int32) = iI 2 from rfl, iI_rem (by omega) (by omega) (by omega) (by omega), moonAt_eq h0 ha hk, show (480 : Int32) = iI 480 from rfl, show (1080 : Int32) = iI 1080 from rfl, show (1000 : Int32) = iI 1000 from rfl, show (9000 : Int32) = iI 9000 from rfl, show (27000 : Int32) = iI 27000 from rfl, show (1550 : Int32) = iI 1550 from rfl]
  by_cases hk2 : k % 2 = 1
  · rw [if_pos (by rw [iI_lit 1, iI_eq (by omega) (by omega) (by omega) (by omega)]; omega), if_pos hk2]
    by_cases h4 : d ≤ 480
    · rw [if_neg (by rw [iI_lt (by omega) (by omega) (by omega) (by omega)]; omega), if_pos h4]; rfl
    · rw [if_pos (by rw [iI_lt (by omega) (by omega) (by omega) (by omega)]; omega), if_neg h4]
      by_cases h5 : d ≤ 1080
      · rw [if_neg (by rw [iI_lt (by omega) (by omega) (by omega) (by omega)]; omega), if_pos h5]; rfl
      · rw [if_pos (by rw [iI_lt (by omega) (by omega) (by omega) (by omega)]; omega), if_neg h5]; rfl
  · rw [if_neg (by rw [iI_lit 1, iI_eq (by omega) (by omega) (by omega) (by omega)]; omega), if_neg hk2]
    by_cases h4 : d ≤ 1000
    · rw [if_neg (by rw [iI_lt (by omega) (by omega) (by omega) (by omega)]; omega), if_pos h4]
      by_cases h5 : pA a k < 9000
      · rw [if_pos (by rw [iI_lt (by omega) (by omega) (by omega) (by omega)]; omega), if_pos h5]; rfl
      · rw [if_neg (by rw [iI_lt (by omega) (by omega) (by omega) (by omega)]; omega), if_neg h5]
        by_cases h6 : pA a k < 27000
        · rw [if_pos (by rw [iI_lt (by omega) (by omega) (by omega) (by omega)]; omega), if_pos h6]
        · rw [if_neg (by rw [iI_lt (by omega) (by omega) (by omega) (by omega)]; omega), if_neg h6]; rfl
    · rw [if_pos (by rw [iI_lt (by omega) (by omega) (by omega) (by omega)]; omega), if_neg h4]
      by_cases h5 : d ≤ 1550
      · rw [if_neg (by rw [iI_lt (by omega) (by omega) (by omega) (by omega)]; omega), if_pos h5]; rfl
      · rw [if_pos (by rw [iI_lt (by omega) (by omega) (by omega) (by omega)]; omega), if_neg h5]; rfl
