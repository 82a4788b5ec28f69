/-! tables, the tape -/
theorem isPlace_t {x : Int32} (h : ¬ bI (f_X5_isPlace x) = 0) : 0 ≤ x.toInt ∧ x.toInt < 36000 := by
  unfold f_X5_isPlace at h
  by_cases h1 : x < 0
  · rw [if_pos h1] at h; exact absurd bI_f h
  · rw [if_neg h1] at h
    by_cases h2 : 36000 ≤ x
    · rw [if_pos h2] at h; exact absurd bI_f h
    · rw [Int32.lt_iff_toInt_lt] at h1
      rw [Int32.le_iff_toInt_le] at h2
      rw [show (0 : Int32) = iI 0 from rfl, iI_toInt (by omega) (by omega)] at h1
      rw [show (36000 : Int32) = iI 36000 from rfl, iI_toInt (by omega) (by omega)] at h2
      omega
theorem isPlace_in (x : Int32) : f_X8_isIn x 0 35999 = f_X5_isPlace x := by
  unfold f_X8_isIn f_X5_isPlace
  have e : (35999 < x) = (36000 ≤ x) := by
    rw [Int32.lt_iff_toInt_lt, Int32.le_iff_toInt_le, show (36000 : Int32) = iI 36000 from rfl, show (35999 : Int32) = iI 35999 from rfl, iI_toInt (by omega) (by omega), iI_toInt (by omega) (by omega)]
    exact propext (by omega)
  by_cases h1 : x < 0
  · rw [if_pos h1, if_pos h1]
  · rw [if_neg h1, if_neg h1]
    by_cases h2 : 36000 ≤ x
    · rw [if_pos h2, if_pos (by rw [e]; exact h2)]
    · rw [if_neg h2, if_neg (by rw [e]; exact h2)]
theorem tables_eq {σS σT σR : St2} {σV : St2 × (Nat → Nat)} {σQ : Nat → (St2 × Int64)} {σD : St2} {ra : Value} {σM : St2 × (Nat → Int64)} {a b f : Int} (h : SkyI σS σM.1 a b f) (x1 x2 x3 : Int32) : (f_X7_tables σS σT σR σV σQ σD ra x1 x2 x3 = (false, σS) ∧ f_X8_tables σM x1 x2 x3 = (false, σM)) ∨ ∃ (σS' σ' : St2) (a' b' f' : Int), f_X7_tables σS σT σR σV σQ σD ra x1 x2 x3 = (true, σS') ∧ f_X8_tables σM x1 x2 x3 = (true, (σ', σM.2)) ∧ SkyI σS' σ' a' b' f' ∧ σS' 0 3 = σS 0 3 + 1 ∧ (∀ i, 4 ≤ i → σ' 0 i = σM.1 0 i) ∧ (∀ j, j ≠ 0 → σ' j = σM.1 j) := by
  obtain ⟨ha, hb, hf, h0, h1, h2, g0, g1, g2, hs, hm, hw⟩ := h
  unfold f_X7_tables f_X5_setTables f_X8_tables
  rw [isPlace_in, isPlace_in, isPlace_in]
  by_cases c1 : bI (f_X5_isPlace x1) = 0
  · rw [if_pos c1, if_pos c1]; exact Or.inl ⟨rfl, rfl⟩
  · rw [if_neg c1, if_neg c1]
    by_cases c2 : bI (f_X5_isPlace x2) = 0
    · rw [if_pos c2, if_pos c2]; exact Or.inl ⟨rfl, rfl⟩
    · rw [if_neg c2, if_neg c2]
      by_cases c3 : bI (f_X5_isPlace x3) = 0
      · rw [if_pos c3, if_pos c3]; exact Or.inl ⟨rfl, rfl⟩
      · rw [if_neg c3, if_neg c3]
        right
        refine ⟨_, _, x1.toInt, x2.toInt, x3.toInt, rfl, rfl, ⟨isPlace_t c1, isPlace_t c2, isPlace_t c3, iI_of x1, iI_of x2, iI_of x3, iI_of x1, iI_of x2, iI_of x3, Or.inl rfl, Or.inl rfl, hw⟩, rfl, ?_, ?_⟩
        · intro i hi
          show upd (upd (upd (upd (σM.1 0) 0 _) 1 _) 2 _) 3 _ i = _
          unfold upd
          rw [if_neg (by omega), if_neg (by omega), if_neg (by omega), if_neg (by omega)]
        · intro j hj
          unfold up2
          rw [if_neg hj, if_neg hj, if_neg hj, if_neg hj]
/-! the tape -/
def TapeI (σT σM : St2) (l : Nat) : Prop := l ≤ 200 ∧ σT 0 1 = iI (l : Int) ∧ σM 0 14 = iI (l : Int) ∧ ∀ i, i < l → σT 1 i = σM 14 i ∧ 0 ≤ (σM 14 i).toInt ∧ (σM 14 i).toInt < 256
def pT (σ : St2) (l : Nat) (v : Int32) : St2 := up2 (up2 σ 1 l v) 0 1 (iI ((l + 1 : Nat) : Int))
def pM (σ : St2 × (Nat → Int64)) (l : Nat) (v : Int32) : St2 × (Nat → Int64) := (up2 (up2 σ.1 14 l v) 0 14 (iI ((l + 1 : Nat) : Int)), σ.2)
theorem pM_0 {σ : St2 × (Nat → Int64)} {l : Nat} {v : Int32} {i : Nat} (h : i ≠ 14) : (pM σ l v).1 0 i = σ.1 0 i := by
  show upd (σ.1 0) 14 _ i = _
  unfold upd
  rw [if_neg h]
theorem pM_r {σ : St2 × (Nat → Int64)} {l : Nat} {v : Int32} {j : Nat} (h0 : j ≠ 0) (h1 : j ≠ 14) : (pM σ l v).1 j = σ.1 j := by
  show up2 (up2 σ.1 14 l v) 0 14 _ j = _
  unfold up2
  rw [if_neg h0, if_neg h1]
def byt (x s : Int32) : Int32 := (x >>> s) &&& 255
theorem byt_rng (x s : Int32) : 0 ≤ (byt x s).toInt ∧ (byt x s).toInt < 256 := by
  have h : (byt x s).toBitVec.toNat = (x >>> s).toBitVec.toNat % 256 := by
    unfold byt
    rw [Int32.toBitVec_and, BitVec.toNat_and]
    exact Nat.and_two_pow_sub_one_eq_mod _ 8
  have h2 : (byt x s).toInt = ((byt x s).toBitVec.toNat : Int) := by
    show (byt x s).toBitVec.toInt = _
    rw [BitVec.toInt_eq_toNat_of_lt (by rw [h]; omega)]
  rw [h2, h]
  omega
theorem put_eq {σT : St2} {σM : St2 × (Nat → Int64)} {l : Nat} (h : TapeI σT σM.1 l) (hl : l < 200) (x s : Int32) : TapeI (pT σT l (byt x s)) (pM σM l (byt x s)).1 (l + 1) := by
  refine ⟨hl, rfl, rfl, ?_⟩
  intro i hi
  show upd (σT 1) l _ i = upd (σM.1 14) l _ i ∧ 0 ≤ (upd (σM.1 14) l _ i).toInt ∧ (upd (σM.1 14) l _ i).toInt < 256
  unfold upd
  by_cases e : i = l
  · rw [if_pos e, if_pos e]
    exact ⟨rfl, byt_rng x s⟩
  · rw [if_neg e, if_neg e]
    exact h.2.2.2 i (by omega)
theorem addN {N n : Nat} {σT : St2} {l : Nat} (h : σT 0 1 = iI (l : Int)) (hl : l < 200) (x y2 : Int32) (hy : ¬ y2 < 0) : f_X6_addNumber_3 N (n + 1) σT x y2 = f_X6_addNumber_3 N n (pT σT l (byt x (y2 &&& 31))) x (y2 + (-8)) := by
  rw [f_X6_addNumber_3, if_neg hy, h, if_neg (by rw [show (200 : Int32) = iI 200 from rfl, iI_le (by omega) (by omega) (by omega) (by omega)]; omega)]
  unfold lt
  dsimp only
  rw [if_neg (ix_no (n := 200) (by omega) (by omega) (by omega)), iI_clamp (by omega) (by omega), Int.toNat_natCast, nx]
  rfl
theorem addNumber_eq {N : Nat} (hN : 10 ≤ N) {σT : St2} {l : Nat} (h : σT 0 1 = iI (l : Int)) (hl : l + 4 ≤ 200) (x : Int32) : f_X6_addNumber N σT x = some (pT (pT (pT (pT σT l (byt x 24)) (l + 1) (byt x 16)) (l + 2) (byt x 8)) (l + 3) (byt x 0)) := by
  unfold f_X6_addNumber
  obtain ⟨n, rfl⟩ : ∃ n, N = n + 5 := ⟨N - 5, by omega⟩
  rw [addN (l := l) h (by omega) x 24 (by decide), addN (l := l + 1) rfl (by omega) x (24 + (-8)) (by decide), addN (l := l + 2) rfl (by omega) x (24 + (-8) + (-8)) (by decide), addN (l := l + 3) rfl (by omega) x (24 + (-8) + (-8) + (-8)) (by decide), f_X6_addNumber_3, if_pos (by decide)]
  rfl
theorem feed71 {N : Nat} {K : (St2 × (Nat → Int64)) → Int32 → Int32 → Int32 → Int32 → Int32 → Int32 → Option (Int32 × (St2 × (Nat → Int64)))} {σM : St2 × (Nat → Int64)} {l : Nat} (h : σM.1 0 14 = iI (l : Int)) (hl : l < 200) (y1 y2 y3 y4 y5 y6 t : Int32) : f_X8_feed_71 N K σM y1 y2 y3 y4 y5 y6 t = K (pM σM l (byt t ((8 * (3 - (y6 - y6 / 4 * 4))) &&& 31))) y1 y2 y3 y4 y5 (y6 + 1) := by
  unfold f_X8_feed_71 lt
  dsimp only
  rw [h, if_neg (ix_no (n := 200) (by omega) (by omega) (by omega)), iI_clamp (by omega) (by omega), Int.toNat_natCast, nx]
  rfl
theorem feed_0 {N n : Nat} {σM : St2 × (Nat → Int64)} {l : Nat} (h : σM.1 0 14 = iI (l : Int)) (hl : l < 200) (y1 y2 y3 y4 y5 : Int32) : f_X8_feed_18 N (n + 1) σM y1 y2 y3 y4 y5 0 = f_X8_feed_18 N n (pM σM l (byt y1 24)) y1 y2 y3 y4 y5 1 := by
  rw [f_X8_feed_18, if_neg (by decide), if_neg (by decide), feed71 h hl, show ((8 * (3 - ((0 : Int32) - 0 / 4 * 4))) &&& 31 : Int32) = 24 by decide, show (0 + 1 : Int32) = 1 by decide]
theorem feed_1 {N n : Nat} {σM : St2 × (Nat → Int64)} {l : Nat} (h : σM.1 0 14 = iI (l : Int)) (hl : l < 200) (y1 y2 y3 y4 y5 : Int32) : f_X8_feed_18 N (n + 1) σM y1 y2 y3 y4 y5 1 = f_X8_feed_18 N n (pM σM l (byt y1 16)) y1 y2 y3 y4 y5 2 := by
  rw [f_X8_feed_18, if_neg (by decide), if_neg (by decide), feed71 h hl, show ((8 * (3 - ((1 : Int32) - 1 / 4 * 4))) &&& 31 : Int32) = 16 by decide, show (1 + 1 : Int32) = 2 by decide]
theorem feed_2 {N n : Nat} {σM : St2 × (Nat → Int64)} {l : Nat} (h : σM.1 0 14 = iI (l : Int)) (hl : l < 200) (y1 y2 y3 y4 y5 : Int32) : f_X8_feed_18 N (n + 1) σM y1 y2 y3 y4 y5 2 = f_X8_feed_18 N n (pM σM l (byt y1 8)) y1 y2 y3 y4 y5 3 := by
  rw [f_X8_feed_18, if_neg (by decide), if_neg (by decide), feed71 h hl, show ((8 * (3 - ((2 : Int32) - 2 / 4 * 4))) &&& 31 : Int32) = 8 by decide, show (2 + 1 : Int32) = 3 by decide]
theorem feed_3 {N n : Nat} {σM : St2 × (Nat → Int64)} {l : Nat} (h : σM.1 0 14 = iI (l : Int)) (hl : l < 200) (y1 y2 y3 y4 y5 : Int32) : f_X8_feed_18 N (n + 1) σM y1 y2 y3 y4 y5 3 = f_X8_feed_18 N n (pM σM l (byt y1 0)) y1 y2 y3 y4 y5 4 := by
  rw [f_X8_feed_18, if_neg (by decide), if_neg (by decide), feed71 h hl, show ((8 * (3 - ((3 : Int32) - 3 / 4 * 4))) &&& 31 : Int32) = 0 by decide, show (3 + 1 : Int32) = 4 by decide]
theorem feed_4 {N n : Nat} {σM : St2 × (Nat → Int64)} {l : Nat} (h : σM.1 0 14 = iI (l : Int)) (hl : l < 200) (y1 y2 y3 y4 y5 : Int32) : f_X8_feed_18 N (n + 1) σM y1 y2 y3 y4 y5 4 = f_X8_feed_18 N n (pM σM l (byt y2 24)) y1 y2 y3 y4 y5 5 := by
  rw [f_X8_feed_18, if_neg (by decide), if_pos (by decide), if_neg (by decide), feed71 h hl, show ((8 * (3 - ((4 : Int32) - 4 / 4 * 4))) &&& 31 : Int32) = 24 by decide, show (4 + 1 : Int32) = 5 by decide]
theorem feed_5 {N n : Nat} {σM : St2 × (Nat → Int64)} {l : Nat} (h : σM.1 0 14 = iI (l : Int)) (hl : l < 200) (y1 y2 y3 y4 y5 : Int32) : f_X8_feed_18 N (n + 1) σM y1 y2 y3 y4 y5 5 = f_X8_feed_18 N n (pM σM l (byt y2 16)) y1 y2 y3 y4 y5 6 := by
  rw [f_X8_feed_18, if_neg (by decide), if_pos (by decide), if_neg (by decide), feed71 h hl, show ((8 * (3 - ((5 : Int32) - 5 / 4 * 4))) &&& 31 : Int32) = 16 by decide, show (5 + 1 : Int32) = 6 by decide]
theorem feed_6 {N n : Nat} {σM : St2 × (Nat → Int64)} {l : Nat} (h : σM.1 0 14 = iI (l : Int)) (hl : l < 200) (y1 y2 y3 y4 y5 : Int32) : f_X8_feed_18 N (n + 1) σM y1 y2 y3 y4 y5 6 = f_X8_feed_18 N n (pM σM l (byt y2 8)) y1 y2 y3 y4 y5 7 := by
  rw [f_X8_feed_18, if_neg (by decide), if_pos (by decide), if_neg (by decide), feed71 h hl, show ((8 * (3 - ((6 : Int32) - 6 / 4 * 4))) &&& 31 : Int32) = 8 by decide, show (6 + 1 : Int32) = 7 by decide]
theorem feed_7 {N n : Nat} {σM : St2 × (Nat → Int64)} {l : Nat} (h : σM.1 0 14 = iI (l : Int)) (hl : l < 200) (y1 y2 y3 y4 y5 : Int32) : f_X8_feed_18 N (n + 1) σM y1 y2 y3 y4 y5 7 = f_X8_feed_18 N n (pM σM l (byt y2 0)) y1 y2 y3 y4 y5 8 := by
  rw [f_X8_feed_18, if_neg (by decide), if_pos (by decide), if_neg (by decide), feed71 h hl, show ((8 * (3 - ((7 : Int32) - 7 / 4 * 4))) &&& 31 : Int32) = 0 by decide, show (7 + 1 : Int32) = 8 by decide]
theorem feed_8 {N n : Nat} {σM : St2 × (Nat → Int64)} {l : Nat} (h : σM.1 0 14 = iI (l : Int)) (hl : l < 200) (y1 y2 y3 y4 y5 : Int32) : f_X8_feed_18 N (n + 1) σM y1 y2 y3 y4 y5 8 = f_X8_feed_18 N n (pM σM l (byt y3 24)) y1 y2 y3 y4 y5 9 := by
  rw [f_X8_feed_18, if_neg (by decide), if_pos (by decide), if_pos (by decide), if_neg (by decide), feed71 h hl, show ((8 * (3 - ((8 : Int32) - 8 / 4 * 4))) &&& 31 : Int32) = 24 by decide, show (8 + 1 : Int32) = 9 by decide]
theorem feed_9 {N n : Nat} {σM : St2 × (Nat → Int64)} {l : Nat} (h : σM.1 0 14 = iI (l : Int)) (hl : l < 200) (y1 y2 y3 y4 y5 : Int32) : f_X8_feed_18 N (n + 1) σM y1 y2 y3 y4 y5 9 = f_X8_feed_18 N n (pM σM l (byt y3 16)) y1 y2 y3 y4 y5 10 := by
  rw [f_X8_feed_18, if_neg (by decide), if_pos (by decide), if_pos (by decide), if_neg (by decide), feed71 h hl, show ((8 * (3 - ((9 : Int32) - 9 / 4 * 4))) &&& 31 : Int32) = 16 by decide, show (9 + 1 : Int32) = 10 by decide]
theorem feed_10 {N n : Nat} {σM : St2 × (Nat → Int64)} {l : Nat} (h : σM.1 0 14 = iI (l : Int)) (hl : l < 200) (y1 y2 y3 y4 y5 : Int32) : f_X8_feed_18 N (n + 1) σM y1 y2 y3 y4 y5 10 = f_X8_feed_18 N n (pM σM l (byt y3 8)) y1 y2 y3 y4 y5 11 := by
  rw [f_X8_feed_18, if_neg (by decide), if_pos (by decide), if_pos (by decide), if_neg (by decide), feed71 h hl, show ((8 * (3 - ((10 : Int32) - 10 / 4 * 4))) &&& 31 : Int32) = 8 by decide, show (10 + 1 : Int32) = 11 by decide]
theorem feed_11 {N n : Nat} {σM : St2 × (Nat → Int64)} {l : Nat} (h : σM.1 0 14 = iI (l : Int)) (hl : l < 200) (y1 y2 y3 y4 y5 : Int32) : f_X8_feed_18 N (n + 1) σM y1 y2 y3 y4 y5 11 = f_X8_feed_18 N n (pM σM l (byt y3 0)) y1 y2 y3 y4 y5 12 := by
  rw [f_X8_feed_18, if_neg (by decide), if_pos (by decide), if_pos (by decide), if_neg (by decide), feed71 h hl, show ((8 * (3 - ((11 : Int32) - 11 / 4 * 4))) &&& 31 : Int32) = 0 by decide, show (11 + 1 : Int32) = 12 by decide]
theorem feed_12 {N n : Nat} {σM : St2 × (Nat → Int64)} {l : Nat} (h : σM.1 0 14 = iI (l : Int)) (hl : l < 200) (y1 y2 y3 y4 y5 : Int32) : f_X8_feed_18 N (n + 1) σM y1 y2 y3 y4 y5 12 = f_X8_feed_18 N n (pM σM l (byt y4 24)) y1 y2 y3 y4 y5 13 := by
  rw [f_X8_feed_18, if_neg (by decide), if_pos (by decide), if_pos (by decide), if_pos (by decide), if_neg (by decide), feed71 h hl, show ((8 * (3 - ((12 : Int32) - 12 / 4 * 4))) &&& 31 : Int32) = 24 by decide, show (12 + 1 : Int32) = 13 by decide]
theorem feed_13 {N n : Nat} {σM : St2 × (Nat → Int64)} {l : Nat} (h : σM.1 0 14 = iI (l : Int)) (hl : l < 200) (y1 y2 y3 y4 y5 : Int32) : f_X8_feed_18 N (n + 1) σM y1 y2 y3 y4 y5 13 = f_X8_feed_18 N n (pM σM l (byt y4 16)) y1 y2 y3 y4 y5 14 := by
  rw [f_X8_feed_18, if_neg (by decide), if_pos (by decide), if_pos (by decide), if_pos (by decide), if_neg (by decide), feed71 h hl, show ((8 * (3 - ((13 : Int32) - 13 / 4 * 4))) &&& 31 : Int32) = 16 by decide, show (13 + 1 : Int32) = 14 by decide]
theorem feed_14 {N n : Nat} {σM : St2 × (Nat → Int64)} {l : Nat} (h : σM.1 0 14 = iI (l : Int)) (hl : l < 200) (y1 y2 y3 y4 y5 : Int32) : f_X8_feed_18 N (n + 1) σM y1 y2 y3 y4 y5 14 = f_X8_feed_18 N n (pM σM l (byt y4 8)) y1 y2 y3 y4 y5 15 := by
  rw [f_X8_feed_18, if_neg (by decide), if_pos (by decide), if_pos (by decide), if_pos (by decide), if_neg (by decide), feed71 h hl, show ((8 * (3 - ((14 : Int32) - 14 / 4 * 4))) &&& 31 : Int32) = 8 by decide, show (14 + 1 : Int32) = 15 by decide]
theorem feed_15 {N n : Nat} {σM : St2 × (Nat → Int64)} {l : Nat} (h : σM.1 0 14 = iI (l : Int)) (hl : l < 200) (y1 y2 y3 y4 y5 : Int32) : f_X8_feed_18 N (n + 1) σM y1 y2 y3 y4 y5 15 = f_X8_feed_18 N n (pM σM l (byt y4 0)) y1 y2 y3 y4 y5 16 := by
  rw [f_X8_feed_18, if_neg (by decide), if_pos (by decide), if_pos (by decide), if_pos (by decide), if_neg (by decide), feed71 h hl, show ((8 * (3 - ((15 : Int32) - 15 / 4 * 4))) &&& 31 : Int32) = 0 by decide, show (15 + 1 : Int32) = 16 by decide]
theorem feed_16 {N n : Nat} {σM : St2 × (Nat → Int64)} {l : Nat} (h : σM.1 0 14 = iI (l : Int)) (hl : l < 200) (y1 y2 y3 y4 y5 : Int32) : f_X8_feed_18 N (n + 1) σM y1 y2 y3 y4 y5 16 = f_X8_feed_18 N n (pM σM l (byt y5 24)) y1 y2 y3 y4 y5 17 := by
  rw [f_X8_feed_18, if_neg (by decide), if_pos (by decide), if_pos (by decide), if_pos (by decide), if_pos (by decide), feed71 h hl, show ((8 * (3 - ((16 : Int32) - 16 / 4 * 4))) &&& 31 : Int32) = 24 by decide, show (16 + 1 : Int32) = 17 by decide]
theorem feed_17 {N n : Nat} {σM : St2 × (Nat → Int64)} {l : Nat} (h : σM.1 0 14 = iI (l : Int)) (hl : l < 200) (y1 y2 y3 y4 y5 : Int32) : f_X8_feed_18 N (n + 1) σM y1 y2 y3 y4 y5 17 = f_X8_feed_18 N n (pM σM l (byt y5 16)) y1 y2 y3 y4 y5 18 := by
  rw [f_X8_feed_18, if_neg (by decide), if_pos (by decide), if_pos (by decide), if_pos (by decide), if_pos (by decide), feed71 h hl, show ((8 * (3 - ((17 : Int32) - 17 / 4 * 4))) &&& 31 : Int32) = 16 by decide, show (17 + 1 : Int32) = 18 by decide]
theorem feed_18 {N n : Nat} {σM : St2 × (Nat → Int64)} {l : Nat} (h : σM.1 0 14 = iI (l : Int)) (hl : l < 200) (y1 y2 y3 y4 y5 : Int32) : f_X8_feed_18 N (n + 1) σM y1 y2 y3 y4 y5 18 = f_X8_feed_18 N n (pM σM l (byt y5 8)) y1 y2 y3 y4 y5 19 := by
  rw [f_X8_feed_18, if_neg (by decide), if_pos (by decide), if_pos (by decide), if_pos (by decide), if_pos (by decide), feed71 h hl, show ((8 * (3 - ((18 : Int32) - 18 / 4 * 4))) &&& 31 : Int32) = 8 by decide, show (18 + 1 : Int32) = 19 by decide]
theorem feed_19 {N n : Nat} {σM : St2 × (Nat → Int64)} {l : Nat} (h : σM.1 0 14 = iI (l : Int)) (hl : l < 200) (y1 y2 y3 y4 y5 : Int32) : f_X8_feed_18 N (n + 1) σM y1 y2 y3 y4 y5 19 = f_X8_feed_18 N n (pM σM l (byt y5 0)) y1 y2 y3 y4 y5 20 := by
  rw [f_X8_feed_18, if_neg (by decide), if_pos (by decide), if_pos (by decide), if_pos (by decide), if_pos (by decide), feed71 h hl, show ((8 * (3 - ((19 : Int32) - 19 / 4 * 4))) &&& 31 : Int32) = 0 by decide, show (19 + 1 : Int32) = 20 by decide]
theorem feed_eq {N : Nat} (hN : 30 ≤ N) {σS σT σR : St2} {σV : St2 × (Nat → Nat)} {σQ : Nat → (St2 × Int64)} {σD : St2} {ra : Value} {σM : St2 × (Nat → Int64)} {l : Nat} (h : TapeI σT σM.1 l) (y1 y2 y3 y4 y5 : Int32) : ∃ (o : Int32) (σT' σ' : St2) (l' : Nat), f_X7_feed N σS σT σR σV σQ σD ra y1 y2 y3 y4 y5 = some (o, σT') ∧ f_X8_feed N σM y1 y2 y3 y4 y5 = some (o, (σ', σM.2)) ∧ TapeI σT' σ' l' ∧ (∀ i, i ≠ 14 → σ' 0 i = σM.1 0 i) ∧ (∀ j, j ≠ 0 → j ≠ 14 → σ' j = σM.1 j) := by
  have hh := h
  obtain ⟨b1, b2, b3, b4⟩ := h
  unfold f_X7_feed f_X8_feed f_X6_hasRoom f_X6_size
  rw [b2, b3, show (20 : Int32) = iI 20 from rfl, show (200 : Int32) = iI 200 from rfl, iI_add]
  by_cases c : l + 20 ≤ 200
  · rw [if_neg (c := iI 200 < iI ((l : Int) + 20)) (by rw [iI_lt (by omega) (by omega) (by omega) (by omega)]; omega), if_neg bI_t, if_pos (by rw [iI_le (by omega) (by omega) (by omega) (by omega)]; omega)]
    obtain ⟨n, rfl⟩ : ∃ n, N = n + 21 := ⟨N - 21, by omega⟩
    rw [addNumber_eq (by omega) (l := l) b2 (by omega), Option.bind_some, addNumber_eq (by omega) (l := l + 4) rfl (by omega), Option.bind_some, addNumber_eq (by omega) (l := l + 8) rfl (by omega), Option.bind_some, addNumber_eq (by omega) (l := l + 12) rfl (by omega), Option.bind_some, addNumber_eq (by omega) (l := l + 16) rfl (by omega), Option.bind_some]
    rw [feed_0 (l := l) b3 (by omega), feed_1 (l := l + 1) rfl (by omega), feed_2 (l := l + 2) rfl (by omega), feed_3 (l := l + 3) rfl (by omega), feed_4 (l := l + 4) rfl (by omega), feed_5 (l := l + 5) rfl (by omega), feed_6 (l := l + 6) rfl (by omega), feed_7 (l := l + 7) rfl (by omega), feed_8 (l := l + 8) rfl (by omega), feed_9 (l := l + 9) rfl (by omega), feed_10 (l := l + 10) rfl (by omega), feed_11 (l := l + 11) rfl (by omega), feed_12 (l := l + 12) rfl (by omega), feed_13 (l := l + 13) rfl (by omega), feed_14 (l := l + 14) rfl (by omega), feed_15 (l := l + 15) rfl (by omega), feed_16 (l := l + 16) rfl (by omega), feed_17 (l := l + 17) rfl (by omega), feed_18 (l := l + 18) rfl (by omega), feed_19 (l := l + 19) rfl (by omega), f_X8_feed_18, if_pos (by decide)]
    have t0 := put_eq hh (by omega) y1 24
    have t1 := put_eq t0 (by omega) y1 16
    have t2 := put_eq t1 (by omega) y1 8
    have t3 := put_eq t2 (by omega) y1 0
    have t4 := put_eq t3 (by omega) y2 24
    have t5 := put_eq t4 (by omega) y2 16
    have t6 := put_eq t5 (by omega) y2 8
    have t7 := put_eq t6 (by omega) y2 0
    have t8 := put_eq t7 (by omega) y3 24
    have t9 := put_eq t8 (by omega) y3 16
    have t10 := put_eq t9 (by omega) y3 8
    have t11 := put_eq t10 (by omega) y3 0
    have t12 := put_eq t11 (by omega) y4 24
    have t13 := put_eq t12 (by omega) y4 16
    have t14 := put_eq t13 (by omega) y4 8
    have t15 := put_eq t14 (by omega) y4 0
    have t16 := put_eq t15 (by omega) y5 24
    have t17 := put_eq t16 (by omega) y5 16
    have t18 := put_eq t17 (by omega) y5 8
    have t19 := put_eq t18 (by omega) y5 0
    refine ⟨_, _, _, _, rfl, rfl, t19, ?_, ?_⟩
    · intro i hi
      show ((pM (pM (pM (pM (pM (pM (pM (pM (pM (pM (pM (pM (pM (pM (pM (pM (pM (pM (pM (pM σM l (byt y1 24)) (l + 1) (byt y1 16)) (l + 2) (byt y1 8)) (l + 3) (byt y1 0)) (l + 4) (byt y2 24)) (l + 5) (byt y2 16)) (l + 6) (byt y2 8)) (l + 7) (byt y2 0)) (l + 8) (byt y3 24)) (l + 9) (byt y3 16)) (l + 10) (byt y3 8)) (l + 11) (byt y3 0)) (l + 12) (byt y4 24)) (l + 13) (byt y4 16)) (l + 14) (byt y4 8)) (l + 15) (byt y4 0)) (l + 16) (byt y5 24)) (l + 17) (byt y5 16)) (l + 18) (byt y5 8)) (l + 19) (byt y5 0))).1 0 i = σM.1 0 i
      repeat rw [pM_0 hi]
    · intro j h0 h14
      show ((pM (pM (pM (pM (pM (pM (pM (pM (pM (pM (pM (pM (pM (pM (pM (pM (pM (pM (pM (pM σM l (byt y1 24)) (l + 1) (byt y1 16)) (l + 2) (byt y1 8)) (l + 3) (byt y1 0)) (l + 4) (byt y2 24)) (l + 5) (byt y2 16)) (l + 6) (byt y2 8)) (l + 7) (byt y2 0)) (l + 8) (byt y3 24)) (l + 9) (byt y3 16)) (l + 10) (byt y3 8)) (l + 11) (byt y3 0)) (l + 12) (byt y4 24)) (l + 13) (byt y4 16)) (l + 14) (byt y4 8)) (l + 15) (byt y4 0)) (l + 16) (byt y5 24)) (l + 17) (byt y5 16)) (l + 18) (byt y5 8)) (l + 19) (byt y5 0))).1 j = σM.1 j
      repeat rw [pM_r h0 h14]
  · rw [if_pos (c := iI 200 < iI ((l : Int) + 20)) (by rw [iI_lt (by omega) (by omega) (by omega) (by omega)]; omega), if_pos bI_f, if_neg (by rw [iI_le (by omega) (by omega) (by omega) (by omega)]; omega)]
    exact ⟨-1, σT, σM.1, l, rfl, rfl, hh, fun _ _ => rfl, fun _ _ _ => rfl⟩
