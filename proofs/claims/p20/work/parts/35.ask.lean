/-! questions about the list -/
theorem gD_l {L : List Nat} {i k : Nat} (h : i < L.length) : (L ++ [k]).getD i 0 = L.getD i 0 := by
  rw [List.getD_eq_getElem?_getD, List.getD_eq_getElem?_getD, List.getElem?_append_left h]
theorem gD_r (L : List Nat) (k : Nat) : (L ++ [k]).getD L.length 0 = k := by
  rw [List.getD_eq_getElem?_getD, List.getElem?_append_right (Nat.le_refl _), Nat.sub_self]
  rfl
theorem EL_at (a f : Int) : ∀ n i, i < (EL a f n).length → (EL a f n).getD i 0 < n ∧ knd a f ((EL a f n).getD i 0 : Nat) ≠ 0
  | 0, _, h => absurd h (Nat.not_lt_zero _)
  | n + 1, i, h => by
    rw [EL_succ] at h ⊢
    by_cases e : knd a f (n : Int) = 0
    · rw [if_neg (by simp [e]), List.append_nil] at h ⊢
      have := EL_at a f n i h
      exact ⟨by omega, this.2⟩
    · rw [if_pos e] at h ⊢
      rw [List.length_append] at h
      have h' : i < (EL a f n).length + 1 := h
      by_cases ei : i = (EL a f n).length
      · rw [ei, gD_r]
        exact ⟨by omega, e⟩
      · rw [gD_l (by omega)]
        have := EL_at a f n i (by omega)
        exact ⟨by omega, this.2⟩
theorem EL_up (a f : Int) : ∀ n i j, i < j → j < (EL a f n).length → (EL a f n).getD i 0 < (EL a f n).getD j 0
  | 0, _, _, _, h => absurd h (Nat.not_lt_zero _)
  | n + 1, i, j, hij, h => by
    rw [EL_succ] at h ⊢
    by_cases e : knd a f (n : Int) = 0
    · rw [if_neg (by simp [e]), List.append_nil] at h ⊢
      exact EL_up a f n i j hij h
    · rw [if_pos e] at h ⊢
      rw [List.length_append] at h
      have h' : j < (EL a f n).length + 1 := h
      rw [gD_l (i := i) (by omega)]
      by_cases ej : j = (EL a f n).length
      · rw [ej, gD_r]
        exact (EL_at a f n i (by omega)).1
      · rw [gD_l (by omega)]
        exact EL_up a f n i j hij (by omega)
theorem and1 (x : Int32) : x &&& 1 = 0 ∨ x &&& 1 = 1 := by
  have h : (x &&& 1).toBitVec.toNat = x.toBitVec.toNat % 2 := by
    rw [Int32.toBitVec_and, BitVec.toNat_and]
    exact Nat.and_one_is_mod _
  cases Nat.mod_two_eq_zero_or_one x.toBitVec.toNat with
  | inl h0 =>
    left
    apply Int32.toBitVec_inj.mp
    apply BitVec.eq_of_toNat_eq
    rw [h, h0]
    rfl
  | inr h0 =>
    right
    apply Int32.toBitVec_inj.mp
    apply BitVec.eq_of_toNat_eq
    rw [h, h0]
    rfl
theorem bI_t : ¬ bI true = 0 := by decide
theorem bI_f : bI false = 0 := by decide
theorem same_rows {σS σM : St2} {a b f : Int} (hS : SkyOf σS a b f) (hM : ModOf σM a b f) {i : Nat} (hi : i < (EL a f 12001).length) : σS 7 i = σM 6 i ∧ σS 8 i = σM 7 i ∧ σS 9 i = σM 8 i := by
  have h1 := hS.2.2.2.2.2 i hi
  have h2 := hM.2.2.2.2.2 i hi
  exact ⟨h1.1.trans h2.1.symm, h1.2.1.trans h2.2.1.symm, h1.2.2.trans h2.2.2.symm⟩
theorem find_zero (N : Nat) {σS : St2} {σM : St2 × (Nat → Int64)} {c : Nat} (hl : c ≤ 1799) (hm4 : σM.1 0 4 = iI (c : Nat)) (y1 y3 y5 : Int32) (n n' : Nat) : f_X5_findEclipse_12 N (n + 1) σS y1 y3 (iI (c : Nat)) y5 (iI (c : Nat)) = some (-1, σS) ∧ f_X8_next_24 N (n' + 1) σM y1 y3 y5 (iI (c : Nat)) = some (-1, σM) := by
  have h : iI (c : Int) ≤ iI (c : Int) := by rw [iI_le (by omega) (by omega) (by omega) (by omega)]; omega
  constructor
  · unfold f_X5_findEclipse_12
    rw [if_pos h]
  · unfold f_X8_next_24
    rw [hm4, if_pos h]
theorem fs_a (N : Nat) {σS : St2} {σM : St2 × (Nat → Int64)} {c : Nat} (hl : c ≤ 1799) (hm4 : σM.1 0 4 = iI (c : Nat)) (y1 y3 y5 : Int32) {i : Nat} (hi : i < c) (hr : σS 7 i = σM.1 6 i ∧ σS 8 i = σM.1 7 i) (n n' : Nat) (c1 : σM.1 6 i < y1) : f_X5_findEclipse_12 N (n + 1) σS y1 y3 (iI (c : Nat)) y5 (iI i) = f_X5_findEclipse_12 N n σS y1 y3 (iI (c : Nat)) y5 (iI i + 1) := by
  have ix1 : ¬ (iI (i : Int) < 0 ∨ 1800 ≤ Int32.toNatClampNeg (iI (i : Int))) := ix_no (n := 1800) (by omega) (by omega) (by omega)
  have ix2 : ¬ (iI (i : Int) < 0 ∨ 12001 ≤ Int32.toNatClampNeg (iI (i : Int))) := ix_no (n := 12001) (by omega) (by omega) (by omega)
  have cle : ¬ iI (c : Int) ≤ iI (i : Int) := by rw [iI_le (by omega) (by omega) (by omega) (by omega)]; omega
  have cl : Int32.toNatClampNeg (iI (i : Int)) = i := by rw [iI_clamp (by omega) (by omega), Int.toNat_natCast]
  have jx1 := ix1
  have jx2 := ix2
  rw [cl] at jx1 jx2
  rw [f_X5_findEclipse_12]
  rw [if_neg cle, if_neg ix1, cl, hr.1]
  rw [if_pos c1]
  rfl
theorem fm_a (N : Nat) {σS : St2} {σM : St2 × (Nat → Int64)} {c : Nat} (hl : c ≤ 1799) (hm4 : σM.1 0 4 = iI (c : Nat)) (y1 y3 y5 : Int32) {i : Nat} (hi : i < c) (hr : σS 7 i = σM.1 6 i ∧ σS 8 i = σM.1 7 i) (n n' : Nat) (c1 : σM.1 6 i < y1) : f_X8_next_24 N (n' + 1) σM y1 y3 y5 (iI i) = f_X8_next_24 N n' σM y1 y3 y5 (iI i + 1) := by
  have ix1 : ¬ (iI (i : Int) < 0 ∨ 1800 ≤ Int32.toNatClampNeg (iI (i : Int))) := ix_no (n := 1800) (by omega) (by omega) (by omega)
  have ix2 : ¬ (iI (i : Int) < 0 ∨ 12001 ≤ Int32.toNatClampNeg (iI (i : Int))) := ix_no (n := 12001) (by omega) (by omega) (by omega)
  have cle : ¬ iI (c : Int) ≤ iI (i : Int) := by rw [iI_le (by omega) (by omega) (by omega) (by omega)]; omega
  have cl : Int32.toNatClampNeg (iI (i : Int)) = i := by rw [iI_clamp (by omega) (by omega), Int.toNat_natCast]
  have jx1 := ix1
  have jx2 := ix2
  rw [cl] at jx1 jx2
  rw [f_X8_next_24]
  rw [hm4, if_neg cle, if_neg ix2, cl]
  rw [if_pos c1]
  rfl
theorem fs_b (N : Nat) {σS : St2} {σM : St2 × (Nat → Int64)} {c : Nat} (hl : c ≤ 1799) (hm4 : σM.1 0 4 = iI (c : Nat)) (y1 y3 y5 : Int32) {i : Nat} (hi : i < c) (hr : σS 7 i = σM.1 6 i ∧ σS 8 i = σM.1 7 i) (n n' : Nat) (c1 : ¬ σM.1 6 i < y1) (c2 : y3 >>> (σM.1 7 i &&& 31) &&& 1 = 0) : f_X5_findEclipse_12 N (n + 1) σS y1 y3 (iI (c : Nat)) y5 (iI i) = f_X5_findEclipse_12 N n σS y1 y3 (iI (c : Nat)) y5 (iI i + 1) := by
  have ix1 : ¬ (iI (i : Int) < 0 ∨ 1800 ≤ Int32.toNatClampNeg (iI (i : Int))) := ix_no (n := 1800) (by omega) (by omega) (by omega)
  have ix2 : ¬ (iI (i : Int) < 0 ∨ 12001 ≤ Int32.toNatClampNeg (iI (i : Int))) := ix_no (n := 12001) (by omega) (by omega) (by omega)
  have cle : ¬ iI (c : Int) ≤ iI (i : Int) := by rw [iI_le (by omega) (by omega) (by omega) (by omega)]; omega
  have cl : Int32.toNatClampNeg (iI (i : Int)) = i := by rw [iI_clamp (by omega) (by omega), Int.toNat_natCast]
  have jx1 := ix1
  have jx2 := ix2
  rw [cl] at jx1 jx2
  have hA : f_X5_isAsked σS (iI i) y3 = some false := by
    unfold f_X5_isAsked
    rw [if_neg ix1, cl, hr.2, if_pos c2]
  rw [f_X5_findEclipse_12]
  rw [if_neg cle, if_neg ix1, cl, hr.1]
  rw [if_neg c1, hA, Option.bind_some, if_pos bI_f]
  rfl
theorem fm_b (N : Nat) {σS : St2} {σM : St2 × (Nat → Int64)} {c : Nat} (hl : c ≤ 1799) (hm4 : σM.1 0 4 = iI (c : Nat)) (y1 y3 y5 : Int32) {i : Nat} (hi : i < c) (hr : σS 7 i = σM.1 6 i ∧ σS 8 i = σM.1 7 i) (n n' : Nat) (c1 : ¬ σM.1 6 i < y1) (c2 : y3 >>> (σM.1 7 i &&& 31) &&& 1 = 0) : f_X8_next_24 N (n' + 1) σM y1 y3 y5 (iI i) = f_X8_next_24 N n' σM y1 y3 y5 (iI i + 1) := by
  have ix1 : ¬ (iI (i : Int) < 0 ∨ 1800 ≤ Int32.toNatClampNeg (iI (i : Int))) := ix_no (n := 1800) (by omega) (by omega) (by omega)
  have ix2 : ¬ (iI (i : Int) < 0 ∨ 12001 ≤ Int32.toNatClampNeg (iI (i : Int))) := ix_no (n := 12001) (by omega) (by omega) (by omega)
  have cle : ¬ iI (c : Int) ≤ iI (i : Int) := by rw [iI_le (by omega) (by omega) (by omega) (by omega)]; omega
  have cl : Int32.toNatClampNeg (iI (i : Int)) = i := by rw [iI_clamp (by omega) (by omega), Int.toNat_natCast]
  have jx1 := ix1
  have jx2 := ix2
  rw [cl] at jx1 jx2
  rw [f_X8_next_24]
  rw [hm4, if_neg cle, if_neg ix2, cl]
  rw [if_neg c1, if_neg jx2, if_pos c2]
  rfl
theorem fs_c (N : Nat) {σS : St2} {σM : St2 × (Nat → Int64)} {c : Nat} (hl : c ≤ 1799) (hm4 : σM.1 0 4 = iI (c : Nat)) (y1 y3 y5 : Int32) {i : Nat} (hi : i < c) (hr : σS 7 i = σM.1 6 i ∧ σS 8 i = σM.1 7 i) (n n' : Nat) (c1 : ¬ σM.1 6 i < y1) (c2 : ¬ y3 >>> (σM.1 7 i &&& 31) &&& 1 = 0) (c3 : y5 + -1 = 0) : f_X5_findEclipse_12 N (n + 1) σS y1 y3 (iI (c : Nat)) y5 (iI i) = some (σM.1 6 i, σS) := by
  have ix1 : ¬ (iI (i : Int) < 0 ∨ 1800 ≤ Int32.toNatClampNeg (iI (i : Int))) := ix_no (n := 1800) (by omega) (by omega) (by omega)
  have ix2 : ¬ (iI (i : Int) < 0 ∨ 12001 ≤ Int32.toNatClampNeg (iI (i : Int))) := ix_no (n := 12001) (by omega) (by omega) (by omega)
  have cle : ¬ iI (c : Int) ≤ iI (i : Int) := by rw [iI_le (by omega) (by omega) (by omega) (by omega)]; omega
  have cl : Int32.toNatClampNeg (iI (i : Int)) = i := by rw [iI_clamp (by omega) (by omega), Int.toNat_natCast]
  have jx1 := ix1
  have jx2 := ix2
  rw [cl] at jx1 jx2
  have hA : f_X5_isAsked σS (iI i) y3 = some true := by
    unfold f_X5_isAsked
    rw [if_neg ix1, cl, hr.2, if_neg c2]
  rw [f_X5_findEclipse_12]
  rw [if_neg cle, if_neg ix1, cl, hr.1]
  rw [if_neg c1, hA, Option.bind_some, if_neg bI_t, if_pos c3, if_neg jx1]
theorem fm_c (N : Nat) {σS : St2} {σM : St2 × (Nat → Int64)} {c : Nat} (hl : c ≤ 1799) (hm4 : σM.1 0 4 = iI (c : Nat)) (y1 y3 y5 : Int32) {i : Nat} (hi : i < c) (hr : σS 7 i = σM.1 6 i ∧ σS 8 i = σM.1 7 i) (n n' : Nat) (c1 : ¬ σM.1 6 i < y1) (c2 : ¬ y3 >>> (σM.1 7 i &&& 31) &&& 1 = 0) (c3 : y5 + -1 = 0) : f_X8_next_24 N (n' + 1) σM y1 y3 y5 (iI i) = some (σM.1 6 i, σM) := by
  have ix1 : ¬ (iI (i : Int) < 0 ∨ 1800 ≤ Int32.toNatClampNeg (iI (i : Int))) := ix_no (n := 1800) (by omega) (by omega) (by omega)
  have ix2 : ¬ (iI (i : Int) < 0 ∨ 12001 ≤ Int32.toNatClampNeg (iI (i : Int))) := ix_no (n := 12001) (by omega) (by omega) (by omega)
  have cle : ¬ iI (c : Int) ≤ iI (i : Int) := by rw [iI_le (by omega) (by omega) (by omega) (by omega)]; omega
  have cl : Int32.toNatClampNeg (iI (i : Int)) = i := by rw [iI_clamp (by omega) (by omega), Int.toNat_natCast]
  have jx1 := ix1
  have jx2 := ix2
  rw [cl] at jx1 jx2
  rw [f_X8_next_24]
  rw [hm4, if_neg cle, if_neg ix2, cl]
  rw [if_neg c1, if_neg jx2, if_neg c2, if_pos c3, if_neg jx2]
theorem fs_d (N : Nat) {σS : St2} {σM : St2 × (Nat → Int64)} {c : Nat} (hl : c ≤ 1799) (hm4 : σM.1 0 4 = iI (c : Nat)) (y1 y3 y5 : Int32) {i : Nat} (hi : i < c) (hr : σS 7 i = σM.1 6 i ∧ σS 8 i = σM.1 7 i) (n n' : Nat) (c1 : ¬ σM.1 6 i < y1) (c2 : ¬ y3 >>> (σM.1 7 i &&& 31) &&& 1 = 0) (c3 : ¬ y5 + -1 = 0) : f_X5_findEclipse_12 N (n + 1) σS y1 y3 (iI (c : Nat)) y5 (iI i) = f_X5_findEclipse_12 N n σS y1 y3 (iI (c : Nat)) (y5 + -1) (iI i + 1) := by
  have ix1 : ¬ (iI (i : Int) < 0 ∨ 1800 ≤ Int32.toNatClampNeg (iI (i : Int))) := ix_no (n := 1800) (by omega) (by omega) (by omega)
  have ix2 : ¬ (iI (i : Int) < 0 ∨ 12001 ≤ Int32.toNatClampNeg (iI (i : Int))) := ix_no (n := 12001) (by omega) (by omega) (by omega)
  have cle : ¬ iI (c : Int) ≤ iI (i : Int) := by rw [iI_le (by omega) (by omega) (by omega) (by omega)]; omega
  have cl : Int32.toNatClampNeg (iI (i : Int)) = i := by rw [iI_clamp (by omega) (by omega), Int.toNat_natCast]
  have jx1 := ix1
  have jx2 := ix2
  rw [cl] at jx1 jx2
  have hA : f_X5_isAsked σS (iI i) y3 = some true := by
    unfold f_X5_isAsked
    rw [if_neg ix1, cl, hr.2, if_neg c2]
  rw [f_X5_findEclipse_12]
  rw [if_neg cle, if_neg ix1, cl, hr.1]
  rw [if_neg c1, hA, Option.bind_some, if_neg bI_t, if_neg c3]
  rfl
theorem fm_d (N : Nat) {σS : St2} {σM : St2 × (Nat → Int64)} {c : Nat} (hl : c ≤ 1799) (hm4 : σM.1 0 4 = iI (c : Nat)) (y1 y3 y5 : Int32) {i : Nat} (hi : i < c) (hr : σS 7 i = σM.1 6 i ∧ σS 8 i = σM.1 7 i) (n n' : Nat) (c1 : ¬ σM.1 6 i < y1) (c2 : ¬ y3 >>> (σM.1 7 i &&& 31) &&& 1 = 0) (c3 : ¬ y5 + -1 = 0) : f_X8_next_24 N (n' + 1) σM y1 y3 y5 (iI i) = f_X8_next_24 N n' σM y1 y3 (y5 + -1) (iI i + 1) := by
  have ix1 : ¬ (iI (i : Int) < 0 ∨ 1800 ≤ Int32.toNatClampNeg (iI (i : Int))) := ix_no (n := 1800) (by omega) (by omega) (by omega)
  have ix2 : ¬ (iI (i : Int) < 0 ∨ 12001 ≤ Int32.toNatClampNeg (iI (i : Int))) := ix_no (n := 12001) (by omega) (by omega) (by omega)
  have cle : ¬ iI (c : Int) ≤ iI (i : Int) := by rw [iI_le (by omega) (by omega) (by omega) (by omega)]; omega
  have cl : Int32.toNatClampNeg (iI (i : Int)) = i := by rw [iI_clamp (by omega) (by omega), Int.toNat_natCast]
  have jx1 := ix1
  have jx2 := ix2
  rw [cl] at jx1 jx2
  rw [f_X8_next_24]
  rw [hm4, if_neg cle, if_neg ix2, cl]
  rw [if_neg c1, if_neg jx2, if_neg c2, if_neg c3]
  rfl
theorem find_step (N : Nat) {σS : St2} {σM : St2 × (Nat → Int64)} {c : Nat} (hl : c ≤ 1799) (hm4 : σM.1 0 4 = iI (c : Nat)) (y1 y3 y5 : Int32) {i : Nat} (hi : i < c) (hr : σS 7 i = σM.1 6 i ∧ σS 8 i = σM.1 7 i) (n n' : Nat) (IH : ∀ z, ∃ v, f_X5_findEclipse_12 N n σS y1 y3 (iI (c : Nat)) z (iI i + 1) = some (v, σS) ∧ f_X8_next_24 N n' σM y1 y3 z (iI i + 1) = some (v, σM)) : ∃ v, f_X5_findEclipse_12 N (n + 1) σS y1 y3 (iI (c : Nat)) y5 (iI i) = some (v, σS) ∧ f_X8_next_24 N (n' + 1) σM y1 y3 y5 (iI i) = some (v, σM) := by
  by_cases c1 : σM.1 6 i < y1
  · rw [fs_a N hl hm4 y1 y3 y5 hi hr n n' c1, fm_a N hl hm4 y1 y3 y5 hi hr n n' c1]
    exact IH y5
  · by_cases c2 : y3 >>> (σM.1 7 i &&& 31) &&& 1 = 0
    · rw [fs_b N hl hm4 y1 y3 y5 hi hr n n' c1 c2, fm_b N hl hm4 y1 y3 y5 hi hr n n' c1 c2]
      exact IH y5
    · by_cases c3 : y5 + -1 = 0
      · exact ⟨_, fs_c N hl hm4 y1 y3 y5 hi hr n n' c1 c2 c3, fm_c N hl hm4 y1 y3 y5 hi hr n n' c1 c2 c3⟩
      · rw [fs_d N hl hm4 y1 y3 y5 hi hr n n' c1 c2 c3, fm_d N hl hm4 y1 y3 y5 hi hr n n' c1 c2 c3]
        exact IH (y5 + -1)
theorem find_loop (N : Nat) {σS : St2} {σM : St2 × (Nat → Int64)} {a b f : Int} {c : Nat} (hc : (EL a f 12001).length = c) (hf : 0 ≤ f ∧ f < 36000) (hS : SkyOf σS a b f) (hM : ModOf σM.1 a b f) (y1 y3 : Int32) : ∀ (m i n n' : Nat) (y5 : Int32), i + m = c → m < n → m < n' → ∃ v, f_X5_findEclipse_12 N n σS y1 y3 (iI (c : Nat)) y5 (iI i) = some (v, σS) ∧ f_X8_next_24 N n' σM y1 y3 y5 (iI i) = some (v, σM) := by
  have hl : c ≤ 1799 := by rw [← hc]; exact EL_len hf
  have hm4 : σM.1 0 4 = iI (c : Nat) := by rw [← hc]; exact hM.2.2.2.2.1
  have hr : ∀ i, i < c → σS 7 i = σM.1 6 i ∧ σS 8 i = σM.1 7 i := fun i hi => by
    have := same_rows hS hM (i := i) (by rw [hc]; exact hi)
    exact ⟨this.1, this.2.1⟩
  clear hS hM hc
  intro m
  induction m with
  | zero =>
    intro i n n' y5 hi hn hn'
    cases n with
    | zero => exact absurd hn (Nat.not_lt_zero _)
    | succ n =>
      cases n' with
      | zero => exact absurd hn' (Nat.not_lt_zero _)
      | succ n' =>
        rw [show i = c from hi]
        exact ⟨-1, find_zero N hl hm4 y1 y3 y5 n n'⟩
  | succ m ih =>
    intro i n n' y5 hi hn hn'
    cases n with
    | zero => exact absurd hn (Nat.not_lt_zero _)
    | succ n =>
      cases n' with
      | zero => exact absurd hn' (Nat.not_lt_zero _)
      | succ n' =>
        refine find_step N hl hm4 y1 y3 y5 (by omega) (hr i (by omega)) n n' ?_
        intro z
        rw [nx]
        exact ih (i + 1) n n' z (by omega) (by omega) (by omega)
theorem many_none (N : Nat) {σM : St2 × (Nat → Int64)} {a b f : Int} {c : Nat} (hc : (EL a f 12001).length = c) (hf : 0 ≤ f ∧ f < 36000) (hM : ModOf σM.1 a b f) (y1 y2 y3 : Int32) : ∀ (m i n : Nat) (y4 : Int32), i + m = c → m < n → (∀ j, i ≤ j → j < c → y2 < σM.1 6 j) → f_X8_many_31 N n σM y1 y2 y3 y4 (iI i) = some (y4, σM)
  | 0, i, n + 1, y4, hi, _, _ => by
    have hl : c ≤ 1799 := by rw [← hc]; exact EL_len hf
    have hm4 : σM.1 0 4 = iI (c : Nat) := by rw [← hc]; exact hM.2.2.2.2.1
    unfold f_X8_many_31
    rw [hm4, if_pos (by rw [iI_le (by omega) (by omega) (by omega) (by omega)]; omega)]
  | m + 1, i, n + 1, y4, hi, hn, hg => by
    have hl : c ≤ 1799 := by rw [← hc]; exact EL_len hf
    have hm4 : σM.1 0 4 = iI (c : Nat) := by rw [← hc]; exact hM.2.2.2.2.1
    have IH : f_X8_many_31 N n σM y1 y2 y3 y4 (iI i + 1) = some (y4, σM) := by
      rw [nx]
      exact many_none N hc hf hM y1 y2 y3 m (i + 1) n y4 (by omega) (by omega) (fun j h1 h2 => hg j (by omega) h2)
    have ix2 : ¬ (iI (i : Int) < 0 ∨ 12001 ≤ Int32.toNatClampNeg (iI (i : Int))) := ix_no (n := 12001) (by omega) (by omega) (by omega)
    have cle : ¬ iI (c : Int) ≤ iI (i : Int) := by rw [iI_le (by omega) (by omega) (by omega) (by omega)]; omega
    unfold f_X8_many_31 f_X8_many_80
    simp only [hm4, if_neg cle, if_neg ix2]
    simp only [iI_clamp (a := (i : Int)) (by omega) (by omega), Int.toNat_natCast, if_pos (hg i (Nat.le_refl _) (by omega))]
    rw [IH, ite_self]
theorem many_loop (N : Nat) {σS : St2} {σM : St2 × (Nat → Int64)} {a b f : Int} {c : Nat} (hc : (EL a f 12001).length = c) (hf : 0 ≤ f ∧ f < 36000) (hS : SkyOf σS a b f) (hM : ModOf σM.1 a b f) (y1 y2 y3 : Int32) : ∀ (m i n n' : Nat) (y5 : Int32), i + m = c → m < n → m < n' → ∃ v, f_X5_countEclipses_12 N n σS y1 y2 y3 (iI (c : Nat)) y5 (iI i) = some (v, σS) ∧ f_X8_many_31 N n' σM y1 y2 y3 y5 (iI i) = some (v, σM)
  | 0, i, n + 1, n' + 1, y5, hi, _, _ => by
    have hl : c ≤ 1799 := by rw [← hc]; exact EL_len hf
    have hm4 : σM.1 0 4 = iI (c : Nat) := by rw [← hc]; exact hM.2.2.2.2.1
    refine ⟨y5, ?_, ?_⟩
    · unfold f_X5_countEclipses_12
      rw [if_pos (by rw [iI_le (by omega) (by omega) (by omega) (by omega)]; omega)]
    · unfold f_X8_many_31
      rw [hm4, if_pos (by rw [iI_le (by omega) (by omega) (by omega) (by omega)]; omega)]
  | m + 1, i, n + 1, n' + 1, y5, hi, hn, hn' => by
    have hl : c ≤ 1799 := by rw [← hc]; exact EL_len hf
    have hm4 : σM.1 0 4 = iI (c : Nat) := by rw [← hc]; exact hM.2.2.2.2.1
    have hr := same_rows hS hM (i := i) (by rw [hc]; omega)
    have IH : ∀ z, ∃ v, f_X5_countEclipses_12 N n σS y1 y2 y3 (iI (c : Nat)) z (iI i + 1) = some (v, σS) ∧ f_X8_many_31 N n' σM y1 y2 y3 z (iI i + 1) = some (v, σM) := by
      intro z
      rw [nx]
      exact many_loop N hc hf hS hM y1 y2 y3 m (i + 1) n n' z (by omega) (by omega) (by omega)
    have ix1 : ¬ (iI (i : Int) < 0 ∨ 1800 ≤ Int32.toNatClampNeg (iI (i : Int))) := ix_no (n := 1800) (by omega) (by omega) (by omega)
    have ix2 : ¬ (iI (i : Int) < 0 ∨ 12001 ≤ Int32.toNatClampNeg (iI (i : Int))) := ix_no (n := 12001) (by omega) (by omega) (by omega)
    have cle : ¬ iI (c : Int) ≤ iI (i : Int) := by rw [iI_le (by omega) (by omega) (by omega) (by omega)]; omega
    by_cases c0 : y2 < σM.1 6 i
    · refine ⟨y5, ?_, ?_⟩
      · unfold f_X5_countEclipses_12
        simp only [if_neg cle, if_neg ix1]
        simp only [iI_clamp (a := (i : Int)) (by omega) (by omega), Int.toNat_natCast, hr.1, if_pos c0]
      · refine many_none N hc hf hM y1 y2 y3 (m + 1) i (n' + 1) y5 hi hn' ?_
        intro j h1 h2
        by_cases ej : j = i
        · rw [ej]; exact c0
        · have g1 := EL_up a f 12001 i j (by omega) (by rw [hc]; exact h2)
          have g2 := (EL_at a f 12001 j (by rw [hc]; exact h2)).1
          have v1 := (hM.2.2.2.2.2 i (by rw [hc]; omega)).1
          have v2 := (hM.2.2.2.2.2 j (by rw [hc]; exact h2)).1
          rw [v2]
          rw [v1] at c0
          refine Int32.lt_iff_toInt_lt.mpr ?_
          have c0' := Int32.lt_iff_toInt_lt.mp c0
          rw [iI_toInt (by omega) (by omega)] at c0' ⊢
          omega
    · unfold f_X5_countEclipses_12 f_X8_many_31 f_X5_isAsked f_X5_countEclipses_54 f_X8_many_80
      simp only [hm4, if_neg cle, if_neg ix1, if_neg ix2]
      simp only [iI_clamp (a := (i : Int)) (by omega) (by omega), Int.toNat_natCast, hr.1, hr.2.1, if_neg c0]
      by_cases c1 : σM.1 6 i < y1
      · simp only [if_pos c1]
        exact IH y5
      · simp only [if_neg c1]
        by_cases c2 : y3 >>> (σM.1 7 i &&& 31) &&& 1 = 0
        · have c3 : ¬ y3 >>> (σM.1 7 i &&& 31) &&& 1 = 1 := by rw [c2]; decide
          simp only [if_pos c2, if_neg c3, Option.bind_some, if_pos bI_f]
          exact IH y5
        · have c3 := (and1 _).resolve_left c2
          simp only [if_neg c2, if_pos c3, Option.bind_some, if_neg bI_t]
          exact IH (y5 + 1)
