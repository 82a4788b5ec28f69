/-! record: numbers -/
def dv (r : Nat → Int32) : Nat → Nat → Int32 → Int32
  | _, 0, a => a
  | i, k + 1, a => dv r (i + 1) k (10 * a + r i - 48)
theorem dig_t {x : Int32} (h : f_X6_isDigit x = true) : 48 ≤ x.toInt ∧ x.toInt ≤ 57 := by
  unfold f_X6_isDigit at h
  by_cases h1 : x < 48
  · rw [if_pos h1] at h; exact absurd h (by decide)
  · rw [if_neg h1] at h
    by_cases h2 : 57 < x
    · rw [if_pos h2] at h; exact absurd h (by decide)
    · rw [Int32.lt_iff_toInt_lt] at h1 h2
      rw [show (48 : Int32) = iI 48 from rfl, iI_toInt (by omega) (by omega)] at h1
      rw [show (57 : Int32) = iI 57 from rfl, iI_toInt (by omega) (by omega)] at h2
      omega
theorem dg_nl {r : Nat → Int32} {i : Nat} (h : dgq r i = true) : ¬ ltq r i = true := by
  have h1 := dig_t (x := r i) h
  unfold ltq f_X6_isLetter
  rw [if_pos (show r i < 97 by rw [Int32.lt_iff_toInt_lt, show (97 : Int32) = iI 97 from rfl, iI_toInt (by omega) (by omega)]; omega)]
  decide
theorem srt_2 {r : Nat → Int32} {l s : Nat} {e : Int} : srt r l s e = 2 ↔ s < l ∧ dgq r s = true ∧ ¬ (s : Int) = e := by
  unfold srt
  by_cases c : s < l
  · rw [if_pos c]
    by_cases c1 : dgq r s = true
    · rw [if_neg (dg_nl c1), if_pos c1]
      by_cases c2 : (s : Int) = e
      · rw [if_pos c2]; exact ⟨fun g => by omega, fun g => absurd c2 g.2.2⟩
      · rw [if_neg c2]; exact ⟨fun _ => ⟨c, c1, c2⟩, fun _ => rfl⟩
    · rw [if_neg c1]
      refine ⟨fun g => ?_, fun g => absurd g.2.1 c1⟩
      split at g
      · split at g <;> omega
      · omega
  · rw [if_neg c]
    exact ⟨fun g => by omega, fun g => absurd g.1 c⟩
theorem num40 {N : Nat} {r : Nat → Int32} {l s : Nat} (hl : l ≤ 200) (hs : s ≤ l) (ht : rn (dgq r) l s ≤ s + 3) (lo hi : Int32) : ∀ (m i n : Nat) (a : Int32) (σ : St2 × (Nat → Int64)), i + m = rn (dgq r) l s → s ≤ i → m < n → σ.1 0 15 = iI (i : Nat) → σ.1 0 16 = iI (l : Nat) → σ.1 14 = r → f_X8_number_40 N n σ lo hi (iI (s : Nat)) a = f_X8_number_120 N (up2 σ.1 0 15 (iI (rn (dgq r) l s : Nat)), σ.2) lo hi (iI (s : Nat)) (dv r i m a)
  | 0, i, n + 1, a, σ, hm, hi', _, h15, h16, h14 => by
    have hr := rn_le (dgq r) l (l - s) s (by omega)
    have e : i = rn (dgq r) l s := by omega
    rw [f_X8_number_40, h15, h16, dv]
    by_cases c : l ≤ i
    · rw [if_pos (by rw [iI_le (by omega) (by omega) (by omega) (by omega)]; omega), ← e, ← h15, u2s]
    · have hst := rn_stop (dgq r) l (l - s) s (by omega) (by omega)
      rw [← e] at hst
      rw [if_neg (by rw [iI_le (by omega) (by omega) (by omega) (by omega)]; omega), if_neg (ix_no (by omega) (by omega) (by omega)), iI_clamp (by omega) (by omega), show ((i : Int)).toNat = i from rfl, h14, if_pos (show bI (f_X8_isDigit (r i)) = 0 by rw [show f_X8_isDigit (r i) = false from hst]; exact bI_f), ← e, ← h15, u2s]
  | m + 1, i, n + 1, a, σ, hm, hi', hn, h15, h16, h14 => by
    have hr := rn_le (dgq r) l (l - s) s (by omega)
    have hd := rn_all (dgq r) l (l - s) s (by omega) i hi' (by omega)
    rw [f_X8_number_40, h15, h16, if_neg (by rw [iI_le (by omega) (by omega) (by omega) (by omega)]; omega), if_neg (ix_no (by omega) (by omega) (by omega)), if_neg (ix_no (by omega) (by omega) (by omega)), iI_clamp (by omega) (by omega), show ((i : Int)).toNat = i from rfl, h14, if_neg (show ¬ bI (f_X8_isDigit (r i)) = 0 by rw [show f_X8_isDigit (r i) = true from hd]; exact bI_t), iI_sub, if_neg (by rw [show (3 : Int32) = iI 3 from rfl, iI_eq (by omega) (by omega) (by omega) (by omega)]; omega), nx]
    unfold lt
    dsimp only
    have a15 : up2 σ.1 0 15 (iI ((i + 1 : Nat) : Int)) 0 15 = iI ((i + 1 : Nat) : Int) := u2e _ _ _ _
    have a16 : up2 σ.1 0 15 (iI ((i + 1 : Nat) : Int)) 0 16 = iI (l : Nat) := by rw [u2n _ (Or.inr (by omega))]; exact h16
    have a14 : up2 σ.1 0 15 (iI ((i + 1 : Nat) : Int)) 14 = r := by rw [u2r _ (by omega)]; exact h14
    rw [num40 hl hs ht lo hi m (i + 1) n _ (up2 σ.1 0 15 (iI ((i + 1 : Nat) : Int)), σ.2) (by omega) (by omega) (by omega) a15 a16 a14, dv]
    dsimp only
    rw [u2u]
theorem num40b {N : Nat} {r : Nat → Int32} {l s : Nat} (hl : l ≤ 200) (hs : s ≤ l) (ht : s + 3 < rn (dgq r) l s) (lo hi : Int32) : ∀ (m i n : Nat) (a : Int32) (σ : St2 × (Nat → Int64)), i + m = s + 3 → s ≤ i → m < n → σ.1 0 15 = iI (i : Nat) → σ.1 0 16 = iI (l : Nat) → σ.1 14 = r → f_X8_number_40 N n σ lo hi (iI (s : Nat)) a = some (0, f_X8_fail (up2 σ.1 0 15 (iI ((s + 3 : Nat) : Int)), σ.2) 1 (iI ((s + 3 : Nat) : Int)))
  | 0, i, n + 1, a, σ, hm, hi', _, h15, h16, h14 => by
    have hr := rn_le (dgq r) l (l - s) s (by omega)
    have hd := rn_all (dgq r) l (l - s) s (by omega) i hi' (by omega)
    have e : i = s + 3 := by omega
    rw [f_X8_number_40, h15, h16, if_neg (by rw [iI_le (by omega) (by omega) (by omega) (by omega)]; omega), if_neg (ix_no (by omega) (by omega) (by omega)), iI_clamp (by omega) (by omega), show ((i : Int)).toNat = i from rfl, h14, if_neg (show ¬ bI (f_X8_isDigit (r i)) = 0 by rw [show f_X8_isDigit (r i) = true from hd]; exact bI_t), iI_sub, if_pos (by rw [show (3 : Int32) = iI 3 from rfl, iI_eq (by omega) (by omega) (by omega) (by omega)]; omega), ← e, ← h15, u2s]
  | m + 1, i, n + 1, a, σ, hm, hi', hn, h15, h16, h14 => by
    have hr := rn_le (dgq r) l (l - s) s (by omega)
    have hd := rn_all (dgq r) l (l - s) s (by omega) i hi' (by omega)
    rw [f_X8_number_40, h15, h16, if_neg (by rw [iI_le (by omega) (by omega) (by omega) (by omega)]; omega), if_neg (ix_no (by omega) (by omega) (by omega)), if_neg (ix_no (by omega) (by omega) (by omega)), iI_clamp (by omega) (by omega), show ((i : Int)).toNat = i from rfl, h14, if_neg (show ¬ bI (f_X8_isDigit (r i)) = 0 by rw [show f_X8_isDigit (r i) = true from hd]; exact bI_t), iI_sub, if_neg (by rw [show (3 : Int32) = iI 3 from rfl, iI_eq (by omega) (by omega) (by omega) (by omega)]; omega), nx]
    unfold lt
    dsimp only
    have a15 : up2 σ.1 0 15 (iI ((i + 1 : Nat) : Int)) 0 15 = iI ((i + 1 : Nat) : Int) := u2e _ _ _ _
    have a16 : up2 σ.1 0 15 (iI ((i + 1 : Nat) : Int)) 0 16 = iI (l : Nat) := by rw [u2n _ (Or.inr (by omega))]; exact h16
    have a14 : up2 σ.1 0 15 (iI ((i + 1 : Nat) : Int)) 14 = r := by rw [u2r _ (by omega)]; exact h14
    rw [num40b hl hs ht lo hi m (i + 1) n _ (up2 σ.1 0 15 (iI ((i + 1 : Nat) : Int)), σ.2) (by omega) (by omega) (by omega) a15 a16 a14]
    dsimp only
    rw [u2u]
def fin50 (σD : St2) (σA : St2 × Int64) (p : Nat) (v : Int32) : Option (Bool × St2 × (St2 × Int64)) := if v < sF 2 p then some (false, up2 (up2 σD 0 9 4) 0 10 (σD 0 4), σA) else if v ≤ sF 3 p then some (true, σD, (up2 σA.1 5 p v, σA.2)) else some (false, up2 (up2 σD 0 9 4) 0 10 (σD 0 4), σA)
theorem num50 {N : Nat} {σT σD : St2} {σA : St2 × Int64} {r : Nat → Int32} {l t p : Nat} (h : TxT σT r l) (hp : p < 4) (ht : t ≤ l) (h5 : σD 0 5 = iI (t : Nat)) : ∀ (m i n : Nat) (a : Int32), i + m = t → m < n → f_X3_readNumber_50 N n σD σT σA (iI (p : Nat)) a (iI (i : Nat)) = fin50 σD σA p (dv r i m a)
  | 0, i, n + 1, a, hm, _ => by
    have hl := h.1
    have hn0 : ¬ iI (p : Nat) < 0 := by rw [show (0 : Int32) = iI 0 from rfl, iI_lt (by omega) (by omega) (by omega) (by omega)]; omega
    have hn4 : ¬ (4 : Int32) ≤ iI (p : Nat) := by rw [show (4 : Int32) = iI 4 from rfl, iI_le (by omega) (by omega) (by omega) (by omega)]; omega
    have hix : ¬ (iI (p : Nat) < 0 ∨ 4 ≤ Int32.toNatClampNeg (iI (p : Nat))) := ix_no (by omega) (by omega) (by omega)
    rw [f_X3_readNumber_50, h5, if_pos (by rw [iI_le (by omega) (by omega) (by omega) (by omega)]; omega), if_neg hn0, if_neg hn4, if_neg hix, if_neg hix]
    unfold f_X0_setNumber
    rw [if_neg hn0, if_neg hn4, if_neg hix, iI_clamp (by omega) (by omega), Option.bind_some]
    rfl
  | m + 1, i, n + 1, a, hm, hn => by
    have hl := h.1
    rw [f_X3_readNumber_50, h5, if_neg (by rw [iI_le (by omega) (by omega) (by omega) (by omega)]; omega), byteAt_eq h (by omega), if_pos (by omega), Option.bind_some, nx, num50 h hp ht h5 m (i + 1) n _ (by omega) (by omega), dv, Int32.mul_comm a 10]
theorem isIn_eq (v lo hi : Int32) : (bI (f_X8_isIn v lo hi) = 0) ↔ (v < lo ∨ ¬ v ≤ hi) := by
  unfold f_X8_isIn
  by_cases c : v < lo
  · rw [if_pos c]; exact ⟨fun _ => Or.inl c, fun _ => bI_f⟩
  · rw [if_neg c]
    by_cases d : hi < v
    · rw [if_pos d]
      refine ⟨fun _ => Or.inr (fun g => ?_), fun _ => bI_f⟩
      rw [Int32.lt_iff_toInt_lt] at d
      rw [Int32.le_iff_toInt_le] at g
      omega
    · rw [if_neg d]
      refine ⟨fun g => absurd g bI_t, fun g => g.elim (fun k => absurd k c) (fun k => ?_)⟩
      exfalso
      apply k
      rw [Int32.le_iff_toInt_le]
      rw [Int32.lt_iff_toInt_lt] at d
      omega
theorem number_eq {N : Nat} (hN : 12002 ≤ N) (c : Nat) {σT σD : St2} {σA : St2 × Int64} {r : Nat → Int32} {l : Nat} (hT : TxT σT r l) {s p : Nat} (hp : p < 4) {e : Int} {σM : St2 × (Nat → Int64)} (h : PS σD σM.1 r l s e) : (∃ (σD' σ' : St2) (v : Int32), f_X3_readNumber N σD σT σA (iI (p : Nat)) = some (false, σD', σA) ∧ f_X8_number N σM (sF 2 p) (sF 3 p) = some (v, (σ', σM.2)) ∧ FR σD' σ' ∧ offR c σ' σM.1) ∨ (∃ (σ' : St2) (v : Int32), f_X3_readNumber N σD σT σA (iI (p : Nat)) = some (true, σD, (up2 σA.1 5 p v, σA.2)) ∧ f_X8_number N σM (sF 2 p) (sF 3 p) = some (v, (σ', σM.2)) ∧ Pend σD σ' r l (stp r l s) ∧ offL σ' σM.1 ∧ ¬ v < sF 2 p ∧ v ≤ sF 3 p) := by
  obtain ⟨⟨hs, hb, h4, h3, h5⟩, he, ⟨q, hq, hsk, h15⟩, h17, hE⟩ := h
  have hEE := hE
  obtain ⟨g16, g14, gw, g18, g19⟩ := hE
  have hl := hT.1
  have hsr := srt_rng r l s e
  have e1 := next_at hN hl hq h15 g16 g14
  rw [hsk] at e1
  have hσ15 : up2 σM.1 0 15 (iI (s : Nat)) 0 15 = iI (s : Nat) := u2e _ _ _ _
  have hσ14 : up2 σM.1 0 15 (iI (s : Nat)) 14 = r := by rw [u2r _ (by omega)]; exact g14
  have hσ16 : up2 σM.1 0 15 (iI (s : Nat)) 0 16 = iI (l : Nat) := by rw [u2n _ (Or.inr (by omega))]; exact g16
  have hσ17 : up2 σM.1 0 15 (iI (s : Nat)) 0 17 = iI e := by rw [u2n _ (Or.inr (by omega))]; exact h17
  have hσ18 : up2 σM.1 0 15 (iI (s : Nat)) 0 18 = 0 := by rw [u2n _ (Or.inr (by omega))]; exact g18
  unfold f_X3_readNumber f_X8_number
  rw [e1, Option.bind_some, h3]
  dsimp only
  by_cases c2 : s < l ∧ dgq r s = true ∧ ¬ (s : Int) = e
  · have hst : stp r l s = rn (dgq r) l s := by
      unfold stp
      rw [if_pos c2.1, if_neg (dg_nl c2.2.1), if_pos c2.2.1]
    have hr := rn_le (dgq r) l (l - s) s (by omega)
    have hst2 := srt_2.mpr c2
    rw [if_pos (show iI (srt r l s e) = 2 by rw [hst2]; rfl), if_neg (show ¬ bI (f_X8_isDigit (nxv r l s)) = 0 by unfold nxv; rw [if_pos c2.1, show f_X8_isDigit (r s) = true from c2.2.1]; exact bI_t), if_neg (show ¬ up2 σM.1 0 15 (iI (s : Nat)) 0 15 = up2 σM.1 0 15 (iI (s : Nat)) 0 17 by rw [hσ15, hσ17, iI_eq (by omega) (by omega) (by omega) (by omega)]; exact c2.2.2), h5, h4, iI_sub, hst, hσ15]
    by_cases c3 : rn (dgq r) l s ≤ s + 3
    · rw [if_pos (by rw [show (3 : Int32) = iI 3 from rfl, iI_le (by omega) (by omega) (by omega) (by omega)]; omega), num50 hT hp (t := rn (dgq r) l s) (by omega) (by rw [h5, hst]) (rn (dgq r) l s - s) s N 0 (by omega) (by omega), num40 hl hs c3 _ _ (rn (dgq r) l s - s) s N 0 (up2 σM.1 0 15 (iI (s : Nat)), σM.2) (by omega) (by omega) (by omega) hσ15 hσ16 hσ14]
      generalize dv r s (rn (dgq r) l s - s) 0 = v
      unfold fin50 f_X8_number_120 lt
      dsimp only
      rw [u2u, u2e]
      by_cases cb : bI (f_X8_isIn v (sF 2 p) (sF 3 p)) = 0
      · left
        have hf := fail_eq (σM := (up2 (up2 σM.1 0 15 (iI (rn (dgq r) l s : Nat))) 0 17 (iI (rn (dgq r) l s : Nat)), σM.2)) (by show up2 (up2 σM.1 0 15 (iI (rn (dgq r) l s : Nat))) 0 17 (iI (rn (dgq r) l s : Nat)) 0 18 = 0; rw [u2n _ (Or.inr (by omega)), u2n _ (Or.inr (by omega))]; exact g18) 4 (iI (s : Nat))
        rw [if_pos cb, hf, h4]
        rcases (isIn_eq v _ _).mp cb with d | d
        · rw [if_pos d]
          exact ⟨_, _, v, rfl, rfl, FR_of 4 _ (by decide), offR_tr (offR_fail _ _) (offR_L (offL_1517 _ _ _))⟩
        · by_cases d0 : v < sF 2 p
          · rw [if_pos d0]
            exact ⟨_, _, v, rfl, rfl, FR_of 4 _ (by decide), offR_tr (offR_fail _ _) (offR_L (offL_1517 _ _ _))⟩
          · rw [if_neg d0, if_neg d]
            exact ⟨_, _, v, rfl, rfl, FR_of 4 _ (by decide), offR_tr (offR_fail _ _) (offR_L (offL_1517 _ _ _))⟩
      · right
        have d1 : ¬ v < sF 2 p := fun g => cb ((isIn_eq v _ _).mpr (Or.inl g))
        have d2 : v ≤ sF 3 p := Decidable.byContradiction (fun g => cb ((isIn_eq v _ _).mpr (Or.inr g)))
        rw [if_neg cb, if_neg d1, if_pos d2]
        refine ⟨_, v, rfl, rfl, ⟨by omega, Or.inr (by rw [h3, hst2]), by rw [h5, hst], ?_, u2e _ _ _ _, EnvM_L hEE (offL_1517 _ _ _)⟩, offL_1517 _ _ _, d1, d2⟩
        rw [u2n _ (Or.inr (by omega)), u2e]
    · left
      rw [if_neg (by rw [show (3 : Int32) = iI 3 from rfl, iI_le (by omega) (by omega) (by omega) (by omega)]; omega), num40b hl hs (by omega) _ _ 3 s N 0 (up2 σM.1 0 15 (iI (s : Nat)), σM.2) (by omega) (by omega) (by omega) hσ15 hσ16 hσ14]
      dsimp only
      rw [u2u]
      have hf := fail_eq (σM := (up2 σM.1 0 15 (iI ((s + 3 : Nat) : Int)), σM.2)) (by show up2 σM.1 0 15 (iI ((s + 3 : Nat) : Int)) 0 18 = 0; rw [u2n _ (Or.inr (by omega))]; exact g18) 1 (iI ((s + 3 : Nat) : Int))
      rw [hf, show iI (s : Nat) + 3 = iI ((s + 3 : Nat) : Int) by rw [show (3 : Int32) = iI 3 from rfl, iI_add]; congr 1]
      exact ⟨_, _, 0, rfl, rfl, FR_of 1 _ (by decide), offR_tr (offR_fail _ _) (offR_L (offL_15 _ _))⟩
  · left
    have hf := fail_eq (σM := (up2 σM.1 0 15 (iI (s : Nat)), σM.2)) hσ18 1 (iI (s : Nat))
    rw [if_neg (show ¬ iI (srt r l s e) = 2 by rw [show (2 : Int32) = iI 2 from rfl, iI_eq (by omega) (by omega) (by omega) (by omega), srt_2]; exact c2), h4]
    by_cases c3 : bI (f_X8_isDigit (nxv r l s)) = 0
    · rw [if_pos c3, hσ15, hf]
      exact ⟨_, _, 0, rfl, rfl, FR_of 1 _ (by decide), offR_tr (offR_fail _ _) (offR_L (offL_15 _ _))⟩
    · have hd : s < l ∧ dgq r s = true := by
        unfold nxv at c3
        by_cases d : s < l
        · rw [if_pos d] at c3
          refine ⟨d, ?_⟩
          by_cases d2 : dgq r s = true
          · exact d2
          · exfalso
            apply c3
            rw [show f_X8_isDigit (r s) = false from Bool.eq_false_iff.mpr d2]
            exact bI_f
        · rw [if_neg d] at c3
          exact absurd (show bI (f_X8_isDigit (-1)) = 0 by decide) c3
      have hse : (s : Int) = e := Decidable.byContradiction (fun g => c2 ⟨hd.1, hd.2, g⟩)
      rw [if_neg c3, if_pos (show up2 σM.1 0 15 (iI (s : Nat)) 0 15 = up2 σM.1 0 15 (iI (s : Nat)) 0 17 by rw [hσ15, hσ17, hse]), hσ15, hf]
      exact ⟨_, _, 0, rfl, rfl, FR_of 1 _ (by decide), offR_tr (offR_fail _ _) (offR_L (offL_15 _ _))⟩
