/-! record: the close, the ruler's calendar -/
theorem srt_0 {r : Nat → Int32} {l s : Nat} {e : Int} : srt r l s e = 0 ↔ ¬ s < l := by
  unfold srt
  by_cases c : s < l
  · rw [if_pos c]
    refine ⟨fun g => ?_, fun g => absurd c g⟩
    repeat' split at g
    all_goals omega
  · rw [if_neg c]
    exact ⟨fun _ => c, fun _ => rfl⟩
theorem close_eq {N : Nat} (hN : 12002 ≤ N) {c : Nat} {σT σD : St2} {r : Nat → Int32} {l t : Nat} (hT : TxT σT r l) {σM : St2 × (Nat → Int64)} (h : Pend σD σM.1 r l t) : (∃ σD' σ' : St2, f_X3_readClose N σD σT = some (false, σD') ∧ f_X8_reads_317 N σM (iI (c : Nat)) = some (σ', σM.2) ∧ FR σD' σ' ∧ offR c σ' σM.1) ∨ (∃ σD' σ' : St2, f_X3_readClose N σD σT = some (true, σD') ∧ f_X8_reads_317 N σM (iI (c : Nat)) = f_X8_reads_376 N (σ', σM.2) (iI (c : Nat)) ∧ offT σD' σD ∧ offL σ' σM.1) := by
  obtain ⟨σD1, a1, a2, a3⟩ := adv_pend hN hT h
  have hl := hT.1
  have hE := h.2.2.2.2.2
  have hb18 := hE.2.2.2.1
  obtain ⟨hH, -, ⟨q, hq, hsk, h15⟩, h17, -⟩ := a3
  have e1 := next_at hN hl hq h15 hE.1 hE.2.1
  rw [hsk] at e1
  generalize rn (bkq r) l t = s at hH hsk e1
  have hs := hH.1
  unfold f_X3_readClose f_X8_reads_317
  rw [a1, Option.bind_some, hH.2.2.1, byteAt_eq hT (by omega), Option.bind_some, if_pos hb18, e1, Option.bind_some]
  dsimp only
  have hnx : (if s < l then r s else -1) = nxv r l s := rfl
  rw [hnx]
  by_cases c59 : nxv r l s = 59
  · rw [if_pos c59, if_pos c59]
    have hsl : s < l ∧ r s = 59 := by
      unfold nxv at c59
      by_cases d : s < l
      · rw [if_pos d] at c59; exact ⟨d, c59⟩
      · rw [if_neg d] at c59; exact absurd c59 (by decide)
    have hnl : ¬ ltq r s = true := by unfold ltq; rw [hsl.2]; decide
    have hnd : ¬ dgq r s = true := by unfold dgq; rw [hsl.2]; decide
    have h3 : σD1 0 3 = iI 3 := by
      rw [hH.2.2.2.1]
      unfold srt
      rw [if_pos hsl.1, if_neg hnl, if_neg hnd]
    have h5 : σD1 0 5 = iI ((s + 1 : Nat) : Int) := by
      rw [hH.2.2.2.2]
      unfold stp
      rw [if_pos hsl.1, if_neg hnl, if_neg hnd]
    obtain ⟨σD2, b1, b2, b3⟩ := adv_eq hN hT (p := s + 1) (by omega) (τ := 3) (by omega) h3 h5
    rw [if_neg (by omega)] at b3
    rw [b1, Option.bind_some]
    unfold f_X8_reads_342 lt
    dsimp only
    have g15 : up2 (up2 σM.1 0 15 (iI (s : Nat))) 0 15 (up2 σM.1 0 15 (iI (s : Nat)) 0 15 + 1) = up2 σM.1 0 15 (iI ((s + 1 : Nat) : Int)) := by
      rw [u2u, u2e, nx]
    have k18 : up2 σM.1 0 15 (iI (s : Nat)) 0 18 = 0 := by rw [u2n _ (Or.inr (by omega))]; exact hb18
    rw [if_pos k18, g15]
    have k15 : up2 σM.1 0 15 (iI ((s + 1 : Nat) : Int)) 0 15 = iI ((s + 1 : Nat) : Int) := u2e _ _ _ _
    have k16 : up2 σM.1 0 15 (iI ((s + 1 : Nat) : Int)) 0 16 = iI (l : Nat) := by rw [u2n _ (Or.inr (by omega))]; exact hE.1
    have k14 : up2 σM.1 0 15 (iI ((s + 1 : Nat) : Int)) 14 = r := by rw [u2r _ (by omega)]; exact hE.2.1
    have e2 := next_at hN hl (p := s + 1) (by omega) (σ := (up2 σM.1 0 15 (iI ((s + 1 : Nat) : Int)), σM.2)) k15 k16 k14
    rw [e2, Option.bind_some]
    generalize rn (bkq r) l (s + 1) = s2 at b3
    have hs2 := b3.1
    have hsr := srt_rng r l s2 (-1)
    dsimp only
    rw [b3.2.2.2.1, b3.2.2.1, u2u]
    by_cases c2 : s2 < l
    · left
      have hne : ¬ nxv r l s2 = -1 := by
        unfold nxv
        rw [if_pos c2]
        intro g
        have := (hT.2.2 s2 c2).2.1
        rw [g] at this
        exact absurd this (by decide)
      have j18 : up2 σM.1 0 15 (iI (s2 : Nat)) 0 18 = 0 := by rw [u2n _ (Or.inr (by omega))]; exact hb18
      have j15 : up2 σM.1 0 15 (iI (s2 : Nat)) 0 15 = iI (s2 : Nat) := u2e _ _ _ _
      have hf := fail_eq (σM := (up2 σM.1 0 15 (iI (s2 : Nat)), σM.2)) j18 1 (iI (s2 : Nat))
      rw [if_neg (show ¬ iI (srt r l s2 (-1)) = 0 from fun g => by have := srt_0.mp ((iI_z (by omega) (by omega)).mp g); exact this c2), if_neg hne, j15, hf, dead376 (by show ¬ up2 (up2 (up2 σM.1 0 15 (iI (s2 : Nat))) 0 18 1) 0 19 (iI (s2 : Nat)) 0 18 = 0; rw [u2n _ (Or.inr (by omega)), u2e]; decide), if_pos (show bI (f_X3_refuse σD2 1 (iI (s2 : Nat))).1 = 0 from bI_f)]
      exact ⟨_, _, rfl, rfl, FR_of 1 _ (by decide), offR_tr (offR_fail _ _) (offR_L (offL_15 _ _))⟩
    · right
      rw [if_pos (show iI (srt r l s2 (-1)) = 0 by rw [srt_0.mpr c2]; rfl), if_pos (show nxv r l s2 = -1 by unfold nxv; rw [if_neg c2])]
      exact ⟨σD2, _, rfl, rfl, offT_tr b2 a2, offL_15 _ _⟩
  · left
    have k18 : up2 σM.1 0 15 (iI (s : Nat)) 0 18 = 0 := by rw [u2n _ (Or.inr (by omega))]; exact hb18
    have k15 : up2 σM.1 0 15 (iI (s : Nat)) 0 15 = iI (s : Nat) := u2e _ _ _ _
    have hf := fail_eq (σM := (up2 σM.1 0 15 (iI (s : Nat)), σM.2)) k18 1 (iI (s : Nat))
    rw [if_neg c59, if_neg c59, k15, hf, dead342 (by show ¬ up2 (up2 (up2 σM.1 0 15 (iI (s : Nat))) 0 18 1) 0 19 (iI (s : Nat)) 0 18 = 0; rw [u2n _ (Or.inr (by omega)), u2e]; decide)]
    exact ⟨_, _, rfl, rfl, FR_15 (FR_of 1 _ (by decide)), offR_tr (offR_0 (by omega)) (offR_tr (offR_fail _ _) (offR_L (offL_15 _ _)))⟩
theorem join_eq {N c : Nat} (hc : c ≤ 8) {σD σR : St2} {σA : St2 × Int64} {cr : Nat} {k : Int} {σM : St2 × (Nat → Int64)} (h18 : σM.1 0 18 = 0) (hR : ReignI σR σM cr) (hru : RuI σD σM.1 cr) (h6 : σD 0 6 = iI k) (h31 : σM.1 31 c = iI k) (hz : σA.1 0 3 = 0) : (∃ σD' σ' : St2, f_X3_joinRuler σD σR σA = some (false, σD', σA) ∧ f_X8_reads_376 N σM (iI (c : Nat)) = some (σ', σM.2) ∧ FR σD' σ' ∧ offR c σ' σM.1) ∨ (∃ (A' : St2) (Y : Int), f_X3_joinRuler σD σR σA = some (true, σD, (A', σA.2)) ∧ f_X8_reads_376 N σM (iI (c : Nat)) = some σM ∧ (-1 ≤ Y ∧ Y ≤ 600) ∧ A' 0 3 = iI Y ∧ (∀ i, i ≠ 3 → A' 0 i = σA.1 0 i) ∧ A' 5 = σA.1 5 ∧ ((σM.1 0 33 = -1 ∧ Y = 0) ∨ ∃ i, i < cr ∧ σM.1 0 33 = iI (i : Nat) ∧ σM.1 26 i - 1 = iI Y)) := by
  have hcr := hR.1
  unfold f_X3_joinRuler f_X8_reads_376
  rw [if_pos h18]
  rcases hru with ⟨r1, r2⟩ | ⟨i, hi, r1, r2, r3⟩
  · right
    rw [if_pos r1, if_pos r2]
    exact ⟨σA.1, 0, rfl, rfl, by omega, hz, fun _ _ => rfl, rfl, Or.inl ⟨r2, rfl⟩⟩
  · have hne : ¬ iI (i : Nat) = -1 := fun g => by have := (iI_m1 (v := (i : Int)) (by omega) (by omega)).mp g; omega
    obtain ⟨-, q2, q3, q4, q5⟩ := hR.2.2.2 i hi
    have hth : f_X4_isThere σR (iI (i : Nat)) = true := by
      unfold f_X4_isThere
      rw [hR.2.1, if_neg (show ¬ iI (i : Nat) < 0 by rw [show (0 : Int32) = iI 0 from rfl, iI_lt (by omega) (by omega) (by omega) (by omega)]; omega), if_neg (show ¬ iI (cr : Nat) ≤ iI (i : Nat) by rw [iI_le (by omega) (by omega) (by omega) (by omega)]; omega)]
    have hco : f_X4_calendarOf σR (iI (i : Nat)) = some (σM.1 25 i) := by
      unfold f_X4_calendarOf
      rw [hth, if_neg bI_t, if_neg (ix_no (by omega) (by omega) (by omega)), iI_clamp (by omega) (by omega), show ((i : Int)).toNat = i from rfl, q2]
    have hyo : f_X4_firstYearOf σR (iI (i : Nat)) = some (σM.1 26 i) := by
      unfold f_X4_firstYearOf
      rw [hth, if_neg bI_t, if_neg (ix_no (by omega) (by omega) (by omega)), iI_clamp (by omega) (by omega), show ((i : Int)).toNat = i from rfl, q3]
    rw [r1, r2, if_neg hne, if_neg hne, hco, Option.bind_some, if_neg (ix_no (by omega) (by omega) (by omega)), if_neg (ix_no (by omega) (by omega) (by omega)), iI_clamp (by omega) (by omega), iI_clamp (by omega) (by omega), show ((i : Int)).toNat = i from rfl, show ((c : Int)).toNat = c from rfl, h6, h31]
    by_cases ck : σM.1 25 i = iI k
    · right
      rw [if_pos ck, if_pos ck, hyo, Option.bind_some]
      refine ⟨up2 σA.1 0 3 (σM.1 26 i - 1), (σM.1 26 i).toInt - 1, rfl, rfl, by omega, ?_, fun j hj => u2n _ (Or.inr hj), u2r _ (by omega), Or.inr ⟨i, hi, rfl, ?_⟩⟩
      · rw [u2e, iI_of (σM.1 26 i), show (1 : Int32) = iI 1 from rfl, iI_sub, ← iI_of]
      · rw [← iI_sub, ← iI_of]
        rfl
    · left
      have hf := fail_eq (σM := σM) h18 3 (σM.1 0 32)
      rw [if_neg ck, if_neg ck, hf, r3]
      exact ⟨_, _, rfl, rfl, FR_of 3 _ (by decide), offR_fail _ _⟩
