/-! record agrees -/
def FltI (σD σ : St2) : Prop := σD 0 10 = σ 0 21 ∧ (σD 0 9 = σ 0 20 ∨ (σD 0 9 = 1 ∧ σ 0 20 = 3))
theorem east_t {x : Int32} (h : ¬ bI (f_X7_isEast x) = 0) : -720 ≤ x.toInt ∧ x.toInt ≤ 720 := by
  unfold f_X7_isEast at h
  by_cases h1 : x < -720
  · rw [if_pos h1] at h; exact absurd bI_f h
  · rw [if_neg h1] at h
    by_cases h2 : 720 < x
    · rw [if_pos h2] at h; exact absurd bI_f h
    · rw [Int32.lt_iff_toInt_lt] at h1 h2
      rw [show (-720 : Int32) = iI (-720) from rfl, iI_toInt (by omega) (by omega)] at h1
      rw [show (720 : Int32) = iI 720 from rfl, iI_toInt (by omega) (by omega)] at h2
      omega
theorem ModR_keep {c k : Nat} {σ' σ : St2} (h : offR c σ' σ) (hk : k < c) {K : Int32} {C E Y : Int} {nm : Nat → Int} (g : ModR σ k K C E Y nm) : ModR σ' k K C E Y nm := by
  obtain ⟨g1, g2, g3, g4, g5⟩ := g
  refine ⟨(h.2.2.1 k (by omega)).1.trans g1, (h.2.2.1 k (by omega)).2.trans g2, ?_, ?_, fun p hp => ?_⟩
  · rw [h.2.1 32 (by omega) (by omega) (by omega) (by omega)]; exact g3
  · rw [h.2.1 30 (by omega) (by omega) (by omega) (by omega)]; exact g4
  · rw [h.2.2.2 _ (by omega)]; exact g5 p hp
theorem record_eq {N : Nat} (hN : 12002 ≤ N) (aQ : Nat → Nat → Nat) {σS σT σR : St2} {σV : St2 × (Nat → Nat)} {σQ : Nat → (St2 × Int64)} {σD : St2} {ra : Value} {σM : St2 × (Nat → Int64)} {l cr c : Nat} (hT : TapeI σT σM.1 l) (hR : ReignI σR σM cr) (hW : WdI σM.1) (hC : RecI σV σQ σM.1 c) (hF : FltI σD σM.1) (x1 : Int32) : ∃ (o : Int32) (σT' : St2) (σV' : St2 × (Nat → Nat)) (σQ' : Nat → (St2 × Int64)) (σD' : St2) (ra' : Value) (σ' : St2) (c' : Nat), f_X7_record aQ N σS σT σR σV σQ σD ra x1 = some (o, σT', σV', σQ', σD', ra') ∧ f_X8_record N σM x1 = some (o, (σ', σM.2)) ∧ TapeI σT' σ' 0 ∧ RecI σV' σQ' σ' c' ∧ FltI σD' σ' ∧ (∀ i, i < 14 → σ' 0 i = σM.1 0 i) ∧ σ' 0 22 = σM.1 0 22 ∧ (∀ j, j ≠ 0 → j ≠ 28 → j ≠ 29 → j ≠ 30 → j ≠ 31 → j ≠ 32 → σ' j = σM.1 j) ∧ (∀ i, i < c' → (i < c ∧ σQ' (σV'.2 i) = σQ (σV.2 i)) ∨ (σQ' (σV'.2 i)).1 0 6 = 0) := by
  obtain ⟨hl, t1, t2, t3⟩ := hT
  obtain ⟨h8, v1, v2, v3, v4, v5⟩ := hC
  have hTx : TxT σT (σM.1 14) l := ⟨hl, t1, t3⟩
  unfold f_X7_record f_X8_record lt
  dsimp only
  rw [show f_X8_isIn x1 (-720) 720 = f_X7_isEast x1 from rfl, t2, v2]
  have hT0 : ∀ σ' : St2, σ' 0 14 = 0 → TapeI (f_X6_clear σT) σ' 0 := fun σ' g => ⟨by omega, u2e σT 0 1 0, g, fun i hi => absurd hi (Nat.not_lt_zero _)⟩
  have refuse : ∃ (o : Int32) (σT' : St2) (σV' : St2 × (Nat → Nat)) (σQ' : Nat → (St2 × Int64)) (σD' : St2) (ra' : Value) (σ' : St2) (c' : Nat), some ((-2 : Int32), (f_X6_clear σT), σV, σQ, σD, ra) = some (o, σT', σV', σQ', σD', ra') ∧ some ((-2 : Int32), ((up2 (up2 σM.1 0 16 (iI (l : Int))) 0 14 0, σM.2) : St2 × (Nat → Int64))) = some (o, (σ', σM.2)) ∧ TapeI σT' σ' 0 ∧ RecI σV' σQ' σ' c' ∧ FltI σD' σ' ∧ (∀ i, i < 14 → σ' 0 i = σM.1 0 i) ∧ σ' 0 22 = σM.1 0 22 ∧ (∀ j, j ≠ 0 → j ≠ 28 → j ≠ 29 → j ≠ 30 → j ≠ 31 → j ≠ 32 → σ' j = σM.1 j) ∧ (∀ i, i < c' → (i < c ∧ σQ' (σV'.2 i) = σQ (σV.2 i)) ∨ (σQ' (σV'.2 i)).1 0 6 = 0) := by
    refine ⟨-2, _, σV, σQ, σD, ra, _, c, rfl, rfl, hT0 _ (u2e _ _ _ _), ⟨h8, v1, ?_, v3, v4, ?_⟩, ?_, fun i hi => ?_, ?_, fun j hj _ _ _ _ _ => ?_, fun i hi => Or.inl ⟨hi, rfl⟩⟩
    · rw [u2n _ (Or.inr (by omega)), u2n _ (Or.inr (by omega))]; exact v2
    · intro i hi
      exact v5 i hi
    · unfold FltI
      rw [u2n _ (Or.inr (by omega)), u2n _ (Or.inr (by omega)), u2n _ (Or.inr (by omega)), u2n _ (Or.inr (by omega))]
      exact hF
    · rw [u2n _ (Or.inr (by omega)), u2n _ (Or.inr (by omega))]
    · rw [u2n _ (Or.inr (by omega)), u2n _ (Or.inr (by omega))]
    · rw [u2r _ hj, u2r _ hj]
  by_cases ce : bI (f_X7_isEast x1) = 0
  · rw [if_pos ce, if_pos ce]
    exact refuse
  · rw [if_neg ce, if_neg ce]
    unfold f_X1_hasRoom
    rw [v1]
    by_cases c8 : c = 8
    · rw [if_pos (show (8 : Int32) ≤ iI (c : Nat) by rw [c8]; decide), if_pos bI_f, if_pos (show iI (c : Nat) = 8 by rw [c8]; rfl)]
      exact refuse
    · have hc7 : c < 8 := by omega
      have hvc := v3 c hc7
      have hroom : f_X1_hasRoom σV = true := by
        unfold f_X1_hasRoom
        rw [v1, if_neg (show ¬ (8 : Int32) ≤ iI (c : Nat) by rw [show (8 : Int32) = iI 8 from rfl, iI_le (by omega) (by omega) (by omega) (by omega)]; omega)]
      have hsp : f_X1_spare σV = some (some (σV.2 c)) := by
        unfold f_X1_spare
        rw [hroom, if_neg bI_t, v1, if_neg (ix_no (by omega) (by omega) (by omega)), iI_clamp (by omega) (by omega)]
        rfl
      rw [if_neg (show ¬ (8 : Int32) ≤ iI (c : Nat) by rw [show (8 : Int32) = iI 8 from rfl, iI_le (by omega) (by omega) (by omega) (by omega)]; omega), if_neg bI_t, hsp, Option.bind_some, if_neg (show ¬ iI (c : Nat) = 8 by rw [show (8 : Int32) = iI 8 from rfl, iI_eq (by omega) (by omega) (by omega) (by omega)]; omega)]
      unfold oc
      dsimp only
      rw [if_neg (by omega)]
      generalize hσ : up2 (up2 (up2 (up2 (up2 (up2 σM.1 0 16 (iI (l : Int))) 0 14 0) 0 15 0) 0 17 (-1)) 0 18 0) 0 19 (-1) = σ0
      have k0 : ∀ i, i ≠ 14 → i ≠ 15 → i ≠ 16 → i ≠ 17 → i ≠ 18 → i ≠ 19 → σ0 0 i = σM.1 0 i := fun i a b d e f g => by
        rw [← hσ, u2n _ (Or.inr g), u2n _ (Or.inr f), u2n _ (Or.inr e), u2n _ (Or.inr b), u2n _ (Or.inr a), u2n _ (Or.inr d)]
      have kr : ∀ j, j ≠ 0 → σ0 j = σM.1 j := fun j a => by
        rw [← hσ, u2r _ a, u2r _ a, u2r _ a, u2r _ a, u2r _ a, u2r _ a]
      have k14 : σ0 0 14 = 0 := by
        rw [← hσ, u2n _ (Or.inr (by omega)), u2n _ (Or.inr (by omega)), u2n _ (Or.inr (by omega)), u2n _ (Or.inr (by omega)), u2e]
      have k15 : σ0 0 15 = 0 := by
        rw [← hσ, u2n _ (Or.inr (by omega)), u2n _ (Or.inr (by omega)), u2n _ (Or.inr (by omega)), u2e]
      have k16 : σ0 0 16 = iI (l : Nat) := by
        rw [← hσ, u2n _ (Or.inr (by omega)), u2n _ (Or.inr (by omega)), u2n _ (Or.inr (by omega)), u2n _ (Or.inr (by omega)), u2n _ (Or.inr (by omega)), u2e]
      have k17 : σ0 0 17 = -1 := by
        rw [← hσ, u2n _ (Or.inr (by omega)), u2n _ (Or.inr (by omega)), u2e]
      have k18 : σ0 0 18 = 0 := by rw [← hσ, u2n _ (Or.inr (by omega)), u2e]
      have k19 : σ0 0 19 = -1 := by rw [← hσ, u2e]
      have hE0 : EnvM σ0 (σM.1 14) l := ⟨k16, kr 14 (by omega), fun j a b => by rw [kr j (by omega)]; exact hW j a b, k18, k19⟩
      have hR0 : ReignI σR (σ0, σM.2) cr := ReignI_fr hR (k0 22 (by omega) (by omega) (by omega) (by omega) (by omega) (by omega)) (kr 25 (by omega)) (kr 26 (by omega))
      rcases read_eq hN (c := c) (by omega) (σD := σD) (σA := σQ (σV.2 c)) hTx (σM := (σ0, σM.2)) k15 k17 hE0 hR0 x1 with ⟨σD', σA', σ', p1, p2, p3, p4⟩ | ⟨σD', σA', σ', K, C, Y, nm, p1, p2, p3, p4, p5, p6, p7, p8, p9, p10, p11, p12⟩
      · replace p4 : offR c σ' σ0 := p4
        rw [p1, Option.bind_some, if_pos bI_f, p2, Option.bind_some]
        dsimp only
        rw [if_neg p3.1]
        unfold f_X7_record_55 f_X7_record_56
        rw [if_pos rfl]
        refine ⟨-1, _, σV, _, σD', _, _, c, rfl, rfl, hT0 _ ?_, ⟨h8, v1, ?_, v3, v4, ?_⟩, ?_, fun i hi => ?_, ?_, fun j hj x1 x2 x3 x4 x5 => ?_, fun i hi => Or.inl ⟨hi, ?_⟩⟩
        · rw [u2n _ (Or.inr (by omega)), u2n _ (Or.inr (by omega)), p4.1 14 (by omega) (by omega) (by omega) (by omega) (by omega) (by omega)]; exact k14
        · rw [u2n _ (Or.inr (by omega)), u2n _ (Or.inr (by omega)), p4.1 26 (by omega) (by omega) (by omega) (by omega) (by omega) (by omega), k0 26 (by omega) (by omega) (by omega) (by omega) (by omega) (by omega)]; exact v2
        · intro i hi
          obtain ⟨K, C, E, Y, nm, z1, z2, z3⟩ := v5 i hi
          refine ⟨K, C, E, Y, nm, ?_, ?_, z3⟩
          · unfold va_up
            rw [if_neg (fun g => by have := v4 i c (by omega) hc7 g; omega)]
            exact z1
          · have : ModR σ0 i K C E Y nm := by
              unfold ModR
              rw [kr 28 (by omega), kr 29 (by omega), kr 30 (by omega), kr 31 (by omega), kr 32 (by omega)]
              exact z2
            exact ModR_keep p4 hi this
        · refine ⟨?_, ?_⟩
          · rw [u2e]; exact p3.2.1
          · rw [u2n _ (Or.inr (by omega)), u2e]; exact p3.2.2
        · rw [u2n _ (Or.inr (by omega)), u2n _ (Or.inr (by omega)), p4.1 i (by omega) (by omega) (by omega) (by omega) (by omega) (by omega)]; exact k0 i (by omega) (by omega) (by omega) (by omega) (by omega) (by omega)
        · rw [u2n _ (Or.inr (by omega)), u2n _ (Or.inr (by omega)), p4.1 22 (by omega) (by omega) (by omega) (by omega) (by omega) (by omega)]; exact k0 22 (by omega) (by omega) (by omega) (by omega) (by omega) (by omega)
        · rw [u2r _ hj, u2r _ hj, p4.2.1 j hj x1 x2 x4]; exact kr j hj
        · unfold va_up
          rw [if_neg (fun g => by have := v4 i c (by omega) hc7 g; omega)]
      · replace p12 : offR c σ' σ0 := p12
        rw [p1, Option.bind_some, if_neg bI_t, p2, Option.bind_some]
        dsimp only
        rw [if_pos p3.1]
        have h26 : σ' 0 26 = iI (c : Nat) := by
          rw [p12.1 26 (by omega) (by omega) (by omega) (by omega) (by omega) (by omega), k0 26 (by omega) (by omega) (by omega) (by omega) (by omega) (by omega)]; exact v2
        have hE := east_t ce
        have key : ∀ w : Int32, w = iI Y → ∃ (o : Int32) (σT' : St2) (σV' : St2 × (Nat → Nat)) (σQ' : Nat → (St2 × Int64)) (σD'' : St2) (ra' : Value) (σ'' : St2) (c' : Nat), f_X7_record_56 aQ N σS σT σR σV (va_up σQ (σV.2 c) σA') σD' (.ref (aQ (σV.2 c) 0)) 1 = some (o, σT', σV', σQ', σD'', ra') ∧ f_X8_record_122 N (up2 (up2 σ' 0 20 (σ' 0 18)) 0 21 (σ' 0 19), σM.2) x1 w (σ' 0 26) = some (o, (σ'', σM.2)) ∧ TapeI σT' σ'' 0 ∧ RecI σV' σQ' σ'' c' ∧ FltI σD'' σ'' ∧ (∀ i, i < 14 → σ'' 0 i = σM.1 0 i) ∧ σ'' 0 22 = σM.1 0 22 ∧ (∀ j, j ≠ 0 → j ≠ 28 → j ≠ 29 → j ≠ 30 → j ≠ 31 → j ≠ 32 → σ'' j = σM.1 j) ∧ (∀ i, i < c' → (i < c ∧ σQ' (σV'.2 i) = σQ (σV.2 i)) ∨ (σQ' (σV'.2 i)).1 0 6 = 0) := by
          intro w hw
          have g26 : up2 (up2 σ' 0 20 (σ' 0 18)) 0 21 (σ' 0 19) 0 26 = iI (c : Nat) := by
            rw [u2n _ (Or.inr (by omega)), u2n _ (Or.inr (by omega))]; exact h26
          have hix : ¬ (iI (c : Nat) < 0 ∨ 9 ≤ Int32.toNatClampNeg (iI (c : Nat))) := ix_no (by omega) (by omega) (by omega)
          have h122 : f_X8_record_122 N (up2 (up2 σ' 0 20 (σ' 0 18)) 0 21 (σ' 0 19), σM.2) x1 w (iI (c : Nat)) = some (iI ((c + 1 : Nat) : Int) - 1, (up2 (up2 (up2 (up2 (up2 σ' 0 20 (σ' 0 18)) 0 21 (σ' 0 19)) 30 c w) 32 c x1) 0 26 (iI ((c + 1 : Nat) : Int)), σM.2)) := by
            unfold f_X8_record_122
            rw [show (up2 (up2 σ' 0 20 (σ' 0 18)) 0 21 (σ' 0 19), σM.2).1 0 26 = iI (c : Nat) from g26, if_neg hix, if_neg hix, iI_clamp (by omega) (by omega), nx]
            rfl
          have h56 : f_X7_record_56 aQ N σS σT σR σV (va_up σQ (σV.2 c) σA') σD' (.ref (aQ (σV.2 c) 0)) 1 = some (iI ((c + 1 : Nat) : Int) - 1, f_X6_clear σT, (up2 σV.1 0 1 (iI ((c + 1 : Nat) : Int)), σV.2), va_up σQ (σV.2 c) σA', σD', .ref (aQ (σV.2 c) 0)) := by
            unfold f_X7_record_56 f_X1_keepSpare
            rw [if_neg (by decide), hroom, if_neg bI_t, v1, nx]
            rfl
          rw [h56, h26, h122]
          refine ⟨_, _, _, _, σD', _, _, c + 1, rfl, rfl, hT0 _ ?_, ⟨by omega, u2e σV.1 0 1 (iI ((c + 1 : Nat) : Int)), u2e _ _ _ _, v3, v4, ?_⟩, ?_, fun i hi => ?_, ?_, fun j hj x1 x2 x3 x4 x5 => ?_, fun i hi => ?_⟩
          · rw [u2n _ (Or.inr (by omega)), u2n _ (Or.inl (by omega)), u2n _ (Or.inl (by omega)), u2n _ (Or.inr (by omega)), u2n _ (Or.inr (by omega)), p12.1 14 (by omega) (by omega) (by omega) (by omega) (by omega) (by omega)]; exact k14
          · intro i hi
            by_cases ci : i = c
            · subst ci
              refine ⟨K, C, x1.toInt, Y, nm, ?_, ?_, p6, hE, p7, fun p hp => (p8 p hp).2.2⟩
              · show AccI (va_up σQ (σV.2 i) σA' (σV.2 i)).1 K C x1.toInt Y nm
                unfold va_up
                rw [if_pos rfl]
                exact ⟨p5.1, p5.2.1, by rw [p5.2.2.1]; exact iI_of x1, p5.2.2.2.1, fun p hp => (p8 p hp).1⟩
              · refine ⟨?_, ?_, ?_, ?_, fun p hp => ?_⟩
                · rw [u2n _ (Or.inl (by omega)), u2n _ (Or.inl (by omega)), u2n _ (Or.inl (by omega)), u2n _ (Or.inl (by omega)), u2n _ (Or.inl (by omega))]; exact p9
                · rw [u2n _ (Or.inl (by omega)), u2n _ (Or.inl (by omega)), u2n _ (Or.inl (by omega)), u2n _ (Or.inl (by omega)), u2n _ (Or.inl (by omega))]; exact p10
                · rw [u2n _ (Or.inl (by omega)), u2e]; exact iI_of x1
                · rw [u2n _ (Or.inl (by omega)), u2n _ (Or.inl (by omega)), u2e]; exact hw
                · rw [u2n _ (Or.inl (by omega)), u2n _ (Or.inl (by omega)), u2n _ (Or.inl (by omega)), u2n _ (Or.inl (by omega)), u2n _ (Or.inl (by omega))]; exact (p8 p hp).2.1
            · have hi' : i < c := by omega
              obtain ⟨K, C, E, Y, nm, z1, z2, z3⟩ := v5 i hi'
              refine ⟨K, C, E, Y, nm, ?_, ?_, z3⟩
              · show AccI (va_up σQ (σV.2 c) σA' (σV.2 i)).1 K C E Y nm
                unfold va_up
                rw [if_neg (fun g => by have := v4 i c (by omega) hc7 g; omega)]
                exact z1
              · have hm0 : ModR σ0 i K C E Y nm := by
                  unfold ModR
                  rw [kr 28 (by omega), kr 29 (by omega), kr 30 (by omega), kr 31 (by omega), kr 32 (by omega)]
                  exact z2
                obtain ⟨y1, y2, y3, y4, y5⟩ := ModR_keep p12 hi' hm0
                refine ⟨?_, ?_, ?_, ?_, fun p hp => ?_⟩
                · rw [u2n _ (Or.inl (by omega)), u2n _ (Or.inl (by omega)), u2n _ (Or.inl (by omega)), u2n _ (Or.inl (by omega)), u2n _ (Or.inl (by omega))]; exact y1
                · rw [u2n _ (Or.inl (by omega)), u2n _ (Or.inl (by omega)), u2n _ (Or.inl (by omega)), u2n _ (Or.inl (by omega)), u2n _ (Or.inl (by omega))]; exact y2
                · rw [u2n _ (Or.inl (by omega)), u2n _ (Or.inr (by omega)), u2n _ (Or.inl (by omega)), u2n _ (Or.inl (by omega)), u2n _ (Or.inl (by omega))]; exact y3
                · rw [u2n _ (Or.inl (by omega)), u2n _ (Or.inl (by omega)), u2n _ (Or.inr (by omega)), u2n _ (Or.inl (by omega)), u2n _ (Or.inl (by omega))]; exact y4
                · rw [u2n _ (Or.inl (by omega)), u2n _ (Or.inl (by omega)), u2n _ (Or.inl (by omega)), u2n _ (Or.inl (by omega)), u2n _ (Or.inl (by omega))]; exact y5 p hp
          · refine ⟨?_, Or.inl ?_⟩
            · rw [u2n _ (Or.inr (by omega)), u2n _ (Or.inl (by omega)), u2n _ (Or.inl (by omega)), u2e, p4.2, p3.2]
            · rw [u2n _ (Or.inr (by omega)), u2n _ (Or.inl (by omega)), u2n _ (Or.inl (by omega)), u2n _ (Or.inr (by omega)), u2e, p4.1, p3.1]
          · rw [u2n _ (Or.inr (by omega)), u2n _ (Or.inl (by omega)), u2n _ (Or.inl (by omega)), u2n _ (Or.inr (by omega)), u2n _ (Or.inr (by omega)), p12.1 i (by omega) (by omega) (by omega) (by omega) (by omega) (by omega)]; exact k0 i (by omega) (by omega) (by omega) (by omega) (by omega) (by omega)
          · rw [u2n _ (Or.inr (by omega)), u2n _ (Or.inl (by omega)), u2n _ (Or.inl (by omega)), u2n _ (Or.inr (by omega)), u2n _ (Or.inr (by omega)), p12.1 22 (by omega) (by omega) (by omega) (by omega) (by omega) (by omega)]; exact k0 22 (by omega) (by omega) (by omega) (by omega) (by omega) (by omega)
          · rw [u2r _ hj, u2r _ x5, u2r _ x3, u2r _ hj, u2r _ hj, p12.2.1 j hj x1 x2 x4]; exact kr j hj
          · by_cases ci : i = c
            · right
              subst ci
              show (va_up σQ (σV.2 i) σA' (σV.2 i)).1 0 6 = 0
              unfold va_up
              rw [if_pos rfl]
              exact p5.2.2.2.2
            · left
              refine ⟨by omega, ?_⟩
              show va_up σQ (σV.2 c) σA' (σV.2 i) = _
              unfold va_up
              rw [if_neg (fun g => by have := v4 i c (by omega) hc7 g; omega)]
        have hcr := hR.1
        rcases p11 with ⟨y1, y2⟩ | ⟨i, y1, y2, y3⟩
        · rw [if_pos y1]
          exact key 0 (by rw [y2]; rfl)
        · have hne : ¬ σ' 0 33 = -1 := fun g => by
            rw [y2] at g
            have := (iI_m1 (v := (i : Int)) (by omega) (by omega)).mp g
            omega
          have hnx : ¬ (σ' 0 33 < 0 ∨ 12 ≤ Int32.toNatClampNeg (σ' 0 33)) := by
            rw [y2]
            exact ix_no (by omega) (by omega) (by omega)
          rw [if_neg hne, if_neg hnx]
          refine key _ ?_
          rw [y2, iI_clamp (by omega) (by omega)]
          exact y3
