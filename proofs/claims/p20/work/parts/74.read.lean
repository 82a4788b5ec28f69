/-! record: the whole text -/
theorem clear_step {N n p : Nat} (hp : p < 4) (A : St2) (x : Int64) : f_X0_clear_22 N (n + 1) (A, x) (iI (p : Nat)) = f_X0_clear_22 N n (up2 A 5 p (-1), x) (iI ((p + 1 : Nat) : Int)) := by
  rw [f_X0_clear_22, if_neg (show ¬ (4 : Int32) ≤ iI (p : Nat) by rw [show (4 : Int32) = iI 4 from rfl, iI_le (by omega) (by omega) (by omega) (by omega)]; omega), if_neg (ix_no (by omega) (by omega) (by omega)), iI_clamp (by omega) (by omega), nx]
  rfl
theorem clear_eq {N : Nat} (hN : 12002 ≤ N) (σA : St2 × Int64) (x : Int32) : ∃ A' : St2, f_X0_clear N σA x = some (A', σA.2) ∧ A' 0 2 = x ∧ A' 0 3 = 0 ∧ A' 0 6 = 0 ∧ ∀ p, p < 4 → A' 5 p = -1 := by
  obtain ⟨m, hm⟩ : ∃ m, N = m + 5 := ⟨N - 5, by omega⟩
  have key : ∀ A : St2, f_X0_clear_22 N (m + 5) (A, σA.2) 0 = some (up2 (up2 (up2 (up2 (up2 A 5 0 (-1)) 5 1 (-1)) 5 2 (-1)) 5 3 (-1)) 0 6 0, σA.2) := by
    intro A
    show f_X0_clear_22 N (m + 4 + 1) (A, σA.2) (iI ((0 : Nat) : Int)) = _
    rw [clear_step (by omega), clear_step (n := m + 3) (by omega), clear_step (n := m + 2) (by omega), clear_step (n := m + 1) (by omega), f_X0_clear_22, if_pos (by decide)]
  refine ⟨up2 (up2 (up2 (up2 (up2 (up2 (up2 (up2 (up2 σA.1 0 0 0) 0 1 0) 0 2 x) 0 3 0) 5 0 (-1)) 5 1 (-1)) 5 2 (-1)) 5 3 (-1)) 0 6 0, ?_, ?_, ?_, u2e _ _ _ _, ?_⟩
  · unfold f_X0_clear
    have := key (up2 (up2 (up2 (up2 σA.1 0 0 0) 0 1 0) 0 2 x) 0 3 0)
    rw [← hm] at this
    exact this
  · rw [u2n _ (Or.inr (by omega)), u2n _ (Or.inl (by omega)), u2n _ (Or.inl (by omega)), u2n _ (Or.inl (by omega)), u2n _ (Or.inl (by omega)), u2n _ (Or.inr (by omega)), u2e]
  · rw [u2n _ (Or.inr (by omega)), u2n _ (Or.inl (by omega)), u2n _ (Or.inl (by omega)), u2n _ (Or.inl (by omega)), u2n _ (Or.inl (by omega)), u2e]
  · intro p hp
    rw [u2n _ (Or.inl (by omega))]
    rcases (by omega : p = 0 ∨ p = 1 ∨ p = 2 ∨ p = 3) with rfl | rfl | rfl | rfl
    · rw [u2n _ (Or.inr (by omega)), u2n _ (Or.inr (by omega)), u2n _ (Or.inr (by omega)), u2e]
    · rw [u2n _ (Or.inr (by omega)), u2n _ (Or.inr (by omega)), u2e]
    · rw [u2n _ (Or.inr (by omega)), u2e]
    · rw [u2e]
theorem r12_step {N n c p : Nat} (hc : c ≤ 8) (hp : p < 4) (σ : St2) (g : Nat → Int64) : f_X8_reads_12 N (n + 1) (σ, g) (iI (c : Nat)) (iI (p : Nat)) = f_X8_reads_12 N n (up2 σ 29 (4 * c + p) (-1), g) (iI (c : Nat)) (iI ((p + 1 : Nat) : Int)) := by
  rw [f_X8_reads_12, if_neg (show ¬ (4 : Int32) ≤ iI (p : Nat) by rw [show (4 : Int32) = iI 4 from rfl, iI_le (by omega) (by omega) (by omega) (by omega)]; omega), ix29 hc hp, if_neg (ix_no (by omega) (by omega) (by omega)), iI_clamp (by omega) (by omega), nx]
  rfl
theorem r12_eq {N : Nat} (hN : 12002 ≤ N) {c : Nat} (hc : c ≤ 8) (σ : St2) (g : Nat → Int64) : ∃ σ' : St2, f_X8_reads_12 N N (σ, g) (iI (c : Nat)) 0 = f_X8_reads_41 N N (σ', g) (iI (c : Nat)) 1 ∧ (∀ i, i ≠ 33 → σ' 0 i = σ 0 i) ∧ σ' 0 33 = -1 ∧ (∀ j, j ≠ 0 → j ≠ 29 → σ' j = σ j) ∧ (∀ p, p < 4 → σ' 29 (4 * c + p) = -1) ∧ ∀ x, (x < 4 * c ∨ 4 * c + 4 ≤ x) → σ' 29 x = σ 29 x := by
  obtain ⟨m, hm⟩ : ∃ m, N = m + 5 := ⟨N - 5, by omega⟩
  have key : f_X8_reads_12 N (m + 5) (σ, g) (iI (c : Nat)) 0 = f_X8_reads_41 N N (up2 (up2 (up2 (up2 (up2 σ 29 (4 * c + 0) (-1)) 29 (4 * c + (0 + 1)) (-1)) 29 (4 * c + (0 + 1 + 1)) (-1)) 29 (4 * c + (0 + 1 + 1 + 1)) (-1)) 0 33 (-1), g) (iI (c : Nat)) 1 := by
    show f_X8_reads_12 N (m + 4 + 1) (σ, g) (iI (c : Nat)) (iI ((0 : Nat) : Int)) = _
    rw [r12_step hc (by omega), r12_step (n := m + 3) hc (by omega), r12_step (n := m + 2) hc (by omega), r12_step (n := m + 1) hc (by omega), f_X8_reads_12, if_pos (by decide)]
  rw [← hm] at key
  refine ⟨_, key, fun i hi => ?_, u2e _ _ _ _, fun j a b => ?_, fun p hp => ?_, fun x hx => ?_⟩
  · rw [u2n _ (Or.inr hi), u2n _ (Or.inl (by omega)), u2n _ (Or.inl (by omega)), u2n _ (Or.inl (by omega)), u2n _ (Or.inl (by omega))]
  · rw [u2r _ a, u2r _ b, u2r _ b, u2r _ b, u2r _ b]
  · rw [u2n _ (Or.inl (by omega))]
    rcases (by omega : p = 0 ∨ p = 1 ∨ p = 2 ∨ p = 3) with rfl | rfl | rfl | rfl
    · rw [u2n _ (Or.inr (by omega)), u2n _ (Or.inr (by omega)), u2n _ (Or.inr (by omega)), u2e]
    · rw [u2n _ (Or.inr (by omega)), u2n _ (Or.inr (by omega)), u2e]
    · rw [u2n _ (Or.inr (by omega)), u2e]
    · rw [u2e]
  · rw [u2n _ (Or.inl (by omega)), u2n _ (Or.inr (by omega)), u2n _ (Or.inr (by omega)), u2n _ (Or.inr (by omega)), u2n _ (Or.inr (by omega))]
theorem PS_fr {σD σ' σ : St2} {r : Nat → Int32} {l s : Nat} {e : Int} (h : PS σD σ r l s e) (h0 : ∀ i, i ≠ 33 → σ' 0 i = σ 0 i) (hr : ∀ j, j ≠ 0 → j ≠ 28 → j ≠ 29 → σ' j = σ j) : PS σD σ' r l s e := by
  obtain ⟨hH, he, ⟨p, hp, hsk, h15⟩, h17, g16, g14, gw, g18, g19⟩ := h
  exact ⟨hH, he, ⟨p, hp, hsk, by rw [h0 15 (by omega)]; exact h15⟩, by rw [h0 17 (by omega)]; exact h17, by rw [h0 16 (by omega)]; exact g16, by rw [hr 14 (by omega) (by omega) (by omega)]; exact g14, fun j a b => by rw [hr j (by omega) (by omega) (by omega)]; exact gw j a b, by rw [h0 18 (by omega)]; exact g18, by rw [h0 19 (by omega)]; exact g19⟩
theorem read_eq {N : Nat} (hN : 12002 ≤ N) {c : Nat} (hc : c ≤ 8) {σT σD σR : St2} {σA : St2 × Int64} {r : Nat → Int32} {l cr : Nat} (hT : TxT σT r l) {σM : St2 × (Nat → Int64)} (h15 : σM.1 0 15 = 0) (h17 : σM.1 0 17 = -1) (hE : EnvM σM.1 r l) (hR : ReignI σR σM cr) (x : Int32) : (∃ (σD' : St2) (σA' : St2 × Int64) (σ' : St2), f_X3_read N σD σT σR σA x = some (false, σD', σA') ∧ f_X8_reads N σM (iI (c : Nat)) = some (σ', σM.2) ∧ FR σD' σ' ∧ offR c σ' σM.1) ∨ (∃ (σD' : St2) (σA' : St2 × Int64) (σ' : St2) (K : Int32) (C Y : Int) (nm : Nat → Int), f_X3_read N σD σT σR σA x = some (true, σD', σA') ∧ f_X8_reads N σM (iI (c : Nat)) = some (σ', σM.2) ∧ (σ' 0 18 = 0 ∧ σ' 0 19 = -1) ∧ (σD' 0 9 = 0 ∧ σD' 0 10 = -1) ∧ (σA'.1 0 0 = K ∧ σA'.1 0 1 = iI C ∧ σA'.1 0 2 = x ∧ σA'.1 0 3 = iI Y ∧ σA'.1 0 6 = 0) ∧ (C = 0 ∨ C = 1 ∨ C = 2) ∧ (-1 ≤ Y ∧ Y ≤ 600) ∧ NmI σA'.1 σ' c nm ∧ σ' 28 c = K ∧ σ' 31 c = iI C ∧ ((σ' 0 33 = -1 ∧ Y = 0) ∨ ∃ i, i < cr ∧ σ' 0 33 = iI (i : Nat) ∧ σ' 26 i - 1 = iI Y) ∧ offR c σ' σM.1) := by
  have hl := hT.1
  obtain ⟨A0, c1, c2, c3, c4, c5⟩ := clear_eq hN σA x
  unfold f_X3_read f_X8_reads
  rw [c1, Option.bind_some]
  generalize hσD : up2 (up2 (up2 (up2 (up2 (up2 σD 0 3 0) 0 5 0) 0 6 (-1)) 0 7 (-1)) 0 9 0) 0 10 (-1) = σD0
  have d3 : σD0 0 3 = iI 0 := by
    rw [← hσD, u2n _ (Or.inr (by omega)), u2n _ (Or.inr (by omega)), u2n _ (Or.inr (by omega)), u2n _ (Or.inr (by omega)), u2n _ (Or.inr (by omega)), u2e]; rfl
  have d5 : σD0 0 5 = iI ((0 : Nat) : Int) := by
    rw [← hσD, u2n _ (Or.inr (by omega)), u2n _ (Or.inr (by omega)), u2n _ (Or.inr (by omega)), u2n _ (Or.inr (by omega)), u2e]; rfl
  have d7 : σD0 0 7 = -1 := by
    rw [← hσD, u2n _ (Or.inr (by omega)), u2n _ (Or.inr (by omega)), u2e]
  have d9 : σD0 0 9 = 0 := by rw [← hσD, u2n _ (Or.inr (by omega)), u2e]
  have d10 : σD0 0 10 = -1 := by rw [← hσD, u2e]
  obtain ⟨σD1, a1, a2, a3⟩ := adv_eq hN hT (p := 0) (by omega) (τ := 0) (by omega) d3 d5
  rw [if_neg (by omega)] at a3
  rw [a1, Option.bind_some]
  have hP : PS σD1 σM.1 r l (rn (bkq r) l 0) (-1) := ⟨a3, by omega, ⟨0, by omega, rfl, h15⟩, h17, hE⟩
  have hix : ¬ (iI (c : Nat) < 0 ∨ 9 ≤ Int32.toNatClampNeg (iI (c : Nat))) := ix_no (by omega) (by omega) (by omega)
  have hcl : Int32.toNatClampNeg (iI (c : Nat)) = c := iI_clamp (by omega) (by omega)
  obtain ⟨nN, hnN⟩ : ∃ nN, N = nN + 1 := ⟨N - 1, by omega⟩
  rcases what_eq hN c hT hP (A0, σA.2) with ⟨σD2, σ1, w1, w2, w3, w4⟩ | ⟨σD2, σ1, K, s', e', w1, w2, w3, w4, w5⟩
  · left
    rw [w1, Option.bind_some, if_pos bI_f, w2, Option.bind_some, if_neg hix, hcl]
    obtain ⟨σ2, r1, r2, r3, r4, r5, r6⟩ := r12_eq hN hc (up2 σ1 28 c 0) σM.2
    dsimp only
    have h18 : ¬ (σ2, σM.2).1 0 18 = 0 := by
      show ¬ σ2 0 18 = 0
      rw [r2 18 (by omega), u2n _ (Or.inl (by omega))]
      exact w3.1
    have hd := dead41 (N := N) (n := nN) (y := iI (c : Nat)) h18
    rw [← hnN] at hd
    rw [r1, hd]
    refine ⟨_, _, _, rfl, rfl, FR_15 ⟨h18, ?_, ?_⟩, offR_tr (offR_0 (by omega)) (offR_tr (y := up2 σ1 28 c 0) ⟨fun i x1 x2 x3 x4 x5 x6 => r2 i x6, fun j x1 x2 x3 x4 => r4 j x1 x3, fun k hk => ⟨congrFun (r4 28 (by omega) (by omega)) k, congrFun (r4 31 (by omega) (by omega)) k⟩, r6⟩ (offR_tr offR_28 w4))⟩
    · show σD2 0 10 = σ2 0 19
      rw [r2 19 (by omega), u2n _ (Or.inl (by omega))]; exact w3.2.1
    · show σD2 0 9 = σ2 0 18 ∨ σD2 0 9 = 1 ∧ σ2 0 18 = 3
      rw [r2 18 (by omega), u2n _ (Or.inl (by omega))]; exact w3.2.2
  · rw [w1, Option.bind_some, if_neg bI_t, w2, Option.bind_some, if_neg hix, hcl]
    obtain ⟨σ2, r1, r2, r3, r4, r5, r6⟩ := r12_eq hN hc (up2 σ1 28 c K) σM.2
    dsimp only
    rw [r1]
    have hO2 : offR c σ2 σM.1 := offR_tr (y := up2 σ1 28 c K) ⟨fun i x1 x2 x3 x4 x5 x6 => r2 i x6, fun j x1 x2 x3 x4 => r4 j x1 x3, fun k hk => ⟨congrFun (r4 28 (by omega) (by omega)) k, congrFun (r4 31 (by omega) (by omega)) k⟩, r6⟩ (offR_tr offR_28 (offR_L w5))
    have hP2 : PS σD2 σ2 r l s' e' := PS_fr w3 (fun i hi => by rw [r2 i hi, u2n _ (Or.inl (by omega))]) (fun j x1 x2 x3 => by rw [r4 j x1 x3, u2r _ x2])
    have h28 : σ2 28 c = K := by rw [r4 28 (by omega) (by omega), u2e]
    have hR2 : ReignI σR (σ2, σM.2) cr := ReignI_fr hR (hO2.1 22 (by omega) (by omega) (by omega) (by omega) (by omega) (by omega)) (hO2.2.1 25 (by omega) (by omega) (by omega) (by omega)) (hO2.2.1 26 (by omega) (by omega) (by omega) (by omega))
    have hN2 : NmI (f_X0_setKinds (A0, σA.2) K).1 σ2 c (fun _ => -1) := fun p hp => ⟨by show up2 A0 0 0 K 5 p = _; rw [u2n _ (Or.inl (by omega))]; exact c5 p hp, r5 p hp, (by decide : (-1 : Int) ≤ -1), (by decide : (-1 : Int) ≤ 999)⟩
    have hD2 : offT σD2 σD0 := offT_tr w4 a2
    have hru2 : RuI σD2 σ2 cr := Or.inl ⟨by rw [hD2 7 (by omega) (by omega) (by omega)]; exact d7, r3⟩
    unfold f_X3_readParts
    rcases parts_loop hN hc (σR := σR) (cr := cr) hT 4 N N 0 s' e' σD2 (f_X0_setKinds (A0, σA.2) K) (σ2, σM.2) (fun _ => -1) (by decide) (by omega) (by omega) (by omega) hP2 hR2 hN2 hru2 with ⟨σD3, σA3, σ3, p1, p2, p3, p4⟩ | ⟨σD3, σA3, σ3, nm, t, p1, p2, p3, p4, p5, p6, p7, p8, p9⟩
    · left
      rw [show f_X3_readParts_2 N N σD2 σT σR (f_X0_setKinds (A0, σA.2) K) 0 = _ from p1, Option.bind_some, if_pos bI_f, p2]
      exact ⟨_, _, _, rfl, rfl, p3, offR_tr p4 hO2⟩
    · rw [show f_X3_readParts_2 N N σD2 σT σR (f_X0_setKinds (A0, σA.2) K) 0 = _ from p1, Option.bind_some, if_neg bI_t, p2]
      have hO3 : offR c σ3 σM.1 := offR_tr p7 hO2
      dsimp only
      rcases cal_eq hN hc hT (σA := σA3) (σM := (σ3, σM.2)) p3 with ⟨σD4, σ4, q1, q2, q3, q4⟩ | ⟨k, σD4, σ4, t', hk, q1, q2, q3, q4, q5, q6, q7, q8, q9⟩
      · left
        rw [q1, Option.bind_some, if_pos bI_f, q2]
        exact ⟨_, _, _, rfl, rfl, q3, offR_tr q4 hO3⟩
      · rw [q1, Option.bind_some, if_neg bI_t, q2]
        dsimp only
        rcases close_eq hN (c := c) hT (σM := (σ4, σM.2)) q3 with ⟨σD5, σ5, f1, f2, f3, f4⟩ | ⟨σD5, σ5, f1, f2, f3, f4⟩
        · left
          rw [f1, Option.bind_some, if_pos bI_f, f2]
          exact ⟨_, _, _, rfl, rfl, f3, offR_tr f4 (offR_tr q6 hO3)⟩
        · rw [f1, Option.bind_some, if_neg bI_t, f2]
          dsimp only
          have hO5 : offR c σ5 σM.1 := offR_tr (offR_L f4) (offR_tr q6 hO3)
          have hR5 : ReignI σR (σ5, σM.2) cr := ReignI_fr hR (hO5.1 22 (by omega) (by omega) (by omega) (by omega) (by omega) (by omega)) (hO5.2.1 25 (by omega) (by omega) (by omega) (by omega)) (hO5.2.1 26 (by omega) (by omega) (by omega) (by omega))
          have hE5 := EnvM_L q3.2.2.2.2.2 f4
          have hru5 : RuI σD5 σ5 cr := RuI_fr p5 ((f3 7 (by omega) (by omega) (by omega)).trans (q9 7 (by omega) (by omega) (by omega) (by omega))) ((f3 8 (by omega) (by omega) (by omega)).trans (q9 8 (by omega) (by omega) (by omega) (by omega))) ((f4.1 33 (by omega) (by omega)).trans (q7 33 (by omega) (by omega))) ((f4.1 32 (by omega) (by omega)).trans (q7 32 (by omega) (by omega)))
          have hA4 : ∀ i, i ≠ 1 → (f_X0_setCalendar σA3 (iI k)).1 0 i = if i = 0 then K else A0 0 i := by
            intro i hi
            show up2 σA3.1 0 1 (iI k) 0 i = _
            rw [u2n _ (Or.inr hi), p6 i]
            show up2 A0 0 0 K 0 i = _
            by_cases ci : i = 0
            · rw [if_pos ci, ci, u2e]
            · rw [if_neg ci, u2n _ (Or.inr ci)]
          rcases join_eq (N := N) hc (σA := f_X0_setCalendar σA3 (iI k)) (k := k) (σM := (σ5, σM.2)) hE5.2.2.2.1 hR5 hru5 ((f3 6 (by omega) (by omega) (by omega)).trans q4) ((congrFun (f4.2 31 (by omega)) c).trans q5) ((hA4 3 (by omega)).trans ((if_neg (by omega)).trans c3)) with ⟨σD6, σ6, g1, g2, g3, g4⟩ | ⟨A6, Y, g1, g2, g3, g4, g5, g6, g7⟩
          · left
            rw [g1, Option.bind_some, if_pos bI_f, g2]
            exact ⟨_, _, _, rfl, rfl, g3, offR_tr g4 hO5⟩
          · right
            rw [g1, Option.bind_some, if_neg bI_t, g2]
            have hD5 : ∀ i, i ≠ 3 → i ≠ 4 → i ≠ 5 → i ≠ 6 → i ≠ 7 → i ≠ 8 → σD5 0 i = σD0 0 i := fun i x1 x2 x3 x4 x5 x6 => (f3 i x1 x2 x3).trans ((q9 i x1 x2 x3 x4).trans ((p9 i x1 x2 x3 x5 x6).trans (hD2 i x1 x2 x3)))
            refine ⟨σD5, (A6, (f_X0_setCalendar σA3 (iI k)).2), σ5, K, k, Y, nm, rfl, rfl, ⟨hE5.2.2.2.1, hE5.2.2.2.2⟩, ⟨?_, ?_⟩, ⟨?_, ?_, ?_, g4, ?_⟩, hk, g3, ?_, ?_, ?_, g7, hO5⟩
            · rw [hD5 9 (by omega) (by omega) (by omega) (by omega) (by omega) (by omega)]; exact d9
            · rw [hD5 10 (by omega) (by omega) (by omega) (by omega) (by omega) (by omega)]; exact d10
            · exact (g5 0 (by omega)).trans ((hA4 0 (by omega)).trans (if_pos rfl))
            · exact (g5 1 (by omega)).trans (u2e σA3.1 0 1 (iI k))
            · exact (g5 2 (by omega)).trans ((hA4 2 (by omega)).trans ((if_neg (by omega)).trans c2))
            · exact (g5 6 (by omega)).trans ((hA4 6 (by omega)).trans ((if_neg (by omega)).trans c4))
            · intro p hp
              obtain ⟨z1, z2, z3⟩ := p4 p hp
              refine ⟨?_, ?_, z3⟩
              · show A6 5 p = _
                rw [g6]
                show up2 σA3.1 0 1 (iI k) 5 p = _
                rw [u2n _ (Or.inl (by omega))]
                exact z1
              · exact (congrFun (f4.2 29 (by omega)) _).trans ((congrFun (q8 29 (by omega) (by omega)) _).trans z2)
            · exact (congrFun (f4.2 28 (by omega)) c).trans ((congrFun (q8 28 (by omega) (by omega)) c).trans ((congrFun p8.1 c).trans h28))
            · exact (congrFun (f4.2 31 (by omega)) c).trans q5
