/-! record: a part agrees -/
theorem offL_r {σ' σ : St2} (h : offL σ' σ) {j : Nat} (hj : j ≠ 0) : σ' j = σ j := h.2 j hj
theorem part_eq {N : Nat} (hN : 12002 ≤ N) {c : Nat} (hc : c ≤ 8) {σT σD σR : St2} {σA : St2 × Int64} {r : Nat → Int32} {l : Nat} (hT : TxT σT r l) {s cr : Nat} {e : Int} {σM : St2 × (Nat → Int64)} {nm : Nat → Int} (h : PS σD σM.1 r l s e) (hR : ReignI σR σM cr) (hn : NmI σA.1 σM.1 c nm) (hru : RuI σD σM.1 cr) (h7 : f_X3_isWord N σD σT 7 = some false) (n : Nat) : (∃ (σD' : St2) (σA' : St2 × Int64) (σ' : St2), f_X3_readPart N σD σT σR σA = some (false, σD', σA') ∧ f_X8_reads_41 N (n + 1 + 1) σM (iI (c : Nat)) 1 = some (σ', σM.2) ∧ FR σD' σ' ∧ offR c σ' σM.1) ∨ (∃ (σD' : St2) (σA' : St2 × Int64) (σ' : St2) (p : Nat) (v : Int) (s' : Nat) (e' : Int), f_X3_readPart N σD σT σR σA = some (true, σD', σA') ∧ f_X8_reads_41 N (n + 1 + 1) σM (iI (c : Nat)) 1 = f_X8_reads_41 N (n + 1) (σ', σM.2) (iI (c : Nat)) 1 ∧ PS σD' σ' r l s' e' ∧ p < 4 ∧ nm p = -1 ∧ (0 ≤ v ∧ v ≤ 999) ∧ NmI σA'.1 σ' c (nmu nm p v) ∧ RuI σD' σ' cr ∧ (∀ i, σA'.1 0 i = σA.1 0 i) ∧ offR c σ' σM.1 ∧ (σ' 28 = σM.1 28 ∧ σ' 31 = σM.1 31) ∧ ∀ i, i ≠ 3 → i ≠ 4 → i ≠ 5 → i ≠ 7 → i ≠ 8 → σD' 0 i = σD 0 i) := by
  have h0 := h
  obtain ⟨hH, he, ⟨q, hq, hsk, h15⟩, h17, hE⟩ := h
  have hl := hT.1
  have e1 := next_at hN hl hq h15 hE.1 hE.2.1
  rw [hsk] at e1
  have hP0 : PS σD (up2 σM.1 0 15 (iI (s : Nat))) r l s e := ⟨hH, he, ⟨s, hH.1, hH.2.1, u2e _ _ _ _⟩, by rw [u2n _ (Or.inr (by omega))]; exact h17, EnvM_L hE (offL_15 _ _)⟩
  have hL0 : offL (up2 σM.1 0 15 (iI (s : Nat))) σM.1 := offL_15 _ _
  have h015 : up2 σM.1 0 15 (iI (s : Nat)) 0 15 = iI (s : Nat) := u2e _ _ _ _
  have hm : f_X8_reads_41 N (n + 1 + 1) σM (iI (c : Nat)) 1 = (f_X8_partOf N (up2 σM.1 0 15 (iI (s : Nat)), σM.2)).bind fun o_4 => if o_4.1 = (-1) then f_X8_reads_41 N (n + 1) o_4.2 (iI (c : Nat)) 0 else if ((4 * (iI (c : Nat))) + o_4.1) < 0 ∨ 36 ≤ Int32.toNatClampNeg ((4 * (iI (c : Nat))) + o_4.1) then none else if (o_4.2.1 29 (Int32.toNatClampNeg ((4 * (iI (c : Nat))) + o_4.1))) = (-1) then f_X8_reads_100 N (f_X8_reads_41 N (n + 1)) o_4.2 (iI (c : Nat)) 1 o_4.1 else f_X8_reads_100 N (f_X8_reads_41 N (n + 1)) (f_X8_fail o_4.2 2 (up2 σM.1 0 15 (iI (s : Nat)) 0 15)) (iI (c : Nat)) 1 o_4.1 := by
    rw [f_X8_reads_41, if_neg (by decide), if_pos hE.2.2.2.1, e1, Option.bind_some]
  rw [hm, h015]
  generalize up2 σM.1 0 15 (iI (s : Nat)) = σ0 at hP0 hL0 h015
  unfold f_X3_readPart
  rcases part_word hN hT (σM := (σ0, σM.2)) hP0 with ⟨k1, σ1, k2, k3, k4, k5⟩ | ⟨p, hp, k1, σ1, k2, k3, k4, -⟩
  · left
    rw [k1, Option.bind_some, if_pos rfl, k2, Option.bind_some, if_pos rfl, f_X8_reads_41, if_pos rfl]
    unfold f_X8_reads_205
    dsimp only
    rw [if_pos (show σ1 0 18 = 0 from k3.2.2.2.2.2.2.2.1)]
    rcases tk hN hT (kh := 7) (by omega) (σM := (σ1, σM.2)) k3 with ⟨m1, σ2, m2, m3, m4, m5⟩ | ⟨m1, -⟩
    · have hf := fail_eq (σM := (σ2, σM.2)) m3.2.2.2.2.2.2.2.1 1 (iI (s : Nat))
      rw [show f_X8_takes N (σ1, σM.2) 46 = _ from m2, Option.bind_some, if_pos bI_f]
      dsimp only
      rw [m4, hf, dead232 (by show ¬ up2 (up2 σ2 0 18 1) 0 19 (iI (s : Nat)) 0 18 = 0; rw [u2n _ (Or.inr (by omega)), u2e]; decide), hH.2.2.1]
      exact ⟨_, _, _, rfl, rfl, FR_15 (FR_of 1 _ (by decide)), offR_tr (offR_0 (by omega)) (offR_tr (offR_fail _ _) (offR_L (offL_tr m5 (offL_tr k5 hL0))))⟩
    · rw [h7] at m1
      exact absurd (Option.some.inj m1) (by decide)
  · have hnp := hn p hp
    have hb18 : σ1 0 18 = 0 := k3.2.2.2.2.2.2.2.2.1
    have h29 : σ1 29 (4 * c + p) = iI (nm p) := (congrFun (offL_r k4 (j := 29) (by omega)) _).trans ((congrFun (offL_r hL0 (j := 29) (by omega)) _).trans hnp.2.1)
    rw [k1, Option.bind_some, if_neg (show ¬ iI (p : Nat) = -1 from fun g => by have := (iI_m1 (v := (p : Int)) (by omega) (by omega)).mp g; omega), has_eq hp rfl hnp.2.2 hnp.1, Option.bind_some, k2, Option.bind_some]
    dsimp only
    rw [if_neg (show ¬ iI (p : Nat) = -1 from fun g => by have := (iI_m1 (v := (p : Int)) (by omega) (by omega)).mp g; omega), ix29 hc hp, if_neg (ix_no (by omega) (by omega) (by omega)), iI_clamp (by omega) (by omega), show ((4 * c + p : Nat) : Int).toNat = 4 * c + p from rfl]
    by_cases cd : nm p = -1
    · rw [if_pos (show bI (decide (nm p ≠ -1)) = 0 by rw [cd]; exact bI_f), if_pos (show σ1 29 (4 * c + p) = -1 by rw [h29, cd]; rfl), r100 (σ := (σ1, σM.2)) hb18 p hp]
      obtain ⟨σD1, a1, a2, a3⟩ := adv_pend hN hT k3
      rw [a1, Option.bind_some, ix29 hc hp]
      unfold f_X8_reads_171
      have hx : ¬ (iI ((4 * c + p : Nat) : Int) < 0 ∨ 36 ≤ Int32.toNatClampNeg (iI ((4 * c + p : Nat) : Int))) := ix_no (by omega) (by omega) (by omega)
      have hcl : Int32.toNatClampNeg (iI ((4 * c + p : Nat) : Int)) = 4 * c + p := iI_clamp (by omega) (by omega)
      rcases number_eq hN c hT hp (σA := σA) (σM := (σ1, σM.2)) a3 with ⟨σD2, σ2, v, b1, b2, b3, b4⟩ | ⟨σ2, v, b1, b2, b3, b4, b5, b6⟩
      · left
        rw [b1, Option.bind_some, if_pos bI_f, b2, Option.bind_some, if_neg hx]
        dsimp only
        rw [if_neg (show ¬ σ2 0 18 = 0 from b3.1), hcl]
        unfold f_X8_reads_202
        rw [dead41 (by show ¬ up2 σ2 29 (4 * c + p) v 0 18 = 0; rw [u2n _ (Or.inl (by omega))]; exact b3.1)]
        exact ⟨_, _, _, rfl, rfl, FR_15 (FR_29 b3), offR_tr (offR_0 (by omega)) (offR_tr (offR_29 hp) (offR_tr b4 (offR_L (offL_tr k4 hL0))))⟩
      · rw [b1, Option.bind_some, if_neg bI_t, b2, Option.bind_some, if_neg hx]
        dsimp only
        have hb2 : σ2 0 18 = 0 := b3.2.2.2.2.2.2.2.2.1
        rw [if_pos hb2, hcl]
        have hvr : 0 ≤ v.toInt ∧ v.toInt ≤ 999 := by
          have hs := sF_rng p hp
          rw [Int32.lt_iff_toInt_lt] at b5
          rw [Int32.le_iff_toInt_le] at b6
          omega
        have hL2 : offL σ2 σM.1 := offL_tr b4 (offL_tr k4 hL0)
        have hN2 := NmI_up (NmI_L hn (offL_r hL2 (by omega) : σ2 29 = σM.1 29)) hp hvr
        obtain ⟨σD2, d1, d2, d3⟩ := adv_pend hN hT (Pend_29 (x := 4 * c + p) (v := v) b3)
        rw [d1, Option.bind_some]
        generalize hσ3 : up2 σ2 29 (4 * c + p) v = σ3 at d3 hN2
        have hO3 : offR c σ3 σM.1 := by rw [← hσ3]; exact offR_tr (offR_29 hp) (offR_L hL2)
        have h3s : ∀ i, i ≠ 15 → i ≠ 17 → σ3 0 i = σM.1 0 i := fun i x y => by rw [← hσ3, u2n _ (Or.inl (by omega))]; exact hL2.1 i x y
        have h3r : ∀ j, j ≠ 0 → j ≠ 29 → σ3 j = σM.1 j := fun j x y => by rw [← hσ3, u2r _ y]; exact hL2.2 j x
        have hD2 : offT σD2 σD := offT_tr d2 a2
        have hru3 : RuI σD2 σ3 cr := RuI_fr hru (hD2 7 (by omega) (by omega) (by omega)) (hD2 8 (by omega) (by omega) (by omega)) (h3s 33 (by omega) (by omega)) (h3s 32 (by omega) (by omega))
        have hA0 : ∀ i, up2 σA.1 5 p v 0 i = σA.1 0 i := fun i => u2n _ (Or.inl (by omega))
        by_cases cp : p = 0
        · subst cp
          rw [if_pos (show iI ((0 : Nat) : Int) = 0 from rfl), if_pos (show iI ((0 : Nat) : Int) = 0 from rfl)]
          rcases tk hN hT (kh := 12) (by omega) (σM := (σ3, σM.2)) d3 with ⟨m1, σ4, m2, m3, m4, m5⟩ | ⟨m1, σ4, m2, m3, m4, -⟩
          · right
            rw [m1, Option.bind_some, if_pos bI_f, show f_X8_takes N (σ3, σM.2) 45 = _ from m2, Option.bind_some, if_pos bI_f]
            exact ⟨σD2, _, σ4, 0, v.toInt, _, _, rfl, rfl, m3, by omega, cd, hvr, NmI_L hN2 (offL_r m5 (by omega)), RuI_fr hru3 rfl rfl (m5.1 33 (by omega) (by omega)) (m5.1 32 (by omega) (by omega)), hA0, offR_tr (offR_L m5) hO3, ⟨(m5.2 28 (by omega)).trans (h3r 28 (by omega) (by omega)), (m5.2 31 (by omega)).trans (h3r 31 (by omega) (by omega))⟩, fun i x y z _ _ => hD2 i x y z⟩
          · rw [m1, Option.bind_some, if_neg bI_t, show f_X8_takes N (σ3, σM.2) 45 = _ from m2, Option.bind_some, if_neg bI_t]
            obtain ⟨σD3, f1, f2, f3⟩ := adv_pend hN hT m3
            rw [f1, Option.bind_some]
            have hR4 : ReignI σR (σ4, σM.2) cr := ReignI_fr hR ((m4.1 22 (by omega) (by omega)).trans (h3s 22 (by omega) (by omega))) ((m4.2 25 (by omega)).trans (h3r 25 (by omega) (by omega))) ((m4.2 26 (by omega)).trans (h3r 26 (by omega) (by omega)))
            rcases name_eq hN c hT (σM := (σ4, σM.2)) f3 hR4 with ⟨σD4, σ5, j1, j2, j3, j4⟩ | ⟨σD4, σ5, i, j1, j2, j3, j4, j5, j6, j7, j8, j9, j10⟩
            · left
              rw [j1, Option.bind_some, if_pos bI_f, j2, Option.bind_some]
              unfold f_X8_reads_202
              rw [dead41 (show ¬ (σ5, σM.2).1 0 18 = 0 from j3.1)]
              exact ⟨_, _, _, rfl, rfl, FR_15 j3, offR_tr (offR_0 (by omega)) (offR_tr j4 (offR_tr (offR_L m4) hO3))⟩
            · right
              rw [j1, Option.bind_some, if_neg bI_t, j2, Option.bind_some]
              obtain ⟨σD5, t1, t2, t3⟩ := adv_pend hN hT j3
              rw [t1, Option.bind_some]
              have hO5 : offR c σ5 σ4 := ⟨fun k a b _ _ d f => j9 k a b d f, fun j a _ _ _ => j10 j a, fun k _ => ⟨congrFun (j10 28 (by omega)) k, congrFun (j10 31 (by omega)) k⟩, fun k _ => congrFun (j10 29 (by omega)) k⟩
              refine ⟨σD5, _, σ5, 0, v.toInt, _, _, rfl, rfl, t3, by omega, cd, hvr, NmI_L hN2 ((j10 29 (by omega)).trans (offL_r m4 (by omega))), Or.inr ⟨i, j4, ?_, j6, ?_⟩, hA0, offR_tr hO5 (offR_tr (offR_L m4) hO3), ⟨(j10 28 (by omega)).trans ((m4.2 28 (by omega)).trans (h3r 28 (by omega) (by omega))), (j10 31 (by omega)).trans ((m4.2 31 (by omega)).trans (h3r 31 (by omega) (by omega)))⟩, fun k x y z u w => ?_⟩
              · rw [t2 7 (by omega) (by omega) (by omega)]; exact j5
              · rw [t2 8 (by omega) (by omega) (by omega)]; exact j7
              · exact (t2 k x y z).trans ((j8 k u w).trans ((f2 k x y z).trans (hD2 k x y z)))
        · right
          rw [if_neg (show ¬ iI (p : Nat) = 0 from fun g => by have := (iI_z (v := (p : Int)) (by omega) (by omega)).mp g; omega), if_neg (show ¬ iI (p : Nat) = 0 from fun g => by have := (iI_z (v := (p : Int)) (by omega) (by omega)).mp g; omega)]
          exact ⟨σD2, _, σ3, p, v.toInt, _, _, rfl, rfl, d3, hp, cd, hvr, hN2, hru3, hA0, hO3, ⟨h3r 28 (by omega) (by omega), h3r 31 (by omega) (by omega)⟩, fun i x y z _ _ => hD2 i x y z⟩
    · left
      have hf := fail_eq (σM := (σ1, σM.2)) hb18 2 (iI (s : Nat))
      rw [if_neg (show ¬ bI (decide (nm p ≠ -1)) = 0 by rw [decide_eq_true cd]; exact bI_t), if_neg (show ¬ σ1 29 (4 * c + p) = -1 from fun g => cd ((iI_m1 (by omega) (by omega)).mp (h29 ▸ g))), hf]
      unfold f_X8_reads_100
      rw [if_neg (show ¬ (up2 (up2 (σ1, σM.2).1 0 18 2) 0 19 (iI (s : Nat)), (σ1, σM.2).2).1 0 18 = 0 by show ¬ up2 (up2 σ1 0 18 2) 0 19 (iI (s : Nat)) 0 18 = 0; rw [u2n _ (Or.inr (by omega)), u2e]; decide), hH.2.2.1]
      exact ⟨_, _, _, rfl, rfl, FR_of 2 _ (by decide), offR_tr (offR_fail _ _) (offR_L (offL_tr k4 hL0))⟩
