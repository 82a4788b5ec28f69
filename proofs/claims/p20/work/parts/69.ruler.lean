/-! record: the ruler's name -/
theorem nbw {N : Nat} (hN : 12002 ≤ N) {σT : St2} {r : Nat → Int32} {l s t : Nat} (h : TxT σT r l) (hst : s ≤ t) (ht : t ≤ l) : f_X6_nameBetween N σT (iI (s : Nat)) (iI (t : Nat)) = if s < t ∧ t ≤ s + 6 then (lets (σT 1) s (t - s) []).elim (some (-1)) (fun M => some (iI (en 32 M : Nat))) else some (-1) := by
  have hl := h.1
  unfold f_X6_nameBetween
  rw [show (6 : Int32) = iI 6 from rfl, iI_sub]
  by_cases a : t ≤ s
  · rw [if_pos (by rw [iI_le (by omega) (by omega) (by omega) (by omega)]; omega), if_neg (by omega)]
  · rw [if_neg (by rw [iI_le (by omega) (by omega) (by omega) (by omega)]; omega)]
    by_cases b : t ≤ s + 6
    · rw [if_pos (by rw [iI_le (by omega) (by omega) (by omega) (by omega)]; omega), if_pos ⟨by omega, b⟩]
      exact nb_loop N hl h.2.1 ht (t - s) N s [] (by omega) (by omega) (by show 0 + (t - s) ≤ 6; omega) (fun v hv => absurd hv (by simp))
    · rw [if_neg (by rw [iI_le (by omega) (by omega) (by omega) (by omega)]; omega), if_neg (by omega)]
theorem lets_all {r : Nat → Int32} : ∀ (k p : Nat) (L : List Nat), (∀ i, p ≤ i → i < p + k → f_X6_isLetter (r i) = true) → ∃ M, lets r p k L = some M
  | 0, p, L, _ => ⟨L, by unfold lets; rfl⟩
  | k + 1, p, L, h => by
    rw [lets, if_neg (show ¬ bI (f_X6_isLetter (r p)) = 0 by rw [h p (by omega) (by omega)]; exact bI_t)]
    exact lets_all k (p + 1) _ (fun i a b => h i (by omega) (by omega))
theorem stp_le {r : Nat → Int32} {l s : Nat} (h : s ≤ l) : s ≤ stp r l s ∧ stp r l s ≤ l := by
  have h1 := rn_le (ltq r) l (l - s) s (by omega)
  have h2 := rn_le (dgq r) l (l - s) s (by omega)
  unfold stp
  repeat' split
  all_goals omega
theorem ReignI_fr {σR : St2} {σM : St2 × (Nat → Int64)} {c : Nat} (h : ReignI σR σM c) {σ' : St2} (h0 : σ' 0 22 = σM.1 0 22) (h1 : σ' 25 = σM.1 25) (h2 : σ' 26 = σM.1 26) : ReignI σR (σ', σM.2) c := by
  unfold ReignI at h ⊢
  dsimp only
  rw [h0, h1, h2]
  exact h
theorem name_eq {N : Nat} (hN : 12002 ≤ N) (c : Nat) {σT σD σR : St2} {r : Nat → Int32} {l : Nat} (hT : TxT σT r l) {s cr : Nat} {e : Int} {σM : St2 × (Nat → Int64)} (h : PS σD σM.1 r l s e) (hR : ReignI σR σM cr) : (∃ σD' σ' : St2, f_X3_readRuler N σD σT σR = some (false, σD') ∧ f_X8_name N σM = some (σ', σM.2) ∧ FR σD' σ' ∧ offR c σ' σM.1) ∨ (∃ (σD' σ' : St2) (i : Nat), f_X3_readRuler N σD σT σR = some (true, σD') ∧ f_X8_name N σM = some (σ', σM.2) ∧ Pend σD' σ' r l (stp r l s) ∧ i < cr ∧ σD' 0 7 = iI (i : Nat) ∧ σ' 0 33 = iI (i : Nat) ∧ σD' 0 8 = σ' 0 32 ∧ (∀ k, k ≠ 7 → k ≠ 8 → σD' 0 k = σD 0 k) ∧ (∀ k, k ≠ 15 → k ≠ 17 → k ≠ 32 → k ≠ 33 → σ' 0 k = σM.1 0 k) ∧ ∀ j, j ≠ 0 → σ' j = σM.1 j) := by
  obtain ⟨⟨hs, hb, h4, h3, h5⟩, he, ⟨q, hq, hsk, h15⟩, h17, hE⟩ := h
  obtain ⟨g16, g14, gw, g18, g19⟩ := hE
  have hl := hT.1
  have hsr := srt_rng r l s e
  have hsl := stp_le (r := r) hs
  have e1 := next_at hN hl hq h15 g16 g14
  rw [hsk] at e1
  have hc12 := hR.1
  generalize hσ : up2 (up2 σM.1 0 15 (iI (s : Nat))) 0 32 (iI (s : Nat)) = σ1
  have hσ15 : up2 σM.1 0 15 (iI (s : Nat)) 0 15 = iI (s : Nat) := u2e _ _ _ _
  have hσ17 : up2 σM.1 0 15 (iI (s : Nat)) 0 17 = iI e := by rw [u2n _ (Or.inr (by omega))]; exact h17
  have k15 : σ1 0 15 = iI (s : Nat) := by rw [← hσ, u2n _ (Or.inr (by omega))]; exact hσ15
  have k14 : σ1 14 = r := by rw [← hσ, u2r _ (by omega), u2r _ (by omega)]; exact g14
  have k16 : σ1 0 16 = iI (l : Nat) := by rw [← hσ, u2n _ (Or.inr (by omega)), u2n _ (Or.inr (by omega))]; exact g16
  have k18 : σ1 0 18 = 0 := by rw [← hσ, u2n _ (Or.inr (by omega)), u2n _ (Or.inr (by omega))]; exact g18
  have k32 : σ1 0 32 = iI (s : Nat) := by rw [← hσ, u2e]
  have kof : offR c σ1 σM.1 := by rw [← hσ]; exact offR_tr (offR_0 (by omega)) (offR_0 (by omega))
  have kfr : ∀ k, k ≠ 15 → k ≠ 32 → σ1 0 k = σM.1 0 k := fun k a b => by rw [← hσ, u2n _ (Or.inr b), u2n _ (Or.inr a)]
  have krw : ∀ j, j ≠ 0 → σ1 j = σM.1 j := fun j a => by rw [← hσ, u2r _ a, u2r _ a]
  unfold f_X3_readRuler f_X8_name lt
  rw [e1, Option.bind_some, h3, h4, h5]
  dsimp only
  rw [nbw hN hT hsl.1 hsl.2]
  by_cases c1 : s < l ∧ ltq r s = true ∧ ¬ (s : Int) = e
  · have hst : stp r l s = rn (ltq r) l s := by
      unfold stp
      rw [if_pos c1.1, if_pos c1.2.1]
    have hr := rn_le (ltq r) l (l - s) s (by omega)
    have hall := rn_all (ltq r) l (l - s) s (by omega)
    have hgt : s < rn (ltq r) l s := by
      rw [rn_step c1.1, if_pos c1.2.1]
      have := rn_le (ltq r) l (l - (s + 1)) (s + 1) (by omega)
      omega
    have hs1 := srt_1.mpr c1
    rw [if_neg (show ¬ bI (f_X8_isLetter (nxv r l s)) = 0 by unfold nxv; rw [if_pos c1.1, show f_X8_isLetter (r s) = true from c1.2.1]; exact bI_t), if_neg (show ¬ up2 σM.1 0 15 (iI (s : Nat)) 0 15 = up2 σM.1 0 15 (iI (s : Nat)) 0 17 by rw [hσ15, hσ17, iI_eq (by omega) (by omega) (by omega) (by omega)]; exact c1.2.2)]
    simp only [hσ15, hσ]
    have hwd : f_X8_wordEnd N (σ1, σM.2) = some (iI (rn (ltq r) l s : Nat)) := by
      unfold f_X8_wordEnd
      rw [show (σ1, σM.2).1 0 15 = iI (s : Nat) from k15]
      exact we5 hl (σ := (σ1, σM.2)) k16 k14 (l - s) s N (by omega) (by omega)
    rw [hwd, Option.bind_some, iI_sub, hst]
    by_cases c6 : rn (ltq r) l s ≤ s + 6
    · obtain ⟨M, hM⟩ := lets_all (r := σ1 14) (rn (ltq r) l s - s) s [] (fun i a b => by rw [k14]; exact hall i a (by omega))
      have hMT : lets (σT 1) s (rn (ltq r) l s - s) [] = some M := by
        rw [← hM, k14]
        exact lets_cg _ _ _ (fun i a b => (hT.2.2 i (by omega)).1)
      have hok := lets_ok _ _ _ _ (fun v hv => absurd hv (by simp)) hM
      have hsh : short M := by
        refine ⟨hok.1, ?_, ?_⟩ <;> (rw [hok.2]; simp only [List.length_nil]; omega)
      have hb32 := en32_b hsh
      have hpk := pkd_loop N (σM := (σ1, σM.2)) (e := rn (ltq r) l s) (by omega) (rn (ltq r) l s - s) N s [] M (by omega) (by omega) hM
      have hRe : ReignI σR (σ1, σM.2) cr := ReignI_fr hR (kfr 22 (by omega) (by omega)) (krw 25 (by omega)) (krw 26 (by omega))
      obtain ⟨o, o1, o2, o3⟩ := rf_loop N hRe hsh cr N N 0 (by omega) (by omega) (by omega)
      rw [if_pos ⟨hgt, c6⟩, hMT]
      dsimp only [Option.elim]
      rw [Option.bind_some, if_pos (show iI (srt r l s e) = 1 by rw [hs1]; rfl), if_neg (show ¬ iI (en 32 M : Nat) = -1 by rw [show (-1 : Int32) = iI (-1) from rfl, iI_eq (by omega) (by omega) (by omega) (by omega)]; omega), if_pos (by rw [show (6 : Int32) = iI 6 from rfl, iI_le (by omega) (by omega) (by omega) (by omega)]; omega)]
      unfold f_X4_find f_X8_packed f_X8_reignOf
      rw [show f_X8_packed_5 N N (σ1, σM.2) (iI (rn (ltq r) l s : Nat)) 0 (iI (s : Nat)) = _ from hpk, Option.bind_some, show f_X8_reignOf_2 N N (σ1, σM.2) (lI (en 27 M : Nat)) 0 = _ from o2, Option.bind_some, show f_X4_find_2 N N σR (iI (en 32 M : Nat)) 0 = _ from o1, Option.bind_some]
      unfold f_X8_name_75
      by_cases co : o = -1
      · left
        rw [if_pos co, if_pos co]
        have hf := fail_eq (σM := (up2 σ1 0 33 o, σM.2)) (by show up2 σ1 0 33 o 0 18 = 0; rw [u2n _ (Or.inr (by omega))]; exact k18) 3 ((σ1, σM.2).1 0 15)
        rw [hf]
        refine ⟨up2 (up2 (up2 (up2 σD 0 7 o) 0 8 (iI (s : Nat))) 0 9 3) 0 10 (iI (s : Nat)), (up2 (up2 (up2 (up2 (up2 σ1 0 33 o) 0 18 3) 0 19 (σ1 0 15)) 0 15 (iI (rn (ltq r) l s : Nat))) 0 17 (iI (rn (ltq r) l s : Nat))), rfl, rfl, ⟨?_, ?_, Or.inl ?_⟩, ?_⟩
        · rw [u2n _ (Or.inr (by omega)), u2n _ (Or.inr (by omega)), u2n _ (Or.inr (by omega)), u2e]; decide
        · show up2 (up2 (up2 (up2 σD 0 7 o) 0 8 (iI (s : Nat))) 0 9 3) 0 10 (iI (s : Nat)) 0 10 = _
          rw [u2e, u2n _ (Or.inr (by omega)), u2n _ (Or.inr (by omega)), u2e]
          exact k15.symm
        · show up2 (up2 (up2 (up2 σD 0 7 o) 0 8 (iI (s : Nat))) 0 9 3) 0 10 (iI (s : Nat)) 0 9 = _
          rw [u2n _ (Or.inr (by omega)), u2e, u2n _ (Or.inr (by omega)), u2n _ (Or.inr (by omega)), u2n _ (Or.inr (by omega)), u2e]
        · exact offR_tr (offR_0 (by omega)) (offR_tr (offR_0 (by omega)) (offR_tr (offR_fail _ _) (offR_tr (offR_0 (by omega)) kof)))
      · right
        rw [if_neg co, if_neg co]
        obtain ⟨i, hi, rfl⟩ := o3.resolve_left co
        refine ⟨up2 (up2 σD 0 7 (iI (i : Nat))) 0 8 (iI (s : Nat)), (up2 (up2 (up2 σ1 0 33 (iI (i : Nat))) 0 15 (iI (rn (ltq r) l s : Nat))) 0 17 (iI (rn (ltq r) l s : Nat))), i, rfl, rfl, ⟨by omega, Or.inl ?_, ?_, ?_, u2e _ _ _ _, ?_⟩, hi, ?_, ?_, ?_, ?_, ?_, ?_⟩
        · rw [u2n _ (Or.inr (by omega)), u2n _ (Or.inr (by omega)), h3, hs1]
        · rw [u2n _ (Or.inr (by omega)), u2n _ (Or.inr (by omega)), h5, hst]
        · rw [u2n _ (Or.inr (by omega)), u2e]
        · refine ⟨?_, ?_, ?_, ?_, ?_⟩
          · rw [u2n _ (Or.inr (by omega)), u2n _ (Or.inr (by omega)), u2n _ (Or.inr (by omega))]; exact k16
          · rw [u2r _ (by omega), u2r _ (by omega), u2r _ (by omega)]; exact k14
          · intro j a b
            rw [u2r _ (by omega), u2r _ (by omega), u2r _ (by omega)]
            exact (krw j (by omega)).trans (gw j a b)
          · rw [u2n _ (Or.inr (by omega)), u2n _ (Or.inr (by omega)), u2n _ (Or.inr (by omega))]; exact k18
          · rw [u2n _ (Or.inr (by omega)), u2n _ (Or.inr (by omega)), u2n _ (Or.inr (by omega))]
            exact (kfr 19 (by omega) (by omega)).trans g19
        · rw [u2n _ (Or.inr (by omega)), u2e]
        · rw [u2n _ (Or.inr (by omega)), u2n _ (Or.inr (by omega)), u2e]
        · rw [u2e, u2n _ (Or.inr (by omega)), u2n _ (Or.inr (by omega)), u2n _ (Or.inr (by omega))]; exact k32.symm
        · intro k a b
          rw [u2n _ (Or.inr b), u2n _ (Or.inr a)]
        · intro k a b d f
          rw [u2n _ (Or.inr b), u2n _ (Or.inr a), u2n _ (Or.inr f)]
          exact kfr k a d
        · intro j a
          rw [u2r _ a, u2r _ a, u2r _ a]
          exact krw j a
    · left
      rw [if_neg (by omega), Option.bind_some, if_pos (show iI (srt r l s e) = 1 by rw [hs1]; rfl), if_pos rfl, if_neg (by rw [show (6 : Int32) = iI 6 from rfl, iI_le (by omega) (by omega) (by omega) (by omega)]; omega)]
      unfold f_X8_name_75
      rw [if_pos rfl]
      have hf := fail_eq (σM := (up2 σ1 0 33 (-1), σM.2)) (by show up2 σ1 0 33 (-1) 0 18 = 0; rw [u2n _ (Or.inr (by omega))]; exact k18) 3 ((σ1, σM.2).1 0 15)
      rw [hf]
      refine ⟨up2 (up2 σD 0 9 1) 0 10 (iI (s : Nat)), (up2 (up2 (up2 (up2 (up2 σ1 0 33 (-1)) 0 18 3) 0 19 (σ1 0 15)) 0 15 (iI (rn (ltq r) l s : Nat))) 0 17 (iI (rn (ltq r) l s : Nat))), rfl, rfl, ⟨?_, ?_, Or.inr ⟨?_, ?_⟩⟩, ?_⟩
      · rw [u2n _ (Or.inr (by omega)), u2n _ (Or.inr (by omega)), u2n _ (Or.inr (by omega)), u2e]; decide
      · show up2 (up2 σD 0 9 1) 0 10 (iI (s : Nat)) 0 10 = _
        rw [u2e, u2n _ (Or.inr (by omega)), u2n _ (Or.inr (by omega)), u2e]
        exact k15.symm
      · show up2 (up2 σD 0 9 1) 0 10 (iI (s : Nat)) 0 9 = _
        rw [u2n _ (Or.inr (by omega)), u2e]
      · rw [u2n _ (Or.inr (by omega)), u2n _ (Or.inr (by omega)), u2n _ (Or.inr (by omega)), u2e]
      · exact offR_tr (offR_0 (by omega)) (offR_tr (offR_0 (by omega)) (offR_tr (offR_fail _ _) (offR_tr (offR_0 (by omega)) kof)))
  · left
    have hsort : ¬ iI (srt r l s e) = 1 := by rw [show (1 : Int32) = iI 1 from rfl, iI_eq (by omega) (by omega) (by omega) (by omega), srt_1]; exact c1
    have hnb : ∃ o, (if s < stp r l s ∧ stp r l s ≤ s + 6 then (lets (σT 1) s (stp r l s - s) []).elim (some (-1)) (fun M => some (iI (en 32 M : Nat))) else some (-1)) = some o := by
      split
      · cases lets (σT 1) s (stp r l s - s) [] with
        | none => exact ⟨_, rfl⟩
        | some M => exact ⟨_, rfl⟩
      · exact ⟨_, rfl⟩
    obtain ⟨o, ho⟩ := hnb
    rw [ho, Option.bind_some, if_neg hsort]
    have hf := fail_eq (σM := (σ1, σM.2)) k18 1 (iI (s : Nat))
    have hend : ∃ σD' σ' : St2, some ((f_X3_refuse σD 1 (iI (s : Nat))).1, (f_X3_refuse σD 1 (iI (s : Nat))).2) = some (false, σD') ∧ some (f_X8_fail (σ1, σM.2) 1 (iI (s : Nat))) = some (σ', σM.2) ∧ FR σD' σ' ∧ offR c σ' σM.1 := by
      rw [hf]
      exact ⟨_, _, rfl, rfl, FR_of 1 _ (by decide), offR_tr (offR_fail _ _) kof⟩
    by_cases c3 : bI (f_X8_isLetter (nxv r l s)) = 0
    · rw [if_pos c3, hσ15, hσ]
      exact hend
    · have hd : s < l ∧ ltq r s = true := by
        unfold nxv at c3
        by_cases d : s < l
        · rw [if_pos d] at c3
          refine ⟨d, ?_⟩
          by_cases d2 : ltq r s = true
          · exact d2
          · exfalso
            apply c3
            rw [show f_X8_isLetter (r s) = false from Bool.eq_false_iff.mpr d2]
            exact bI_f
        · rw [if_neg d] at c3
          exact absurd (show bI (f_X8_isLetter (-1)) = 0 by decide) c3
      have hse : (s : Int) = e := Decidable.byContradiction (fun g => c1 ⟨hd.1, hd.2, g⟩)
      rw [if_neg c3, if_pos (show up2 σM.1 0 15 (iI (s : Nat)) 0 15 = up2 σM.1 0 15 (iI (s : Nat)) 0 17 by rw [hσ15, hσ17, hse]), hσ15, hσ]
      exact hend
