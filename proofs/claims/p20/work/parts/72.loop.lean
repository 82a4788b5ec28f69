/-! record: the parts, the calendar -/
def mz (nm : Nat → Int) : Nat := (if nm 0 = -1 then 1 else 0) + (if nm 1 = -1 then 1 else 0) + (if nm 2 = -1 then 1 else 0) + (if nm 3 = -1 then 1 else 0)
theorem mz_up {nm : Nat → Int} {p : Nat} {v : Int} (hp : p < 4) (h : nm p = -1) (hv : 0 ≤ v) : mz (nmu nm p v) + 1 = mz nm := by
  have hv1 : ¬ v = -1 := by omega
  unfold mz nmu
  rcases (by omega : p = 0 ∨ p = 1 ∨ p = 2 ∨ p = 3) with rfl | rfl | rfl | rfl
  · rw [if_pos rfl, if_neg hv1, if_neg (by omega : ¬ (1 : Nat) = 0), if_neg (by omega : ¬ (2 : Nat) = 0), if_neg (by omega : ¬ (3 : Nat) = 0), if_pos h]
    omega
  · rw [if_pos rfl, if_neg hv1, if_neg (by omega : ¬ (0 : Nat) = 1), if_neg (by omega : ¬ (2 : Nat) = 1), if_neg (by omega : ¬ (3 : Nat) = 1), if_pos h]
    omega
  · rw [if_pos rfl, if_neg hv1, if_neg (by omega : ¬ (0 : Nat) = 2), if_neg (by omega : ¬ (1 : Nat) = 2), if_neg (by omega : ¬ (3 : Nat) = 2), if_pos h]
    omega
  · rw [if_pos rfl, if_neg hv1, if_neg (by omega : ¬ (0 : Nat) = 3), if_neg (by omega : ¬ (1 : Nat) = 3), if_neg (by omega : ¬ (2 : Nat) = 3), if_pos h]
theorem in_eq {N : Nat} (hN : 12002 ≤ N) {c : Nat} {σT σD : St2} {r : Nat → Int32} {l : Nat} (hT : TxT σT r l) {s : Nat} {e : Int} {σM : St2 × (Nat → Int64)} (h : PS σD σM.1 r l s e) (h7 : f_X3_isWord N σD σT 7 = some true) (n : Nat) : ∃ (σ' : St2), f_X8_reads_41 N (n + 1 + 1) σM (iI (c : Nat)) 1 = f_X8_reads_232 N (σ', σM.2) (iI (c : Nat)) ∧ Pend σD σ' r l (stp r l s) ∧ offL σ' σM.1 := by
  have h2 : stp r l s = s + 2 := by
    rcases tk hN hT (kh := 7) (by omega) h with ⟨m1, -⟩ | ⟨m1, σ2, m2, m3, m4, m5⟩
    · rw [h7] at m1
      exact absurd (Option.some.inj m1) (by decide)
    · exact m5
  have hh := h
  obtain ⟨hH, he, ⟨q, hq, hsk, h15⟩, h17, hE⟩ := h
  have hl := hT.1
  have e1 := next_at hN hl hq h15 hE.1 hE.2.1
  rw [hsk] at e1
  have hP0 : PS σD (up2 σM.1 0 15 (iI (s : Nat))) r l s e := ⟨hH, he, ⟨s, hH.1, hH.2.1, u2e _ _ _ _⟩, by rw [u2n _ (Or.inr (by omega))]; exact h17, EnvM_L hE (offL_15 _ _)⟩
  rw [f_X8_reads_41, if_neg (by decide), if_pos hE.2.2.2.1, e1, Option.bind_some]
  rcases part_word hN hT (σM := (up2 σM.1 0 15 (iI (s : Nat)), σM.2)) hP0 with ⟨k1, σ1, k2, k3, k4, k5⟩ | ⟨p, hp, k1, σ1, k2, k3, k4, k5⟩
  · rw [k2, Option.bind_some, if_pos rfl, f_X8_reads_41, if_pos rfl]
    unfold f_X8_reads_205
    dsimp only
    rw [if_pos (show σ1 0 18 = 0 from k3.2.2.2.2.2.2.2.1)]
    rcases tk hN hT (kh := 7) (by omega) (σM := (σ1, σM.2)) k3 with ⟨m1, -⟩ | ⟨m1, σ2, m2, m3, m4, -⟩
    · rw [h7] at m1
      exact absurd (Option.some.inj m1) (by decide)
    · rw [show f_X8_takes N (σ1, σM.2) 46 = _ from m2, Option.bind_some, if_neg bI_t]
      exact ⟨σ2, rfl, m3, offL_tr m4 (offL_tr k5 (offL_15 _ _))⟩
  · omega
theorem parts_loop {N : Nat} (hN : 12002 ≤ N) {c : Nat} (hc : c ≤ 8) {σT σR : St2} {r : Nat → Int32} {l cr : Nat} (hT : TxT σT r l) : ∀ (m n n' k s : Nat) (e : Int) (σD : St2) (σA : St2 × Int64) (σM : St2 × (Nat → Int64)) (nm : Nat → Int), mz nm ≤ m → k + m ≤ 4 → m + 1 ≤ n → m + 2 ≤ n' → PS σD σM.1 r l s e → ReignI σR σM cr → NmI σA.1 σM.1 c nm → RuI σD σM.1 cr → (∃ (σD' : St2) (σA' : St2 × Int64) (σ' : St2), f_X3_readParts_2 N n σD σT σR σA (iI (k : Nat)) = some (false, σD', σA') ∧ f_X8_reads_41 N n' σM (iI (c : Nat)) 1 = some (σ', σM.2) ∧ FR σD' σ' ∧ offR c σ' σM.1) ∨ (∃ (σD' : St2) (σA' : St2 × Int64) (σ' : St2) (nm' : Nat → Int) (t : Nat), f_X3_readParts_2 N n σD σT σR σA (iI (k : Nat)) = some (true, σD', σA') ∧ f_X8_reads_41 N n' σM (iI (c : Nat)) 1 = f_X8_reads_232 N (σ', σM.2) (iI (c : Nat)) ∧ Pend σD' σ' r l t ∧ NmI σA'.1 σ' c nm' ∧ RuI σD' σ' cr ∧ (∀ i, σA'.1 0 i = σA.1 0 i) ∧ offR c σ' σM.1 ∧ (σ' 28 = σM.1 28 ∧ σ' 31 = σM.1 31) ∧ ∀ i, i ≠ 3 → i ≠ 4 → i ≠ 5 → i ≠ 7 → i ≠ 8 → σD' 0 i = σD 0 i) := by
  intro m
  induction m with
  | zero =>
    intro n n' k s e σD σA σM nm hmz hk hn hn' h hR hnm hru
    obtain ⟨a, rfl⟩ : ∃ a, n = a + 1 := ⟨n - 1, by omega⟩
    obtain ⟨b, rfl⟩ : ∃ b, n' = b + 1 + 1 := ⟨n' - 2, by omega⟩
    rw [f_X3_readParts_2, if_neg (show ¬ (4 : Int32) < iI (k : Nat) by rw [show (4 : Int32) = iI 4 from rfl, iI_lt (by omega) (by omega) (by omega) (by omega)]; omega)]
    rcases tk hN hT (kh := 7) (by omega) h with ⟨m1, -⟩ | ⟨m1, -⟩
    · rw [m1, Option.bind_some, if_pos bI_f]
      rcases part_eq hN hc hT h hR hnm hru m1 b with ⟨σD', σA', σ', p1, p2, p3, p4⟩ | ⟨σD', σA', σ', p, v, s', e', p1, p2, p3, p4, p5, p6, -⟩
      · left
        rw [p1, Option.bind_some, if_pos bI_f, p2]
        exact ⟨_, _, _, rfl, rfl, p3, p4⟩
      · exfalso
        have := mz_up p4 p5 p6.1
        omega
    · right
      rw [m1, Option.bind_some, if_neg bI_t]
      obtain ⟨σ', q1, q2, q3⟩ := in_eq hN (c := c) hT h m1 b
      rw [q1]
      exact ⟨σD, σA, σ', nm, _, rfl, rfl, q2, NmI_L hnm (offL_r q3 (by omega)), RuI_fr hru rfl rfl (q3.1 33 (by omega) (by omega)) (q3.1 32 (by omega) (by omega)), fun _ => rfl, offR_L q3, ⟨q3.2 28 (by omega), q3.2 31 (by omega)⟩, fun _ _ _ _ _ _ => rfl⟩
  | succ m IH =>
    intro n n' k s e σD σA σM nm hmz hk hn hn' h hR hnm hru
    obtain ⟨a, rfl⟩ : ∃ a, n = a + 1 := ⟨n - 1, by omega⟩
    obtain ⟨b, rfl⟩ : ∃ b, n' = b + 1 + 1 := ⟨n' - 2, by omega⟩
    rw [f_X3_readParts_2, if_neg (show ¬ (4 : Int32) < iI (k : Nat) by rw [show (4 : Int32) = iI 4 from rfl, iI_lt (by omega) (by omega) (by omega) (by omega)]; omega)]
    rcases tk hN hT (kh := 7) (by omega) h with ⟨m1, -⟩ | ⟨m1, -⟩
    · rw [m1, Option.bind_some, if_pos bI_f]
      rcases part_eq hN hc hT h hR hnm hru m1 b with ⟨σD', σA', σ', p1, p2, p3, p4⟩ | ⟨σD1, σA1, σ1, p, v, s', e', p1, p2, p3, p4, p5, p6, p7, p8, p9, p10, p11, p12⟩
      · left
        rw [p1, Option.bind_some, if_pos bI_f, p2]
        exact ⟨_, _, _, rfl, rfl, p3, p4⟩
      · have hz := mz_up p4 p5 p6.1
        have hR1 : ReignI σR (σ1, σM.2) cr := ReignI_fr hR (p10.1 22 (by omega) (by omega) (by omega) (by omega) (by omega) (by omega)) (p10.2.1 25 (by omega) (by omega) (by omega) (by omega)) (p10.2.1 26 (by omega) (by omega) (by omega) (by omega))
        rw [p1, Option.bind_some, if_neg bI_t, p2, nx]
        rcases IH a (b + 1) (k + 1) s' e' σD1 σA1 (σ1, σM.2) (nmu nm p v) (by omega) (by omega) (by omega) (by omega) p3 hR1 p7 p8 with ⟨σD', σA', σ', q1, q2, q3, q4⟩ | ⟨σD', σA', σ', nm', t, q1, q2, q3, q4, q5, q6, q7, q8, q9⟩
        · left
          exact ⟨_, _, _, q1, q2, q3, offR_tr q4 p10⟩
        · right
          exact ⟨σD', σA', σ', nm', t, q1, q2, q3, q4, q5, fun i => (q6 i).trans (p9 i), offR_tr q7 p10, ⟨q8.1.trans p11.1, q8.2.trans p11.2⟩, fun i x y z u w => (q9 i x y z u w).trans (p12 i x y z u w)⟩
    · right
      rw [m1, Option.bind_some, if_neg bI_t]
      obtain ⟨σ', q1, q2, q3⟩ := in_eq hN (c := c) hT h m1 b
      rw [q1]
      exact ⟨σD, σA, σ', nm, _, rfl, rfl, q2, NmI_L hnm (offL_r q3 (by omega)), RuI_fr hru rfl rfl (q3.1 33 (by omega) (by omega)) (q3.1 32 (by omega) (by omega)), fun _ => rfl, offR_L q3, ⟨q3.2 28 (by omega), q3.2 31 (by omega)⟩, fun _ _ _ _ _ _ => rfl⟩
theorem EnvM_31 {σ : St2} {r : Nat → Int32} {l x : Nat} {v : Int32} (h : EnvM σ r l) : EnvM (up2 σ 31 x v) r l := by
  obtain ⟨h1, h2, h3, h4, h5⟩ := h
  refine ⟨by rw [u2n _ (Or.inl (by omega))]; exact h1, by rw [u2r _ (by omega)]; exact h2, fun j a b => by rw [u2r _ (by omega)]; exact h3 j a b, by rw [u2n _ (Or.inl (by omega))]; exact h4, by rw [u2n _ (Or.inl (by omega))]; exact h5⟩
theorem Pend_31 {σD σ : St2} {r : Nat → Int32} {l t x : Nat} {v : Int32} (h : Pend σD σ r l t) : Pend σD (up2 σ 31 x v) r l t := by
  obtain ⟨h1, h2, h3, h4, h5, h6⟩ := h
  exact ⟨h1, h2, h3, by rw [u2n _ (Or.inl (by omega))]; exact h4, by rw [u2n _ (Or.inl (by omega))]; exact h5, EnvM_31 h6⟩
theorem r290 {N c : Nat} (hc : c ≤ 8) {σ : St2 × (Nat → Int64)} (h : σ.1 0 18 = 0) {k : Int} (hk : 0 ≤ k ∧ k ≤ 2) : f_X8_reads_290 N σ (iI (c : Nat)) (iI k) (iI (c : Nat)) = f_X8_reads_317 N (up2 σ.1 31 c (iI k), σ.2) (iI (c : Nat)) := by
  unfold f_X8_reads_290 f_X8_reads_291
  have hix : ¬ (iI (c : Nat) < 0 ∨ 9 ≤ Int32.toNatClampNeg (iI (c : Nat))) := ix_no (by omega) (by omega) (by omega)
  rw [if_neg hix, iI_clamp (by omega) (by omega), show ((c : Int)).toNat = c from rfl]
  dsimp only
  rw [if_pos (show up2 σ.1 31 c (iI k) 0 18 = 0 by rw [u2n _ (Or.inl (by omega))]; exact h), if_neg (show ¬ (iI (c : Nat) < 0 ∨ 9 ≤ c) by rw [show (0 : Int32) = iI 0 from rfl, iI_lt (by omega) (by omega) (by omega) (by omega)]; omega), if_neg (show ¬ up2 σ.1 31 c (iI k) 31 c = -1 by rw [u2e]; exact fun g => by have := (iI_m1 (v := k) (by omega) (by omega)).mp g; omega)]
theorem cal_eq {N : Nat} (hN : 12002 ≤ N) {c : Nat} (hc : c ≤ 8) {σT σD : St2} {σA : St2 × Int64} {r : Nat → Int32} {l t : Nat} (hT : TxT σT r l) {σM : St2 × (Nat → Int64)} (h : Pend σD σM.1 r l t) : (∃ σD' σ' : St2, f_X3_readCalendar N σD σT σA = some (false, σD', σA) ∧ f_X8_reads_232 N σM (iI (c : Nat)) = some (σ', σM.2) ∧ FR σD' σ' ∧ offR c σ' σM.1) ∨ (∃ (k : Int) (σD' σ' : St2) (t' : Nat), (k = 0 ∨ k = 1 ∨ k = 2) ∧ f_X3_readCalendar N σD σT σA = some (true, σD', f_X0_setCalendar σA (iI k)) ∧ f_X8_reads_232 N σM (iI (c : Nat)) = f_X8_reads_317 N (σ', σM.2) (iI (c : Nat)) ∧ Pend σD' σ' r l t' ∧ σD' 0 6 = iI k ∧ σ' 31 c = iI k ∧ offR c σ' σM.1 ∧ (∀ i, i ≠ 15 → i ≠ 17 → σ' 0 i = σM.1 0 i) ∧ (∀ j, j ≠ 0 → j ≠ 31 → σ' j = σM.1 j) ∧ ∀ i, i ≠ 3 → i ≠ 4 → i ≠ 5 → i ≠ 6 → σD' 0 i = σD 0 i) := by
  obtain ⟨σD1, a1, a2, a3⟩ := adv_pend hN hT h
  unfold f_X3_readCalendar f_X8_reads_232
  rw [a1, Option.bind_some, if_pos h.2.2.2.2.2.2.2.2.1]
  have good : ∀ (k : Int) (σ1 : St2), (k = 0 ∨ k = 1 ∨ k = 2) → Pend σD1 σ1 r l (stp r l (rn (bkq r) l t)) → offL σ1 σM.1 → ∃ (σD' σ' : St2) (t' : Nat), up2 σD1 0 6 (iI k) = σD' ∧ f_X8_reads_290 N (σ1, σM.2) (iI (c : Nat)) (iI k) (iI (c : Nat)) = f_X8_reads_317 N (σ', σM.2) (iI (c : Nat)) ∧ Pend σD' σ' r l t' ∧ σD' 0 6 = iI k ∧ σ' 31 c = iI k ∧ offR c σ' σM.1 ∧ (∀ i, i ≠ 15 → i ≠ 17 → σ' 0 i = σM.1 0 i) ∧ (∀ j, j ≠ 0 → j ≠ 31 → σ' j = σM.1 j) ∧ ∀ i, i ≠ 3 → i ≠ 4 → i ≠ 5 → i ≠ 6 → σD' 0 i = σD 0 i := by
    intro k σ1 hk hp ho
    refine ⟨_, up2 σ1 31 c (iI k), _, rfl, r290 hc (σ := (σ1, σM.2)) hp.2.2.2.2.2.2.2.2.1 (by omega), Pend_31 (Pend_D hp (u2n _ (Or.inr (by omega))) (u2n _ (Or.inr (by omega)))), u2e _ _ _ _, u2e _ _ _ _, offR_tr offR_31 (offR_L ho), fun i x y => by rw [u2n _ (Or.inl (by omega))]; exact ho.1 i x y, fun j x y => by rw [u2r _ y]; exact ho.2 j x, fun i x y z w => by rw [u2n _ (Or.inr w)]; exact a2 i x y z⟩
  rcases tk hN hT (kh := 13) (by omega) a3 with ⟨k1, σ1, k2, k3, k4, k5⟩ | ⟨k1, σ1, k2, k3, k4, -⟩
  · rw [k1, Option.bind_some, if_pos bI_f, show f_X8_takes N σM 47 = _ from k2, Option.bind_some, if_pos bI_f]
    rcases tk hN hT (kh := 14) (by omega) (σM := (σ1, σM.2)) k3 with ⟨m1, σ2, m2, m3, m4, m5⟩ | ⟨m1, σ2, m2, m3, m4, -⟩
    · rw [m1, Option.bind_some, if_pos bI_f, show f_X8_takes N (σ1, σM.2) 48 = _ from m2, Option.bind_some, if_pos bI_f]
      rcases tk hN hT (kh := 15) (by omega) (σM := (σ2, σM.2)) m3 with ⟨n1, σ3, n2, n3, n4, n5⟩ | ⟨n1, σ3, n2, n3, n4, -⟩
      · left
        rw [n1, Option.bind_some, if_pos bI_f, show f_X8_takes N (σ2, σM.2) 49 = _ from n2, Option.bind_some, if_pos bI_f]
        unfold f_X8_reads_290 f_X8_reads_291
        have hix : ¬ (iI (c : Nat) < 0 ∨ 9 ≤ Int32.toNatClampNeg (iI (c : Nat))) := ix_no (by omega) (by omega) (by omega)
        rw [if_neg hix, iI_clamp (by omega) (by omega), show ((c : Int)).toNat = c from rfl]
        dsimp only
        have hb3 : up2 σ3 31 c (-1) 0 18 = 0 := by rw [u2n _ (Or.inl (by omega))]; exact n3.2.2.2.2.2.2.2.1
        have hb15 : up2 σ3 31 c (-1) 0 15 = iI (rn (bkq r) l t : Nat) := by rw [u2n _ (Or.inl (by omega))]; exact n4
        have hf := fail_eq (σM := (up2 σ3 31 c (-1), σM.2)) hb3 1 (iI (rn (bkq r) l t : Nat))
        rw [if_pos hb3, if_neg (show ¬ (iI (c : Nat) < 0 ∨ 9 ≤ c) by rw [show (0 : Int32) = iI 0 from rfl, iI_lt (by omega) (by omega) (by omega) (by omega)]; omega), if_pos (show up2 σ3 31 c (-1) 31 c = -1 from u2e _ _ _ _), hb15, hf, dead317 (by show ¬ up2 (up2 (up2 σ3 31 c (-1)) 0 18 1) 0 19 (iI (rn (bkq r) l t : Nat)) 0 18 = 0; rw [u2n _ (Or.inr (by omega)), u2e]; decide), a3.1.2.2.1]
        exact ⟨_, _, rfl, rfl, FR_15 (FR_of 1 _ (by decide)), offR_tr (offR_0 (by omega)) (offR_tr (offR_fail _ _) (offR_tr offR_31 (offR_L (offL_tr n5 (offL_tr m5 k5)))))⟩
      · right
        rw [n1, Option.bind_some, if_neg bI_t, show f_X8_takes N (σ2, σM.2) 49 = _ from n2, Option.bind_some, if_neg bI_t]
        obtain ⟨σD', σ', t', g1, g2⟩ := good 2 σ3 (Or.inr (Or.inr rfl)) n3 (offL_tr n4 (offL_tr m5 k5))
        exact ⟨2, σD', σ', t', Or.inr (Or.inr rfl), by rw [← g1]; rfl, g2⟩
    · right
      rw [m1, Option.bind_some, if_neg bI_t, show f_X8_takes N (σ1, σM.2) 48 = _ from m2, Option.bind_some, if_neg bI_t]
      obtain ⟨σD', σ', t', g1, g2⟩ := good 1 σ2 (Or.inr (Or.inl rfl)) m3 (offL_tr m4 k5)
      exact ⟨1, σD', σ', t', Or.inr (Or.inl rfl), by rw [← g1]; rfl, g2⟩
  · right
    rw [k1, Option.bind_some, if_neg bI_t, show f_X8_takes N σM 47 = _ from k2, Option.bind_some, if_neg bI_t]
    obtain ⟨σD', σ', t', g1, g2⟩ := good 0 σ1 (Or.inl rfl) k3 k4
    exact ⟨0, σD', σ', t', Or.inl rfl, by rw [← g1]; rfl, g2⟩
