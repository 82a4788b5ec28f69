/-! record: what -/
def offR (c : Nat) (σ' σ : St2) : Prop := (∀ i, i ≠ 15 → i ≠ 17 → i ≠ 18 → i ≠ 19 → i ≠ 32 → i ≠ 33 → σ' 0 i = σ 0 i) ∧ (∀ j, j ≠ 0 → j ≠ 28 → j ≠ 29 → j ≠ 31 → σ' j = σ j) ∧ (∀ k, k ≠ c → σ' 28 k = σ 28 k ∧ σ' 31 k = σ 31 k) ∧ ∀ x, (x < 4 * c ∨ 4 * c + 4 ≤ x) → σ' 29 x = σ 29 x
theorem offR_rf (c : Nat) (σ : St2) : offR c σ σ := ⟨fun _ _ _ _ _ _ _ => rfl, fun _ _ _ _ _ => rfl, fun _ _ => ⟨rfl, rfl⟩, fun _ _ => rfl⟩
theorem offR_tr {c : Nat} {x y z : St2} (h : offR c x y) (g : offR c y z) : offR c x z := ⟨fun i a b c d e f => (h.1 i a b c d e f).trans (g.1 i a b c d e f), fun j a b c d => (h.2.1 j a b c d).trans (g.2.1 j a b c d), fun k a => ⟨(h.2.2.1 k a).1.trans (g.2.2.1 k a).1, (h.2.2.1 k a).2.trans (g.2.2.1 k a).2⟩, fun k a => (h.2.2.2 k a).trans (g.2.2.2 k a)⟩
theorem offR_L {c : Nat} {x y : St2} (h : offL x y) : offR c x y := ⟨fun i a b _ _ _ _ => h.1 i a b, fun j a _ _ _ => h.2 j a, fun k _ => ⟨congrFun (h.2 28 (by omega)) k, congrFun (h.2 31 (by omega)) k⟩, fun k _ => congrFun (h.2 29 (by omega)) k⟩
theorem offR_0 {c : Nat} {σ : St2} {i : Nat} {v : Int32} (h : i = 15 ∨ i = 17 ∨ i = 18 ∨ i = 19 ∨ i = 32 ∨ i = 33) : offR c (up2 σ 0 i v) σ := ⟨fun k a b c d e f => u2n _ (Or.inr (by omega)), fun j a _ _ _ => u2r _ a, fun k _ => ⟨u2n _ (Or.inl (by omega)), u2n _ (Or.inl (by omega))⟩, fun k _ => u2n _ (Or.inl (by omega))⟩
theorem offR_28 {c : Nat} {σ : St2} {v : Int32} : offR c (up2 σ 28 c v) σ := ⟨fun k a b c d e f => u2n _ (Or.inl (by omega)), fun j _ a _ _ => u2r _ a, fun k h => ⟨u2n _ (Or.inr h), u2n _ (Or.inl (by omega))⟩, fun k _ => u2n _ (Or.inl (by omega))⟩
theorem offR_31 {c : Nat} {σ : St2} {v : Int32} : offR c (up2 σ 31 c v) σ := ⟨fun k a b c d e f => u2n _ (Or.inl (by omega)), fun j _ _ _ a => u2r _ a, fun k h => ⟨u2n _ (Or.inl (by omega)), u2n _ (Or.inr h)⟩, fun k _ => u2n _ (Or.inl (by omega))⟩
theorem offR_29 {c : Nat} {σ : St2} {p : Nat} {v : Int32} (hp : p < 4) : offR c (up2 σ 29 (4 * c + p) v) σ := ⟨fun k a b c d e f => u2n _ (Or.inl (by omega)), fun j _ _ a _ => u2r _ a, fun k h => ⟨u2n _ (Or.inl (by omega)), u2n _ (Or.inl (by omega))⟩, fun k h => u2n _ (Or.inr (by omega))⟩
def FR (σD σ : St2) : Prop := ¬ σ 0 18 = 0 ∧ σD 0 10 = σ 0 19 ∧ (σD 0 9 = σ 0 18 ∨ (σD 0 9 = 1 ∧ σ 0 18 = 3))
def PS (σD σ : St2) (r : Nat → Int32) (l s : Nat) (e : Int) : Prop := HD σD r l s e ∧ (-1 ≤ e ∧ e ≤ 200) ∧ (∃ p, p ≤ l ∧ rn (bkq r) l p = s ∧ σ 0 15 = iI (p : Nat)) ∧ σ 0 17 = iI e ∧ EnvM σ r l
def Pend (σD σ : St2) (r : Nat → Int32) (l t : Nat) : Prop := t ≤ l ∧ (σD 0 3 = iI 1 ∨ σD 0 3 = iI 2) ∧ σD 0 5 = iI (t : Nat) ∧ σ 0 15 = iI (t : Nat) ∧ σ 0 17 = iI (t : Nat) ∧ EnvM σ r l
theorem tk {N : Nat} (hN : 12002 ≤ N) {σT σD : St2} {r : Nat → Int32} {l : Nat} (hT : TxT σT r l) {kh : Nat} (hk : kh < 16) {s : Nat} {e : Int} {σM : St2 × (Nat → Int64)} (h : PS σD σM.1 r l s e) : (f_X3_isWord N σD σT kh = some false ∧ ∃ σ' : St2, f_X8_takes N σM (kmap kh) = some (false, (σ', σM.2)) ∧ PS σD σ' r l s e ∧ σ' 0 15 = iI (s : Nat) ∧ offL σ' σM.1) ∨ (f_X3_isWord N σD σT kh = some true ∧ ∃ σ' : St2, f_X8_takes N σM (kmap kh) = some (true, (σ', σM.2)) ∧ Pend σD σ' r l (stp r l s) ∧ offL σ' σM.1 ∧ stp r l s = s + wlen (kmap kh)) := by
  obtain ⟨hH, he, ⟨p, hp, hsk, h15⟩, h17, hE⟩ := h
  rcases word_eq hN hT hk hH he hp hsk h15 h17 hE with ⟨k1, k2⟩ | ⟨k1, k2, k3, k4, k5⟩
  · left
    refine ⟨k1, _, k2, ⟨hH, he, ⟨s, hH.1, hH.2.1, u2e _ _ _ _⟩, ?_, EnvM_L hE (offL_15 _ _)⟩, u2e _ _ _ _, offL_15 _ _⟩
    rw [u2n _ (Or.inr (by omega))]
    exact h17
  · right
    refine ⟨k1, _, k2, ⟨k5, Or.inl ?_, hH.2.2.2.2, ?_, u2e _ _ _ _, EnvM_L hE (offL_1517 _ _ _)⟩, offL_1517 _ _ _, k4⟩
    · rw [hH.2.2.2.1, k3]
    · rw [u2n _ (Or.inr (by omega)), u2e]
theorem adv_pend {N : Nat} (hN : 12002 ≤ N) {σT σD σ : St2} {r : Nat → Int32} {l : Nat} (hT : TxT σT r l) {t : Nat} (h : Pend σD σ r l t) : ∃ σD' : St2, f_X3_advance N σD σT = some σD' ∧ offT σD' σD ∧ PS σD' σ r l (rn (bkq r) l t) (t : Int) := by
  obtain ⟨ht, h3, h5, h15, h17, hE⟩ := h
  have hl := hT.1
  have key : ∀ τ : Int, (τ = 1 ∨ τ = 2) → σD 0 3 = iI τ → ∃ σD' : St2, f_X3_advance N σD σT = some σD' ∧ offT σD' σD ∧ PS σD' σ r l (rn (bkq r) l t) (t : Int) := by
    intro τ hτ hh
    obtain ⟨σ', k1, k2, k3⟩ := adv_eq hN hT ht (τ := τ) (by omega) hh h5
    rw [if_pos hτ] at k3
    exact ⟨σ', k1, k2, k3, by omega, ⟨t, ht, rfl, h15⟩, h17, hE⟩
  rcases h3 with h3 | h3
  · exact key 1 (Or.inl rfl) h3
  · exact key 2 (Or.inr rfl) h3
theorem Pend_D {σD σD' σ : St2} {r : Nat → Int32} {l t : Nat} (h : Pend σD σ r l t) (h3 : σD' 0 3 = σD 0 3) (h5 : σD' 0 5 = σD 0 5) : Pend σD' σ r l t := by
  unfold Pend
  rw [h3, h5]
  exact h
theorem fail_eq {σM : St2 × (Nat → Int64)} (h : σM.1 0 18 = 0) (k p : Int32) : f_X8_fail σM k p = (up2 (up2 σM.1 0 18 k) 0 19 p, σM.2) := by
  unfold f_X8_fail
  rw [if_pos h]
theorem FR_of {σD σ : St2} (k p : Int32) (hk : ¬ k = 0) : FR (up2 (up2 σD 0 9 k) 0 10 p) (up2 (up2 σ 0 18 k) 0 19 p) := by
  unfold FR
  rw [u2n (up2 σ 0 18 k) (j := 0) (i := 19) (b := 0) (x := 18) (Or.inr (by omega)), u2e, u2e, u2e, u2n _ (Or.inr (by omega)), u2e]
  exact ⟨hk, rfl, Or.inl rfl⟩
theorem offR_fail {c : Nat} {σ : St2} (k p : Int32) : offR c (up2 (up2 σ 0 18 k) 0 19 p) σ := offR_tr (offR_0 (by omega)) (offR_0 (by omega))
theorem what_eq {N : Nat} (hN : 12002 ≤ N) (c : Nat) {σT σD : St2} {r : Nat → Int32} {l : Nat} (hT : TxT σT r l) {s : Nat} {e : Int} {σM : St2 × (Nat → Int64)} (h : PS σD σM.1 r l s e) (σA : St2 × Int64) : (∃ σD' σ' : St2, f_X3_readWhat N σD σT σA = some (false, σD', σA) ∧ f_X8_whats N σM = some (0, (σ', σM.2)) ∧ FR σD' σ' ∧ offR c σ' σM.1) ∨ (∃ (σD' σ' : St2) (K : Int32) (s' : Nat) (e' : Int), f_X3_readWhat N σD σT σA = some (true, σD', f_X0_setKinds σA K) ∧ f_X8_whats N σM = some (K, (σ', σM.2)) ∧ PS σD' σ' r l s' e' ∧ offT σD' σD ∧ offL σ' σM.1) := by
  unfold f_X3_readWhat f_X8_whats
  rcases tk hN hT (kh := 0) (by omega) h with ⟨k1, σ1, k2, k3, k4, k5⟩ | ⟨k1, σ1, k2, k3, k4, -⟩
  · rw [k1, Option.bind_some, if_pos bI_f, show f_X8_takes N σM 34 = _ from k2, Option.bind_some, if_pos bI_f]
    rcases tk hN hT (kh := 1) (by omega) (σM := (σ1, σM.2)) k3 with ⟨m1, σ2, m2, m3, m4, m5⟩ | ⟨m1, σ2, m2, m3, m4, -⟩
    · left
      rw [m1, Option.bind_some, if_pos bI_f, show f_X8_takes N (σ1, σM.2) 35 = _ from m2, Option.bind_some, if_pos bI_f]
      have hH := m3.1
      rw [fail_eq (σM := (σ2, σM.2)) m3.2.2.2.2.2.2.2.1]
      dsimp only
      rw [m4, hH.2.2.1]
      exact ⟨_, _, rfl, rfl, FR_of 1 _ (by decide), offR_tr (offR_fail _ _) (offR_L (offL_tr m5 k5))⟩
    · right
      rw [m1, Option.bind_some, if_neg bI_t, show f_X8_takes N (σ1, σM.2) 35 = _ from m2, Option.bind_some, if_neg bI_t]
      obtain ⟨σD1, a1, a2, a3⟩ := adv_pend hN hT m3
      unfold f_X3_readWhat_30 f_X3_moonKind
      rw [a1, Option.bind_some, if_pos bI_f]
      rcases tk hN hT (kh := 5) (by omega) (σM := (σ2, σM.2)) a3 with ⟨n1, σ3, n2, n3, n4, n5⟩ | ⟨n1, σ3, n2, n3, n4, -⟩
      · rw [n1, Option.bind_some, if_pos bI_f, show f_X8_takes N (σ2, σM.2) 39 = _ from n2, Option.bind_some, if_pos bI_f]
        rcases tk hN hT (kh := 6) (by omega) (σM := (σ3, σM.2)) n3 with ⟨q1, σ4, q2, q3, q4, q5⟩ | ⟨q1, σ4, q2, q3, q4, -⟩
        · rw [q1, Option.bind_some, if_pos bI_f, Option.bind_some, show f_X8_takes N (σ3, σM.2) 40 = _ from q2, Option.bind_some, if_pos bI_f]
          unfold f_X3_readWhat_49
          rw [if_pos rfl, if_pos bI_f]
          exact ⟨σD1, σ4, 48, _, _, rfl, rfl, q3, a2, offL_tr q5 (offL_tr n5 (offL_tr m4 k5))⟩
        · rw [q1, Option.bind_some, if_neg bI_t, Option.bind_some, show f_X8_takes N (σ3, σM.2) 40 = _ from q2, Option.bind_some, if_neg bI_t]
          obtain ⟨σD2, b1, b2, b3⟩ := adv_pend hN hT q3
          unfold f_X3_readWhat_49
          rw [if_neg (by decide), b1, Option.bind_some]
          exact ⟨σD2, σ4, 32, _, _, rfl, rfl, b3, offT_tr b2 a2, offL_tr q4 (offL_tr n5 (offL_tr m4 k5))⟩
      · rw [n1, Option.bind_some, if_neg bI_t, Option.bind_some, show f_X8_takes N (σ2, σM.2) 39 = _ from n2, Option.bind_some, if_neg bI_t]
        obtain ⟨σD2, b1, b2, b3⟩ := adv_pend hN hT n3
        unfold f_X3_readWhat_49
        rw [if_neg (by decide), b1, Option.bind_some]
        exact ⟨σD2, σ3, 16, _, _, rfl, rfl, b3, offT_tr b2 a2, offL_tr n4 (offL_tr m4 k5)⟩
  · right
    rw [k1, Option.bind_some, if_neg bI_t, show f_X8_takes N σM 34 = _ from k2, Option.bind_some, if_neg bI_t]
    obtain ⟨σD1, a1, a2, a3⟩ := adv_pend hN hT k3
    unfold f_X3_readWhat_30 f_X3_sunKind
    rw [a1, Option.bind_some, if_neg bI_t]
    rcases tk hN hT (kh := 2) (by omega) (σM := (σ1, σM.2)) a3 with ⟨n1, σ3, n2, n3, n4, n5⟩ | ⟨n1, σ3, n2, n3, n4, -⟩
    · rw [n1, Option.bind_some, if_pos bI_f, show f_X8_takes N (σ1, σM.2) 36 = _ from n2, Option.bind_some, if_pos bI_f]
      rcases tk hN hT (kh := 3) (by omega) (σM := (σ3, σM.2)) n3 with ⟨q1, σ4, q2, q3, q4, q5⟩ | ⟨q1, σ4, q2, q3, q4, -⟩
      · rw [q1, Option.bind_some, if_pos bI_f, show f_X8_takes N (σ3, σM.2) 37 = _ from q2, Option.bind_some, if_pos bI_f]
        rcases tk hN hT (kh := 4) (by omega) (σM := (σ4, σM.2)) q3 with ⟨r1, σ5, r2, r3, r4, r5⟩ | ⟨r1, σ5, r2, r3, r4, -⟩
        · rw [r1, Option.bind_some, if_pos bI_f, Option.bind_some, show f_X8_takes N (σ4, σM.2) 38 = _ from r2, Option.bind_some, if_pos bI_f]
          unfold f_X3_readWhat_49
          rw [if_pos rfl, if_neg bI_t]
          exact ⟨σD1, σ5, 14, _, _, rfl, rfl, r3, a2, offL_tr r5 (offL_tr q5 (offL_tr n5 k4))⟩
        · rw [r1, Option.bind_some, if_neg bI_t, Option.bind_some, show f_X8_takes N (σ4, σM.2) 38 = _ from r2, Option.bind_some, if_neg bI_t]
          obtain ⟨σD2, b1, b2, b3⟩ := adv_pend hN hT r3
          unfold f_X3_readWhat_49
          rw [if_neg (by decide), b1, Option.bind_some]
          exact ⟨σD2, σ5, 8, _, _, rfl, rfl, b3, offT_tr b2 a2, offL_tr r4 (offL_tr q5 (offL_tr n5 k4))⟩
      · rw [q1, Option.bind_some, if_neg bI_t, Option.bind_some, show f_X8_takes N (σ3, σM.2) 37 = _ from q2, Option.bind_some, if_neg bI_t]
        obtain ⟨σD2, b1, b2, b3⟩ := adv_pend hN hT q3
        unfold f_X3_readWhat_49
        rw [if_neg (by decide), b1, Option.bind_some]
        exact ⟨σD2, σ4, 4, _, _, rfl, rfl, b3, offT_tr b2 a2, offL_tr q4 (offL_tr n5 k4)⟩
    · rw [n1, Option.bind_some, if_neg bI_t, Option.bind_some, show f_X8_takes N (σ1, σM.2) 36 = _ from n2, Option.bind_some, if_neg bI_t]
      obtain ⟨σD2, b1, b2, b3⟩ := adv_pend hN hT n3
      unfold f_X3_readWhat_49
      rw [if_neg (by decide), b1, Option.bind_some]
      exact ⟨σD2, σ3, 2, _, _, rfl, rfl, b3, offT_tr b2 a2, offL_tr n4 k4⟩
