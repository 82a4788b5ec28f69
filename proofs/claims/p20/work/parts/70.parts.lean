/-! record: a part -/
theorem dead376 {N : Nat} {σ : St2 × (Nat → Int64)} {y : Int32} (h : ¬ σ.1 0 18 = 0) : f_X8_reads_376 N σ y = some σ := by
  unfold f_X8_reads_376
  rw [if_neg h]
theorem dead342 {N : Nat} {σ : St2 × (Nat → Int64)} {y : Int32} (h : ¬ σ.1 0 18 = 0) : f_X8_reads_342 N σ y = some (up2 σ.1 0 15 (σ.1 0 15 + 1), σ.2) := by
  unfold f_X8_reads_342 lt
  dsimp only
  rw [if_neg h]
  exact dead376 (by show ¬ up2 σ.1 0 15 (σ.1 0 15 + 1) 0 18 = 0; rw [u2n _ (Or.inr (by omega))]; exact h)
theorem dead317 {N : Nat} {σ : St2 × (Nat → Int64)} {y : Int32} (h : ¬ σ.1 0 18 = 0) : f_X8_reads_317 N σ y = some (up2 σ.1 0 15 (σ.1 0 15 + 1), σ.2) := by
  unfold f_X8_reads_317
  rw [if_neg h]
  exact dead342 h
theorem dead291 {N : Nat} {σ : St2 × (Nat → Int64)} {y : Int32} (h : ¬ σ.1 0 18 = 0) : f_X8_reads_291 N σ y = some (up2 σ.1 0 15 (σ.1 0 15 + 1), σ.2) := by
  unfold f_X8_reads_291
  rw [if_neg h]
  exact dead317 h
theorem dead232 {N : Nat} {σ : St2 × (Nat → Int64)} {y : Int32} (h : ¬ σ.1 0 18 = 0) : f_X8_reads_232 N σ y = some (up2 σ.1 0 15 (σ.1 0 15 + 1), σ.2) := by
  unfold f_X8_reads_232
  rw [if_neg h]
  exact dead291 h
theorem dead205 {N : Nat} {σ : St2 × (Nat → Int64)} {y : Int32} (h : ¬ σ.1 0 18 = 0) : f_X8_reads_205 N σ y = some (up2 σ.1 0 15 (σ.1 0 15 + 1), σ.2) := by
  unfold f_X8_reads_205
  rw [if_neg h]
  exact dead232 h
theorem dead41 {N n : Nat} {σ : St2 × (Nat → Int64)} {y : Int32} (h : ¬ σ.1 0 18 = 0) : f_X8_reads_41 N (n + 1) σ y 1 = some (up2 σ.1 0 15 (σ.1 0 15 + 1), σ.2) := by
  rw [f_X8_reads_41, if_neg (by decide), if_neg h]
  exact dead205 h
theorem FR_15 {σD σ : St2} {v : Int32} (h : FR σD σ) : FR σD (up2 σ 0 15 v) := by
  unfold FR
  rw [u2n _ (Or.inr (by omega)), u2n _ (Or.inr (by omega))]
  exact h
theorem FR_29 {σD σ : St2} {x : Nat} {v : Int32} (h : FR σD σ) : FR σD (up2 σ 29 x v) := by
  unfold FR
  rw [u2n _ (Or.inl (by omega)), u2n _ (Or.inl (by omega))]
  exact h
theorem EnvM_29 {σ : St2} {r : Nat → Int32} {l x : Nat} {v : Int32} (h : EnvM σ r l) : EnvM (up2 σ 29 x v) r l := by
  obtain ⟨h1, h2, h3, h4, h5⟩ := h
  refine ⟨by rw [u2n _ (Or.inl (by omega))]; exact h1, by rw [u2r _ (by omega)]; exact h2, fun j a b => by rw [u2r _ (by omega)]; exact h3 j a b, by rw [u2n _ (Or.inl (by omega))]; exact h4, by rw [u2n _ (Or.inl (by omega))]; exact h5⟩
theorem Pend_29 {σD σ : St2} {r : Nat → Int32} {l t x : Nat} {v : Int32} (h : Pend σD σ r l t) : Pend σD (up2 σ 29 x v) r l t := by
  obtain ⟨h1, h2, h3, h4, h5, h6⟩ := h
  exact ⟨h1, h2, h3, by rw [u2n _ (Or.inl (by omega))]; exact h4, by rw [u2n _ (Or.inl (by omega))]; exact h5, EnvM_29 h6⟩
theorem part_word {N : Nat} (hN : 12002 ≤ N) {σT σD : St2} {r : Nat → Int32} {l : Nat} (hT : TxT σT r l) {s : Nat} {e : Int} {σM : St2 × (Nat → Int64)} (h : PS σD σM.1 r l s e) : (f_X3_partHere N σD σT = some (-1) ∧ ∃ σ' : St2, f_X8_partOf N σM = some (-1, (σ', σM.2)) ∧ PS σD σ' r l s e ∧ σ' 0 15 = iI (s : Nat) ∧ offL σ' σM.1) ∨ (∃ p, p < 4 ∧ f_X3_partHere N σD σT = some (iI (p : Nat)) ∧ ∃ σ' : St2, f_X8_partOf N σM = some (iI (p : Nat), (σ', σM.2)) ∧ Pend σD σ' r l (stp r l s) ∧ offL σ' σM.1 ∧ s + 3 ≤ stp r l s) := by
  unfold f_X3_partHere f_X8_partOf
  rcases tk hN hT (kh := 8) (by omega) h with ⟨k1, σ1, k2, k3, k4, k5⟩ | ⟨k1, σ1, k2, k3, k4, k5⟩
  · rw [k1, Option.bind_some, if_pos bI_f, show f_X8_takes N σM 41 = _ from k2, Option.bind_some, if_pos bI_f]
    rcases tk hN hT (kh := 9) (by omega) (σM := (σ1, σM.2)) k3 with ⟨m1, σ2, m2, m3, m4, m5⟩ | ⟨m1, σ2, m2, m3, m4, m5⟩
    · rw [m1, Option.bind_some, if_pos bI_f, show f_X8_takes N (σ1, σM.2) 42 = _ from m2, Option.bind_some, if_pos bI_f]
      rcases tk hN hT (kh := 10) (by omega) (σM := (σ2, σM.2)) m3 with ⟨n1, σ3, n2, n3, n4, n5⟩ | ⟨n1, σ3, n2, n3, n4, n5⟩
      · rw [n1, Option.bind_some, if_pos bI_f, show f_X8_takes N (σ2, σM.2) 43 = _ from n2, Option.bind_some, if_pos bI_f]
        rcases tk hN hT (kh := 11) (by omega) (σM := (σ3, σM.2)) n3 with ⟨q1, σ4, q2, q3, q4, q5⟩ | ⟨q1, σ4, q2, q3, q4, q5⟩
        · left
          rw [q1, Option.bind_some, if_pos bI_f, show f_X8_takes N (σ3, σM.2) 44 = _ from q2, Option.bind_some, if_pos bI_f]
          exact ⟨rfl, σ4, rfl, q3, q4, offL_tr q5 (offL_tr n5 (offL_tr m5 k5))⟩
        · right
          rw [q1, Option.bind_some, if_neg bI_t, show f_X8_takes N (σ3, σM.2) 44 = _ from q2, Option.bind_some, if_neg bI_t]
          exact ⟨3, by omega, rfl, σ4, rfl, q3, offL_tr q4 (offL_tr n5 (offL_tr m5 k5)), by rw [q5]; exact Nat.add_le_add_left (by decide) s⟩
      · right
        rw [n1, Option.bind_some, if_neg bI_t, show f_X8_takes N (σ2, σM.2) 43 = _ from n2, Option.bind_some, if_neg bI_t]
        exact ⟨2, by omega, rfl, σ3, rfl, n3, offL_tr n4 (offL_tr m5 k5), by rw [n5]; exact Nat.add_le_add_left (by decide) s⟩
    · right
      rw [m1, Option.bind_some, if_neg bI_t, show f_X8_takes N (σ1, σM.2) 42 = _ from m2, Option.bind_some, if_neg bI_t]
      exact ⟨1, by omega, rfl, σ2, rfl, m3, offL_tr m4 k5, by rw [m5]; exact Nat.add_le_add_left (by decide) s⟩
  · right
    rw [k1, Option.bind_some, if_neg bI_t, show f_X8_takes N σM 41 = _ from k2, Option.bind_some, if_neg bI_t]
    exact ⟨0, by omega, rfl, σ1, rfl, k3, k4, by rw [k5]; exact Nat.add_le_add_left (by decide) s⟩
def NmI (σA σ : St2) (c : Nat) (nm : Nat → Int) : Prop := ∀ p, p < 4 → σA 5 p = iI (nm p) ∧ σ 29 (4 * c + p) = iI (nm p) ∧ -1 ≤ nm p ∧ nm p ≤ 999
def RuI (σD σ : St2) (cr : Nat) : Prop := (σD 0 7 = -1 ∧ σ 0 33 = -1) ∨ ∃ i, i < cr ∧ σD 0 7 = iI (i : Nat) ∧ σ 0 33 = iI (i : Nat) ∧ σD 0 8 = σ 0 32
def nmu (nm : Nat → Int) (p : Nat) (v : Int) : Nat → Int := fun q => if q = p then v else nm q
theorem NmI_up {σA σ : St2} {c : Nat} {nm : Nat → Int} (h : NmI σA σ c nm) {p : Nat} (hp : p < 4) {v : Int32} (hv : 0 ≤ v.toInt ∧ v.toInt ≤ 999) : NmI (up2 σA 5 p v) (up2 σ 29 (4 * c + p) v) c (nmu nm p v.toInt) := by
  intro q hq
  unfold nmu
  by_cases e : q = p
  · rw [if_pos e, e, u2e, u2e]
    exact ⟨iI_of v, iI_of v, by omega, by omega⟩
  · rw [if_neg e, u2n _ (Or.inr e), u2n _ (Or.inr (by omega))]
    exact h q hq
theorem NmI_L {σA σ' σ : St2} {c : Nat} {nm : Nat → Int} (h : NmI σA σ c nm) (e : σ' 29 = σ 29) : NmI σA σ' c nm := by
  unfold NmI
  rw [e]
  exact h
theorem RuI_fr {σD' σD σ' σ : St2} {cr : Nat} (h : RuI σD σ cr) (h7 : σD' 0 7 = σD 0 7) (h8 : σD' 0 8 = σD 0 8) (g33 : σ' 0 33 = σ 0 33) (g32 : σ' 0 32 = σ 0 32) : RuI σD' σ' cr := by
  unfold RuI
  rw [h7, h8, g33, g32]
  exact h
theorem sF_rng : ∀ p, p < 4 → 0 ≤ (sF 2 p).toInt ∧ (sF 3 p).toInt ≤ 999 := by decide +kernel
theorem r100 {N : Nat} {K41 : (St2 × (Nat → Int64)) → Int32 → Int32 → Option ((St2 × (Nat → Int64)))} {σ : St2 × (Nat → Int64)} {y1 y2 : Int32} (h : σ.1 0 18 = 0) : ∀ p, p < 4 → f_X8_reads_100 N K41 σ y1 y2 (iI (p : Nat)) = f_X8_reads_171 N K41 σ y1 y2 (iI (p : Nat)) (sF 3 p) (sF 2 p) (4 * y1 + iI (p : Nat)) := by
  intro p hp
  unfold f_X8_reads_100
  rw [if_pos h]
  rcases (by omega : p = 0 ∨ p = 1 ∨ p = 2 ∨ p = 3) with rfl | rfl | rfl | rfl
  · rw [if_neg (by decide), if_neg (by decide)]
    unfold f_X8_reads_136
    rw [if_pos (by decide)]
    rfl
  · rw [if_pos (by decide)]
    unfold f_X8_reads_131 f_X8_reads_136
    rw [if_neg (by decide), if_pos (by decide)]
    rfl
  · rw [if_neg (by decide), if_pos (by decide)]
    unfold f_X8_reads_131 f_X8_reads_136
    rw [if_neg (by decide), if_neg (by decide), if_pos (by decide)]
    rfl
  · rw [if_neg (by decide), if_neg (by decide)]
    unfold f_X8_reads_136
    rw [if_neg (by decide), if_neg (by decide), if_neg (by decide)]
    rfl
theorem ix29 {c p : Nat} (hc : c ≤ 8) (hp : p < 4) : (4 : Int32) * iI (c : Nat) + iI (p : Nat) = iI ((4 * c + p : Nat) : Int) := by
  rw [show (4 : Int32) = iI 4 from rfl, iI_mul, iI_add]
  congr 1
