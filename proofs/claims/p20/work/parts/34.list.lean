/-! both write the same list -/
theorem nx (k : Nat) : iI (k : Int) + 1 = iI ((k + 1 : Nat) : Int) := by
  rw [show (1 : Int32) = iI 1 from rfl, iI_add]
  rfl
def Ent (r7 r8 r9 : Nat → Int32) (a b f : Int) (L : List Nat) : Prop := ∀ i, i < L.length → r7 i = iI (L.getD i 0 : Nat) ∧ r8 i = iI (knd a f (L.getD i 0 : Nat)) ∧ r9 i = iI (tmI a b (L.getD i 0 : Nat))
theorem Ent_app {r7 r8 r9 : Nat → Int32} {a b f : Int} {L : List Nat} (h : Ent r7 r8 r9 a b f L) (k : Nat) : Ent (upd r7 L.length (iI k)) (upd r8 L.length (iI (knd a f k))) (upd r9 L.length (iI (tmI a b k))) a b f (L ++ [k]) := by
  intro i hi
  rw [List.length_append] at hi
  have hi2 : i < L.length + 1 := hi
  by_cases e : i = L.length
  · have e1 : (L ++ [k]).getD i 0 = k := by
      rw [List.getD_eq_getElem?_getD, List.getElem?_append_right (by omega), e, Nat.sub_self]
      rfl
    rw [e1]
    unfold upd
    rw [if_pos e, if_pos e, if_pos e]
    exact ⟨rfl, rfl, rfl⟩
  · have e1 : (L ++ [k]).getD i 0 = L.getD i 0 := by
      rw [List.getD_eq_getElem?_getD, List.getD_eq_getElem?_getD, List.getElem?_append_left (by omega)]
    rw [e1]
    unfold upd
    rw [if_neg e, if_neg e, if_neg e]
    exact h i (by omega)
theorem EL_mono (a f : Int) {n : Nat} (h : n ≤ 12001) : (EL a f n).length ≤ (EL a f 12001).length := by
  rw [EL_ct, EL_ct]
  have := ct_up (fun k => if knd a f (k : Int) ≠ 0 then 1 else 0) n (12001 - n)
  rw [show n + (12001 - n) = 12001 by omega] at this
  exact this
def SkyOf (σ : St2) (a b f : Int) : Prop := σ 0 0 = iI a ∧ σ 0 1 = iI b ∧ σ 0 2 = iI f ∧ σ 0 4 = 1 ∧ σ 0 5 = iI ((EL a f 12001).length : Nat) ∧ Ent (σ 7) (σ 8) (σ 9) a b f (EL a f 12001)
theorem list_loop (N : Nat) {a b f : Int} (ha : 0 ≤ a ∧ a < 36000) (hb : 0 ≤ b ∧ b < 36000) (hf : 0 ≤ f ∧ f < 36000) : ∀ (m k n : Nat) (σ : St2), k + m = 12001 → m < n → σ 0 0 = iI a → σ 0 1 = iI b → σ 0 2 = iI f → σ 0 5 = iI ((EL a f k).length : Nat) → Ent (σ 7) (σ 8) (σ 9) a b f (EL a f k) → ∃ σ' : St2, f_X5_listEclipses_19 N n σ (iI k) = some (iI ((EL a f 12001).length : Nat), σ') ∧ SkyOf σ' a b f ∧ σ' 0 3 = σ 0 3
  | 0, k, n + 1, σ, hk, _, h0, h1, h2, h5, hE => by
    have hk2 : k = 12001 := by omega
    rw [hk2] at h5 hE
    refine ⟨up2 σ 0 4 1, ?_, ⟨?_, ?_, ?_, ?_, ?_, ?_⟩, ?_⟩
    · unfold f_X5_listEclipses_19
      rw [if_pos (by rw [hk2, show (12000 : Int32) = iI 12000 from rfl, iI_lt (by omega) (by omega) (by omega) (by omega)]; omega), h5]
    · exact h0
    · exact h1
    · exact h2
    · rfl
    · exact h5
    · exact hE
    · rfl
  | m + 1, k, n + 1, σ, hk, hn, h0, h1, h2, h5, hE => by
    have hkr : (0 : Int) ≤ (k : Int) ∧ (k : Int) ≤ 12000 := by omega
    have hl : (EL a f k).length ≤ 1799 := Nat.le_trans (EL_mono a f (by omega)) (EL_len hf)
    have hkr2 := knd_rng a f (k : Int)
    unfold f_X5_listEclipses_19
    rw [if_neg (by rw [show (12000 : Int32) = iI 12000 from rfl, iI_lt (by omega) (by omega) (by omega) (by omega)]; omega), h5, if_neg (by rw [show (1800 : Int32) = iI 1800 from rfl, iI_le (by omega) (by omega) (by omega) (by omega)]; omega), kindOf_eq h0 h2 ha hf hkr]
    by_cases hz : knd a f (k : Int) = 0
    · rw [hz, if_pos (show iI 0 = 0 from rfl)]
      unfold f_X5_listEclipses_90
      rw [nx]
      have eL : EL a f (k + 1) = EL a f k := by
        rw [EL_succ, if_neg (by simp [hz]), List.append_nil]
      exact list_loop N ha hb hf m (k + 1) n σ (by omega) (by omega) h0 h1 h2 (by rw [eL]; exact h5) (by rw [eL]; exact hE)
    · rw [if_neg (by rw [show (0 : Int32) = iI 0 from rfl, iI_eq (by omega) (by omega) (by omega) (by omega)]; exact hz)]
      have hix : ¬ (iI ((EL a f k).length : Nat) < 0 ∨ 1800 ≤ Int32.toNatClampNeg (iI ((EL a f k).length : Nat))) := ix_no (n := 1800) (by omega) (by omega) (by omega)
      simp only [lt, if_neg hix]
      rw [iI_clamp (by omega) (by omega), Int.toNat_natCast]
      rw [timeOf_eq (σ := up2 (up2 σ 7 (EL a f k).length (iI k)) 8 (EL a f k).length (iI (knd a f k))) (a := a) (b := b) h0 h1 ha hb hkr]
      show ∃ σ', f_X5_listEclipses_90 N (f_X5_listEclipses_19 N n) _ _ = _ ∧ _
      unfold f_X5_listEclipses_90
      rw [nx, nx]
      have eL : EL a f (k + 1) = EL a f k ++ [k] := by
        rw [EL_succ, if_pos hz]
      exact list_loop N ha hb hf m (k + 1) n _ (by omega) (by omega) h0 h1 h2 (by rw [eL, List.length_append]; rfl) (by rw [eL]; exact Ent_app hE k)
theorem list_eq {N : Nat} (hN : 12002 ≤ N) {a b f : Int} (ha : 0 ≤ a ∧ a < 36000) (hb : 0 ≤ b ∧ b < 36000) (hf : 0 ≤ f ∧ f < 36000) {σ : St2} (h0 : σ 0 0 = iI a) (h1 : σ 0 1 = iI b) (h2 : σ 0 2 = iI f) (h4 : σ 0 4 = 0 ∨ SkyOf σ a b f) : ∃ σ' : St2, f_X5_listEclipses N σ = some (iI ((EL a f 12001).length : Nat), σ') ∧ SkyOf σ' a b f ∧ σ' 0 3 = σ 0 3 := by
  unfold f_X5_listEclipses
  cases h4 with
  | inl h =>
    rw [if_pos h]
    exact list_loop N ha hb hf 12001 0 N (up2 σ 0 5 0) (by omega) (by omega) h0 h1 h2 rfl (fun i hi => absurd hi (Nat.not_lt_zero _))
  | inr h =>
    obtain ⟨g0, g1, g2, g4, g5, gE⟩ := h
    rw [if_neg (by rw [g4]; decide), g5]
    exact ⟨σ, rfl, ⟨g0, g1, g2, g4, g5, gE⟩, rfl⟩
/-! the reference's -/
def ModOf (σ : St2) (a b f : Int) : Prop := σ 0 0 = iI a ∧ σ 0 1 = iI b ∧ σ 0 2 = iI f ∧ σ 0 3 = 1 ∧ σ 0 4 = iI ((EL a f 12001).length : Nat) ∧ Ent (σ 6) (σ 7) (σ 8) a b f (EL a f 12001)
def off (σ' σ : St2) : Prop := (∀ i, i ≠ 3 → i ≠ 4 → σ' 0 i = σ 0 i) ∧ ∀ j, j ≠ 0 → j ≠ 6 → j ≠ 7 → j ≠ 8 → σ' j = σ j
theorem off_tr {x y z : St2} (h1 : off x y) (h2 : off y z) : off x z := ⟨fun i a b => (h1.1 i a b).trans (h2.1 i a b), fun j a b c d => (h1.2 j a b c d).trans (h2.2 j a b c d)⟩
theorem notes_loop (N : Nat) {a b f : Int} (ha : 0 ≤ a ∧ a < 36000) (hb : 0 ≤ b ∧ b < 36000) (hf : 0 ≤ f ∧ f < 36000) : ∀ (m k n : Nat) (σ : St2 × (Nat → Int64)), k + m = 12001 → m < n → (∀ n, n < 10 → σ.1 9 n = iI (wl n)) → σ.1 0 3 = 1 → σ.1 0 0 = iI a → σ.1 0 1 = iI b → σ.1 0 2 = iI f → σ.1 0 4 = iI ((EL a f k).length : Nat) → Ent (σ.1 6) (σ.1 7) (σ.1 8) a b f (EL a f k) → ∃ σ' : St2, f_X8_notes_20 N n σ (iI k) = some (σ', σ.2) ∧ ModOf σ' a b f ∧ off σ' σ.1
  | 0, k, n + 1, σ, hk, _, hw, h3, h0, h1, h2, h5, hE => by
    have hk2 : k = 12001 := by omega
    rw [hk2] at h5 hE
    refine ⟨σ.1, ?_, ⟨h0, h1, h2, h3, h5, hE⟩, ⟨fun _ _ _ => rfl, fun _ _ _ _ _ => rfl⟩⟩
    unfold f_X8_notes_20
    rw [if_pos (by rw [hk2, show (12000 : Int32) = iI 12000 from rfl, iI_lt (by omega) (by omega) (by omega) (by omega)]; omega)]
  | m + 1, k, n + 1, σ, hk, hn, hw, h3, h0, h1, h2, h5, hE => by
    have hkr : (0 : Int) ≤ (k : Int) ∧ (k : Int) ≤ 12000 := by omega
    have hl : (EL a f k).length ≤ 1799 := Nat.le_trans (EL_mono a f (by omega)) (EL_len hf)
    have hkr2 := knd_rng a f (k : Int)
    unfold f_X8_notes_20
    rw [if_neg (by rw [show (12000 : Int32) = iI 12000 from rfl, iI_lt (by omega) (by omega) (by omega) (by omega)]; omega), h5, sortOf_eq h0 h2 ha hf hkr]
    by_cases hz : knd a f (k : Int) = 0
    · rw [hz, if_pos (show iI 0 = 0 from rfl)]
      unfold f_X8_notes_84
      rw [nx]
      have eL : EL a f (k + 1) = EL a f k := by
        rw [EL_succ, if_neg (by simp [hz]), List.append_nil]
      exact notes_loop N ha hb hf m (k + 1) n σ (by omega) (by omega) hw h3 h0 h1 h2 (by rw [eL]; exact h5) (by rw [eL]; exact hE)
    · rw [if_neg (by rw [show (0 : Int32) = iI 0 from rfl, iI_eq (by omega) (by omega) (by omega) (by omega)]; exact hz)]
      have hix : ¬ (iI ((EL a f k).length : Nat) < 0 ∨ 12001 ≤ Int32.toNatClampNeg (iI ((EL a f k).length : Nat))) := ix_no (n := 12001) (by omega) (by omega) (by omega)
      simp only [lt, if_neg hix]
      rw [iI_clamp (by omega) (by omega), Int.toNat_natCast]
      rw [timeOfM_eq (σ := (up2 (up2 σ.1 6 (EL a f k).length (iI k)) 7 (EL a f k).length (iI (knd a f k)), σ.2)) (a := a) (b := b) hw h0 h1 ha hb hkr]
      show ∃ σ', f_X8_notes_84 N (f_X8_notes_20 N n) _ _ = _ ∧ _
      unfold f_X8_notes_84
      rw [nx, nx]
      have eL : EL a f (k + 1) = EL a f k ++ [k] := by
        rw [EL_succ, if_pos hz]
      have IH := notes_loop N ha hb hf m (k + 1) n (up2 (up2 (up2 (up2 σ.1 6 (EL a f k).length (iI k)) 7 (EL a f k).length (iI (knd a f k))) 8 (EL a f k).length (iI (tmI a b k))) 0 4 (iI (((EL a f k).length + 1 : Nat) : Int)), σ.2) (by omega) (by omega) hw h3 h0 h1 h2 (by rw [eL, List.length_append]; rfl) (by rw [eL]; exact Ent_app hE k)
      obtain ⟨σ', e1, e2, e3⟩ := IH
      refine ⟨σ', e1, e2, off_tr e3 ⟨?_, ?_⟩⟩
      · intro i _ h4
        show upd (σ.1 0) 4 _ i = _
        unfold upd
        rw [if_neg h4]
      · intro j j0 j6 j7 j8
        show up2 (up2 (up2 (up2 σ.1 6 _ _) 7 _ _) 8 _ _) 0 4 _ j = _
        unfold up2
        rw [if_neg j0, if_neg j8, if_neg j7, if_neg j6]
theorem notes_eq {N : Nat} (hN : 12002 ≤ N) {a b f : Int} (ha : 0 ≤ a ∧ a < 36000) (hb : 0 ≤ b ∧ b < 36000) (hf : 0 ≤ f ∧ f < 36000) {σ : St2 × (Nat → Int64)} (hw : ∀ n, n < 10 → σ.1 9 n = iI (wl n)) (h0 : σ.1 0 0 = iI a) (h1 : σ.1 0 1 = iI b) (h2 : σ.1 0 2 = iI f) (h4 : σ.1 0 3 = 0 ∨ ModOf σ.1 a b f) : ∃ σ' : St2, f_X8_notes N σ = some (σ', σ.2) ∧ ModOf σ' a b f ∧ off σ' σ.1 := by
  unfold f_X8_notes
  cases h4 with
  | inl h =>
    rw [if_pos h]
    obtain ⟨σ', e1, e2, e3⟩ := notes_loop N ha hb hf 12001 0 N (up2 (up2 σ.1 0 3 1) 0 4 0, σ.2) (by omega) (by omega) hw rfl h0 h1 h2 rfl (fun i hi => absurd hi (Nat.not_lt_zero _))
    refine ⟨σ', e1, e2, off_tr e3 ⟨?_, ?_⟩⟩
    · intro i h3 h4
      show upd (upd (σ.1 0) 3 _) 4 _ i = _
      unfold upd
      rw [if_neg h4, if_neg h3]
    · intro j j0 _ _ _
      show up2 (up2 σ.1 0 3 1) 0 4 0 j = _
      unfold up2
      rw [if_neg j0, if_neg j0]
  | inr h =>
    obtain ⟨g0, g1, g2, g4, g5, gE⟩ := h
    rw [if_neg (by rw [g4]; decide)]
    exact ⟨σ.1, rfl, ⟨g0, g1, g2, g4, g5, gE⟩, ⟨fun _ _ _ => rfl, fun _ _ _ _ _ => rfl⟩⟩
