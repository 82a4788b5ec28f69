/-! means, meant, slips: the loops -/
def MdI (σ : St2) (r : Nat) (K : Int32) (C E Y : Int) (nm : Nat → Int) (a b f : Int) : Prop := ModR σ r K C E Y nm ∧ ModOf σ a b f ∧ ∀ n, n < 12 → σ 10 n = iI (mtab n)
theorem ModR_off {σ' σ : St2} {r : Nat} {K : Int32} {C E Y : Int} {nm : Nat → Int} (h : ModR σ r K C E Y nm) (e5 : offD σ' σ) : ModR σ' r K C E Y nm := by
  unfold ModR
  rw [e5.2 28 (by omega), e5.2 31 (by omega), e5.2 32 (by omega), e5.2 30 (by omega), e5.2 29 (by omega)]
  exact h
theorem ModOf_off {σ' σ : St2} {a b f : Int} (h : ModOf σ a b f) (e5 : offD σ' σ) : ModOf σ' a b f := by
  unfold ModOf
  rw [e5.2 6 (by omega), e5.2 7 (by omega), e5.2 8 (by omega), e5.1 0 (by omega) (by omega) (by omega), e5.1 1 (by omega) (by omega) (by omega), e5.1 2 (by omega) (by omega) (by omega), e5.1 3 (by omega) (by omega) (by omega), e5.1 4 (by omega) (by omega) (by omega)]
  exact h
theorem MdI_off {σ' σ : St2} {r : Nat} {K : Int32} {C E Y : Int} {nm : Nat → Int} {a b f : Int} (h : MdI σ r K C E Y nm a b f) (e5 : offD σ' σ) : MdI σ' r K C E Y nm a b f := ⟨ModR_off h.1 e5, ModOf_off h.2.1 e5, fun n hn => by rw [e5.2 10 (by omega)]; exact h.2.2 n hn⟩
theorem hs_rng {K : Int32} {E a b f k s : Int} (hE : -720 ≤ E ∧ E ≤ 720) (hk : 0 ≤ k ∧ k ≤ 12000) (h0 : 0 ≤ s ∧ s ≤ 60) : -1 ≤ hs K E a b f k s ∧ hs K E a b f k s ≤ 9600000 := by
  have hz := zI_rng (a := a) (b := b) hE hk h0
  unfold hs
  split
  · omega
  · split
    · rename_i g
      have := vis_0 g
      omega
    · omega
theorem isMeant_eq {N : Nat} (hN : 12002 ≤ N) {σA : St2 × Int64} {σS : St2} {K : Int32} {C E Y : Int} {nm : Nat → Int} (hA : AccI σA.1 K C E Y nm) (ho : okR C E Y nm) {a b f : Int} {c : Nat} (hc : (EL a f 12001).length = c) (hl : c ≤ 1799) (hS : SkyOf σS a b f) {i : Nat} (hi : i < c) {s : Int} (hs0 : 0 ≤ s ∧ s ≤ 60) : f_X0_isMeant N σA σS (iI i) (iI s) = some (decide (dfI K C E Y nm a b f ((EL a f 12001).getD i 0 : Nat) s = 0)) := by
  have hA4 := EL_at a f 12001 i (by omega)
  unfold f_X0_isMeant
  rw [hoursSeen_eq hA ho hc hl hS hi hs0, Option.bind_some]
  generalize (EL a f 12001).getD i 0 = k at hA4
  have hr := hs_rng (K := K) (a := a) (b := b) (f := f) (k := k) ho.2.1 (by omega) hs0
  unfold dfI
  generalize hs K E a b f k s = h at hr
  by_cases c1 : h = -1
  · rw [if_pos (show iI h = -1 by rw [c1]; rfl), if_pos c1]; rfl
  · rw [if_neg (show ¬ iI h = -1 by rw [show (-1 : Int32) = iI (-1) from rfl, iI_eq (by omega) (by omega) (by omega) (by omega)]; exact c1), if_neg c1]
    obtain ⟨o, e, g1, g2, g3, g4⟩ := slipsAt_eq hN hA ho (c := 0) (h := h) (by omega) (by omega) (by omega)
    rw [show (0 : Int32) = iI 0 from rfl, e, Option.bind_some]
    have ht := tot_rng C Y nm h
    by_cases c2 : tot C Y nm h = 0
    · rw [if_pos (by rw [g3 (by omega), c2]), if_neg (by omega), c2]; rfl
    · have := g4 (by omega)
      rw [if_neg (by rw [iI_eq (by omega) (by omega) (by omega) (by omega)]; omega)]
      rw [decide_eq_false (by split <;> omega)]
theorem means_loop {N : Nat} (hN : 12002 ≤ N) {σA : St2 × Int64} {σS : St2} {K : Int32} {C E Y : Int} {nm : Nat → Int} (hA : AccI σA.1 K C E Y nm) (ho : okR C E Y nm) {a b f : Int} {c r : Nat} (hr : r ≤ 8) (hc : (EL a f 12001).length = c) (hl : c ≤ 1799) (hS : SkyOf σS a b f) {s : Int} (hs0 : 0 ≤ s ∧ s ≤ 60) : ∀ (m i n n' : Nat) (y4 : Int32) (σM : St2 × (Nat → Int64)), i + m = c → m < n → m < n' → MdI σM.1 r K C E Y nm a b f → ∃ v σ', f_X0_countMeant_11 N n σA σS (iI s) (iI (c : Nat)) y4 (iI i) = some (v, σS) ∧ f_X8_means_16 N n' σM (iI r) (iI s) y4 (iI i) = some (v, (σ', σM.2)) ∧ offD σ' σM.1 := by
  intro m
  induction m with
  | zero =>
    intro n0 n n' y4 σM hm hn hn' hM
    cases n with
    | zero => exact absurd hn (Nat.not_lt_zero _)
    | succ n =>
      cases n' with
      | zero => exact absurd hn' (Nat.not_lt_zero _)
      | succ n' =>
        have e : n0 = c := by omega
        subst e
        rw [f_X0_countMeant_11, f_X8_means_16, hM.2.1.2.2.2.2.1, hc]
        rw [if_pos (by rw [iI_le (by omega) (by omega) (by omega) (by omega)]; omega), if_pos (by rw [iI_le (by omega) (by omega) (by omega) (by omega)]; omega)]
        exact ⟨y4, σM.1, rfl, rfl, offD_rf _⟩
  | succ m IH =>
    intro i n n' y4 σM hm hn hn' hM
    cases n with
    | zero => exact absurd hn (Nat.not_lt_zero _)
    | succ n =>
      cases n' with
      | zero => exact absurd hn' (Nat.not_lt_zero _)
      | succ n' =>
        obtain ⟨σ1, e1, e2⟩ := differs_eq hN hr hM.1 ho hM.2.2 hc hl hM.2.1 (i := i) (by omega) hs0
        have hlt : ¬ iI (c : Nat) ≤ iI i := by rw [iI_le (by omega) (by omega) (by omega) (by omega)]; omega
        rw [f_X0_countMeant_11, f_X8_means_16, hM.2.1.2.2.2.2.1, hc, if_neg hlt, if_neg hlt, isMeant_eq hN hA ho hc hl hS (by omega) hs0, Option.bind_some, e1, Option.bind_some]
        have hI := fun z => IH (i + 1) n n' z (σ1, σM.2) (by omega) (by omega) (by omega) (MdI_off hM e2)
        unfold f_X0_countMeant_31 f_X8_means_39
        dsimp only
        rw [nx]
        by_cases c1 : dfI K C E Y nm a b f ((EL a f 12001).getD i 0 : Nat) s = 0
        · rw [if_neg (by rw [decide_eq_true c1]; exact bI_t), if_pos (by rw [c1]; rfl)]
          obtain ⟨v, σ', g1, g2, g3⟩ := hI (y4 + 1)
          exact ⟨v, σ', g1, g2, offD_tr g3 e2⟩
        · have hA4 := EL_at a f 12001 i (by omega)
          have ht := tot_rng C Y nm (hs K E a b f ((EL a f 12001).getD i 0 : Nat) s)
          rw [if_pos (by rw [decide_eq_false c1]; exact bI_f), if_neg (by rw [show (0 : Int32) = iI 0 from rfl, iI_eq (by unfold dfI; split <;> (try split) <;> omega) (by unfold dfI; split <;> (try split) <;> omega) (by omega) (by omega)]; exact c1)]
          obtain ⟨v, σ', g1, g2, g3⟩ := hI y4
          exact ⟨v, σ', g1, g2, offD_tr g3 e2⟩
theorem dfI_rng (K : Int32) (C E Y : Int) (nm : Nat → Int) (a b f k s : Int) : -1 ≤ dfI K C E Y nm a b f k s ∧ dfI K C E Y nm a b f k s ≤ 4 := by
  have ht := tot_rng C Y nm (hs K E a b f k s)
  unfold dfI
  split
  · omega
  · split <;> omega
theorem meant_loop {N : Nat} (hN : 12002 ≤ N) {σA : St2 × Int64} {σS : St2} {K : Int32} {C E Y : Int} {nm : Nat → Int} (hA : AccI σA.1 K C E Y nm) (ho : okR C E Y nm) {a b f : Int} {c r : Nat} (hr : r ≤ 8) (hc : (EL a f 12001).length = c) (hl : c ≤ 1799) (hS : SkyOf σS a b f) {s X : Int} (hX : 0 ≤ X ∧ X < 2147483648) (hs0 : 0 ≤ s ∧ s ≤ 60) : ∀ (m i n n' j : Nat) (σM : St2 × (Nat → Int64)), i + m = c → j ≤ i → (j : Int) ≤ X → m < n → m < n' → MdI σM.1 r K C E Y nm a b f → ∃ v σ', f_X0_findMeant_12 N n σA σS (iI s) (iI (c : Nat)) (iI (X - j)) (iI i) = some (v, σS) ∧ f_X8_meant_21 N n' σM (iI r) (iI s) (iI X) (iI j) (iI i) = some (v, (σ', σM.2)) ∧ offD σ' σM.1 := by
  intro m
  induction m with
  | zero =>
    intro n0 n n' j σM hm hj hjX hn hn' hM
    cases n with
    | zero => exact absurd hn (Nat.not_lt_zero _)
    | succ n =>
      cases n' with
      | zero => exact absurd hn' (Nat.not_lt_zero _)
      | succ n' =>
        have e : n0 = c := by omega
        subst e
        rw [f_X0_findMeant_12, f_X8_meant_21, hM.2.1.2.2.2.2.1, hc]
        rw [if_pos (by rw [iI_le (by omega) (by omega) (by omega) (by omega)]; omega), if_pos (by rw [iI_le (by omega) (by omega) (by omega) (by omega)]; omega)]
        exact ⟨-1, σM.1, rfl, rfl, offD_rf _⟩
  | succ m IH =>
    intro i n n' j σM hm hj hjX hn hn' hM
    cases n with
    | zero => exact absurd hn (Nat.not_lt_zero _)
    | succ n =>
      cases n' with
      | zero => exact absurd hn' (Nat.not_lt_zero _)
      | succ n' =>
        obtain ⟨σ1, e1, e2⟩ := differs_eq hN hr hM.1 ho hM.2.2 hc hl hM.2.1 (i := i) (by omega) hs0
        have hlt : ¬ iI (c : Nat) ≤ iI i := by rw [iI_le (by omega) (by omega) (by omega) (by omega)]; omega
        have hd := dfI_rng K C E Y nm a b f ((EL a f 12001).getD i 0 : Nat) s
        have hM1 := MdI_off hM e2
        rw [f_X0_findMeant_12, f_X8_meant_21, hM.2.1.2.2.2.2.1, hc, if_neg hlt, if_neg hlt, isMeant_eq hN hA ho hc hl hS (by omega) hs0, Option.bind_some, e1, Option.bind_some]
        unfold f_X0_findMeant_45 f_X8_meant_61
        dsimp only
        rw [nx]
        by_cases c1 : dfI K C E Y nm a b f ((EL a f 12001).getD i 0 : Nat) s = 0
        · rw [if_neg (by rw [decide_eq_true c1]; exact bI_t), if_pos (show iI (dfI K C E Y nm a b f ((EL a f 12001).getD i 0 : Nat) s) = 0 by rw [c1]; rfl)]
          by_cases c2 : (j : Int) = X
          · have hE := hM1.2.1.2.2.2.2.2 i (by omega)
            rw [if_pos (show iI (X - j) = 0 by rw [show X - (j : Int) = 0 by omega]; rfl), (list_at hc hl hS (i := i) (by omega)).2.2.1, Option.bind_some, if_pos (by rw [c2]), if_neg (ix_no (by omega) (by omega) (by omega)), iI_clamp (by omega) (by omega), show ((i : Int)).toNat = i from rfl, hE.1]
            exact ⟨_, σ1, rfl, rfl, e2⟩
          · rw [if_neg (show ¬ iI (X - j) = 0 by rw [show (0 : Int32) = iI 0 from rfl, iI_eq (by omega) (by omega) (by omega) (by omega)]; omega), if_neg (show ¬ iI j = iI X by rw [iI_eq (by omega) (by omega) (by omega) (by omega)]; exact c2), show (-1 : Int32) = iI (-1) from rfl, iI_add, nx, show X - (j : Int) + -1 = X - ((j + 1 : Nat) : Int) by omega]
            obtain ⟨v, σ', g1, g2, g3⟩ := IH (i + 1) n n' (j + 1) (σ1, σM.2) (by omega) (by omega) (by omega) (by omega) (by omega) hM1
            exact ⟨v, σ', g1, g2, offD_tr g3 e2⟩
        · rw [if_pos (by rw [decide_eq_false c1]; exact bI_f), if_neg (by rw [show (0 : Int32) = iI 0 from rfl, iI_eq (by omega) (by omega) (by omega) (by omega)]; exact c1)]
          obtain ⟨v, σ', g1, g2, g3⟩ := IH (i + 1) n n' j (σ1, σM.2) (by omega) (by omega) (by omega) (by omega) (by omega) hM1
          exact ⟨v, σ', g1, g2, offD_tr g3 e2⟩
