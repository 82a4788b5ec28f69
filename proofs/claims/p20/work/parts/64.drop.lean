/-! drop, fault agree -/
theorem fault_eq {σS σT σR : St2} {σV : St2 × (Nat → Nat)} {σQ : Nat → (St2 × Int64)} {σD : St2} {ra : Value} {σM : St2 × (Nat → Int64)} (h : σD 0 9 = σM.1 0 20 ∧ σD 0 10 = σM.1 0 21) (x1 : Int32) : f_X7_fault σS σT σR σV σQ σD ra x1 = f_X8_fault σM x1 := by
  unfold f_X7_fault f_X8_fault f_X3_faultKind f_X3_faultPlace
  rw [h.1, h.2]
def cut (π : Nat → Nat) (i c j : Nat) : Nat → Nat := fun k => if k = c then j else if i ≤ k ∧ k < c then π (k + 1) else π k
theorem rem_loop {N : Nat} {V : St2} {σQ : Nat → (St2 × Int64)} {c j : Nat} (hc : c < 8) (hj : j < 8) (hV : V 0 1 = iI ((c + 1 : Nat) : Int)) : ∀ (m i n : Nat) (π : Nat → Nat), i + m = c → m < n → (∀ k, k < 8 → π k < 8) → f_X1_remove_14 N n (V, π) σQ j (iI (i : Nat)) = some (iI (c : Nat), (up2 V 0 1 (iI (c : Nat)), cut π i c j))
  | 0, i, n + 1, π, hm, _, hp => by
    have e : i = c := by omega
    subst e
    rw [f_X1_remove_14]
    rw [show (V, π).1 0 1 = iI ((i + 1 : Nat) : Int) from hV, show (1 : Int32) = iI 1 from rfl, iI_sub, show ((i + 1 : Nat) : Int) - 1 = (i : Int) by omega, if_pos (by rw [iI_le (by omega) (by omega) (by omega) (by omega)]; omega)]
    unfold lt
    dsimp only
    rw [if_neg (ix_no (by omega) (by omega) (by omega)), if_neg (by omega), iI_clamp (by omega) (by omega), show ((i : Int)).toNat = i from rfl]
    have : va_up π i j = cut π i i j := by
      funext k
      unfold va_up cut
      by_cases c1 : k = i
      · rw [if_pos c1, if_pos c1]
      · rw [if_neg c1, if_neg c1, if_neg (by omega)]
    rw [this]
  | m + 1, i, n + 1, π, hm, hn, hp => by
    have hp1 := hp (i + 1) (by omega)
    rw [f_X1_remove_14]
    rw [show (V, π).1 0 1 = iI ((c + 1 : Nat) : Int) from hV, show (1 : Int32) = iI 1 from rfl, iI_sub, show ((c + 1 : Nat) : Int) - 1 = (c : Int) by omega, if_neg (by rw [iI_le (by omega) (by omega) (by omega) (by omega)]; omega), show iI (i : Nat) + iI 1 = iI ((i + 1 : Nat) : Int) from nx i, if_neg (ix_no (by omega) (by omega) (by omega)), if_neg (ix_no (by omega) (by omega) (by omega)), iI_clamp (by omega) (by omega), iI_clamp (by omega) (by omega), show ((i : Int)).toNat = i from rfl, show ((i + 1 : Nat) : Int).toNat = i + 1 from rfl]
    dsimp only
    rw [if_neg (by omega)]
    rw [rem_loop hc hj hV m (i + 1) n (va_up π i (π (i + 1))) (by omega) (by omega) (fun k hk => by
      unfold va_up
      split
      · exact hp1
      · exact hp k hk)]
    have : cut (va_up π i (π (i + 1))) (i + 1) c j = cut π i c j := by
      funext k
      unfold cut va_up
      by_cases c1 : k = c
      · rw [if_pos c1, if_pos c1]
      · rw [if_neg c1, if_neg c1]
        by_cases c2 : i + 1 ≤ k ∧ k < c
        · rw [if_pos c2, if_neg (show ¬ k + 1 = i by omega), if_pos (show i ≤ k ∧ k < c by omega)]
        · rw [if_neg c2]
          by_cases c3 : k = i
          · rw [if_pos c3, if_pos (show i ≤ k ∧ k < c by omega), c3]
          · rw [if_neg c3, if_neg (show ¬ (i ≤ k ∧ k < c) by omega)]
    rw [this]
theorem u2e (f : St2) (j i : Nat) (v : Int32) : up2 f j i v j i = v := by
  show (if j = j then upd (f j) i v else f j) i = v
  rw [if_pos rfl]
  show (if i = i then v else f j i) = v
  rw [if_pos rfl]
theorem u2n (f : St2) {j i : Nat} {v : Int32} {b x : Nat} (h : b ≠ j ∨ x ≠ i) : up2 f j i v b x = f b x := by
  show (if b = j then upd (f b) i v else f b) x = f b x
  by_cases c : b = j
  · rw [if_pos c]
    show (if x = i then v else f b x) = f b x
    rw [if_neg (h.elim (fun g => absurd c g) id)]
  · rw [if_neg c]
theorem u2r (f : St2) {j i : Nat} {v : Int32} {b : Nat} (h : b ≠ j) : up2 f j i v b = f b := by
  show (if b = j then upd (f b) i v else f b) = f b
  rw [if_neg h]
theorem d88 {N n : Nat} {K22 : (St2 × (Nat → Int64)) → Int32 → Option (Int32 × (St2 × (Nat → Int64)))} {σ : St2 × (Nat → Int64)} {i p : Nat} (hi : i < 8) (hp : p < 4) : f_X8_drop_88 N K22 (n + 1) σ (iI (i : Nat)) (iI (p : Nat)) = f_X8_drop_88 N K22 n (up2 σ.1 29 (4 * i + p) (σ.1 29 (4 * i + 4 + p)), σ.2) (iI (i : Nat)) (iI ((p + 1 : Nat) : Int)) := by
  rw [f_X8_drop_88]
  have e1 : (4 : Int32) * iI (i : Nat) + iI (p : Nat) = iI ((4 * i + p : Nat) : Int) := by
    rw [show (4 : Int32) = iI 4 from rfl, iI_mul, iI_add]
    congr 1
  have e2 : (4 : Int32) * iI (i : Nat) + 4 + iI (p : Nat) = iI ((4 * i + 4 + p : Nat) : Int) := by
    rw [show (4 : Int32) = iI 4 from rfl, iI_mul, iI_add, iI_add]
    congr 1
  unfold lt
  dsimp only
  rw [e1, e2, if_neg (show ¬ (4 : Int32) ≤ iI (p : Nat) by rw [show (4 : Int32) = iI 4 from rfl, iI_le (by omega) (by omega) (by omega) (by omega)]; omega), if_neg (ix_no (by omega) (by omega) (by omega)), if_neg (ix_no (by omega) (by omega) (by omega)), iI_clamp (by omega) (by omega), iI_clamp (by omega) (by omega), nx]
  rfl
def sh29 (σ : St2) (i : Nat) : St2 := up2 (up2 (up2 (up2 σ 29 (4 * i + 0) (σ 29 (4 * i + 4 + 0))) 29 (4 * i + 1) (σ 29 (4 * i + 4 + 1))) 29 (4 * i + 2) (σ 29 (4 * i + 4 + 2))) 29 (4 * i + 3) (σ 29 (4 * i + 4 + 3))
theorem d88_all {N n : Nat} {K22 : (St2 × (Nat → Int64)) → Int32 → Option (Int32 × (St2 × (Nat → Int64)))} {σ : St2 × (Nat → Int64)} {i : Nat} (hi : i < 8) : f_X8_drop_88 N K22 (n + 5) σ (iI (i : Nat)) 0 = K22 (sh29 σ.1 i, σ.2) (iI ((i + 1 : Nat) : Int)) := by
  show f_X8_drop_88 N K22 (n + 4 + 1) σ (iI (i : Nat)) (iI ((0 : Nat) : Int)) = _
  rw [d88 hi (by omega), d88 (n := n + 3) hi (by omega), d88 (n := n + 2) hi (by omega), d88 (n := n + 1) hi (by omega), f_X8_drop_88, if_pos (show (4 : Int32) ≤ iI ((3 + 1 : Nat) : Int) by decide), nx]
  dsimp only
  rw [u2n _ (x := 4 * i + 4 + (0 + 1)) (Or.inr (by omega)), u2n _ (x := 4 * i + 4 + (1 + 1)) (Or.inr (by omega)), u2n _ (x := 4 * i + 4 + (1 + 1)) (Or.inr (by omega)), u2n _ (x := 4 * i + 4 + (2 + 1)) (Or.inr (by omega)), u2n _ (x := 4 * i + 4 + (2 + 1)) (Or.inr (by omega)), u2n _ (x := 4 * i + 4 + (2 + 1)) (Or.inr (by omega))]
  rfl
theorem sh29_at {σ : St2} {i k p : Nat} (hp : p < 4) : sh29 σ i 29 (4 * k + p) = if k = i then σ 29 (4 * (k + 1) + p) else σ 29 (4 * k + p) := by
  unfold sh29
  by_cases c : k = i
  · rw [if_pos c, c, show 4 * (i + 1) + p = 4 * i + 4 + p by omega]
    rcases (by omega : p = 0 ∨ p = 1 ∨ p = 2 ∨ p = 3) with rfl | rfl | rfl | rfl
    · rw [u2n _ (Or.inr (by omega)), u2n _ (Or.inr (by omega)), u2n _ (Or.inr (by omega)), u2e]
    · rw [u2n _ (Or.inr (by omega)), u2n _ (Or.inr (by omega)), u2e]
    · rw [u2n _ (Or.inr (by omega)), u2e]
    · rw [u2e]
  · rw [if_neg c, u2n _ (Or.inr (by omega)), u2n _ (Or.inr (by omega)), u2n _ (Or.inr (by omega)), u2n _ (Or.inr (by omega))]
theorem sh29_r {σ : St2} {i b : Nat} (h : b ≠ 29) : sh29 σ i b = σ b := by
  unfold sh29
  rw [u2r _ h, u2r _ h, u2r _ h, u2r _ h]
def shR (σ : St2) (i : Nat) : St2 := sh29 (up2 (up2 (up2 (up2 σ 28 i (σ 28 (i + 1))) 30 i (σ 30 (i + 1))) 31 i (σ 31 (i + 1))) 32 i (σ 32 (i + 1))) i
theorem shR_r {σ : St2} {i b : Nat} (h : b ≠ 28 ∧ b ≠ 29 ∧ b ≠ 30 ∧ b ≠ 31 ∧ b ≠ 32) : shR σ i b = σ b := by
  unfold shR
  rw [sh29_r h.2.1, u2r _ h.2.2.2.2, u2r _ h.2.2.2.1, u2r _ h.2.2.1, u2r _ h.1]
theorem shR_row {σ : St2} {i b k : Nat} (h : b = 28 ∨ b = 30 ∨ b = 31 ∨ b = 32) : shR σ i b k = if k = i then σ b (k + 1) else σ b k := by
  unfold shR
  rw [sh29_r (by omega)]
  by_cases c : k = i
  · rw [if_pos c, c]
    rcases h with rfl | rfl | rfl | rfl
    · rw [u2n _ (Or.inl (by omega)), u2n _ (Or.inl (by omega)), u2n _ (Or.inl (by omega)), u2e]
    · rw [u2n _ (Or.inl (by omega)), u2n _ (Or.inl (by omega)), u2e]
    · rw [u2n _ (Or.inl (by omega)), u2e]
    · rw [u2e]
  · rw [if_neg c, u2n _ (Or.inr c), u2n _ (Or.inr c), u2n _ (Or.inr c), u2n _ (Or.inr c)]
theorem shR_29 {σ : St2} {i k p : Nat} (hp : p < 4) : shR σ i 29 (4 * k + p) = if k = i then σ 29 (4 * (k + 1) + p) else σ 29 (4 * k + p) := by
  unfold shR
  rw [sh29_at hp, u2r _ (by omega), u2r _ (by omega), u2r _ (by omega), u2r _ (by omega)]
theorem d22_step {N n : Nat} (hN : 12002 ≤ N) {σ : St2 × (Nat → Int64)} {i c : Nat} (hc : c < 8) (hi : i < c) (h26 : σ.1 0 26 = iI (c : Nat)) : f_X8_drop_22 N (n + 1) σ (iI (i : Nat)) = f_X8_drop_22 N n (shR σ.1 i, σ.2) (iI ((i + 1 : Nat) : Int)) := by
  obtain ⟨m, hm⟩ : ∃ m, N = m + 5 := ⟨N - 5, by omega⟩
  rw [f_X8_drop_22, h26, if_neg (show ¬ iI (c : Nat) ≤ iI (i : Nat) by rw [iI_le (by omega) (by omega) (by omega) (by omega)]; omega), nx]
  unfold lt
  dsimp only
  have g1 : ¬ (iI ((i + 1 : Nat) : Int) < 0 ∨ 9 ≤ Int32.toNatClampNeg (iI ((i + 1 : Nat) : Int))) := ix_no (by omega) (by omega) (by omega)
  have g2 : ¬ (iI (i : Nat) < 0 ∨ 9 ≤ Int32.toNatClampNeg (iI (i : Nat))) := ix_no (by omega) (by omega) (by omega)
  rw [if_neg g1, if_neg g2, if_neg g1, if_neg g2, if_neg g1, if_neg g2, if_neg g1, if_neg g2, iI_clamp (by omega) (by omega), iI_clamp (by omega) (by omega), show ((i : Int)).toNat = i from rfl, show ((i + 1 : Nat) : Int).toNat = i + 1 from rfl]
  have e := d88_all (N := N) (n := m) (K22 := f_X8_drop_22 N n) (σ := (up2 (up2 (up2 (up2 σ.1 28 i (σ.1 28 (i + 1))) 30 i (σ.1 30 (i + 1))) 31 i (σ.1 31 (i + 1))) 32 i (σ.1 32 (i + 1)), σ.2)) (i := i) (by omega)
  rw [← hm] at e
  exact e
theorem ModR_sh {σ : St2} {i k : Nat} {K : Int32} {C E Y : Int} {nm : Nat → Int} (h : ModR σ (if k = i then k + 1 else k) K C E Y nm) : ModR (shR σ i) k K C E Y nm := by
  unfold ModR at h ⊢
  rw [shR_row (Or.inl rfl), shR_row (Or.inr (Or.inr (Or.inl rfl))), shR_row (Or.inr (Or.inr (Or.inr rfl))), shR_row (Or.inr (Or.inl rfl))]
  obtain ⟨h1, h2, h3, h4, h5⟩ := h
  by_cases c : k = i
  · rw [if_pos c] at h1 h2 h3 h4 ⊢
    rw [if_pos c, if_pos c, if_pos c]
    refine ⟨h1, h2, h3, h4, fun p hp => ?_⟩
    rw [shR_29 hp, if_pos c]
    have := h5 p hp
    rw [if_pos c] at this
    exact this
  · rw [if_neg c] at h1 h2 h3 h4 ⊢
    rw [if_neg c, if_neg c, if_neg c]
    refine ⟨h1, h2, h3, h4, fun p hp => ?_⟩
    rw [shR_29 hp, if_neg c]
    have := h5 p hp
    rw [if_neg c] at this
    exact this
theorem drop_loop {N : Nat} (hN : 12002 ≤ N) {c : Nat} (hc : c < 8) : ∀ (m i n : Nat) (σ : St2 × (Nat → Int64)), i + m = c → m < n → σ.1 0 26 = iI (c : Nat) → ∃ σ' : St2, f_X8_drop_22 N n σ (iI (i : Nat)) = some (iI (c : Nat), (σ', σ.2)) ∧ (∀ b, b ≠ 28 ∧ b ≠ 29 ∧ b ≠ 30 ∧ b ≠ 31 ∧ b ≠ 32 → σ' b = σ.1 b) ∧ ∀ k K C E Y nm, k < c → ModR σ.1 (if i ≤ k then k + 1 else k) K C E Y nm → ModR σ' k K C E Y nm
  | 0, i, n + 1, σ, hm, _, h26 => by
    have e : i = c := by omega
    subst e
    rw [f_X8_drop_22, h26, if_pos (by rw [iI_le (by omega) (by omega) (by omega) (by omega)]; omega)]
    refine ⟨σ.1, rfl, fun _ _ => rfl, fun k K C E Y nm hk h => ?_⟩
    rw [if_neg (by omega)] at h
    exact h
  | m + 1, i, n + 1, σ, hm, hn, h26 => by
    rw [d22_step hN hc (by omega) h26]
    obtain ⟨σ', g1, g2, g3⟩ := drop_loop hN hc m (i + 1) n (shR σ.1 i, σ.2) (by omega) (by omega) (by
      show shR σ.1 i 0 26 = _
      rw [shR_r (by omega)]
      exact h26)
    refine ⟨σ', g1, fun b hb => (g2 b hb).trans (shR_r hb), fun k K C E Y nm hk h => g3 k K C E Y nm hk ?_⟩
    apply ModR_sh
    by_cases c1 : i + 1 ≤ k
    · rw [if_pos c1, if_neg (by omega)]
      rw [if_pos (by omega)] at h
      exact h
    · rw [if_neg c1]
      by_cases c2 : k = i
      · rw [if_pos c2]
        rw [if_pos (by omega)] at h
        exact h
      · rw [if_neg c2]
        rw [if_neg (by omega)] at h
        exact h
theorem drop_eq {N : Nat} (hN : 12002 ≤ N) {σS σT σR : St2} {σV : St2 × (Nat → Nat)} {σQ : Nat → (St2 × Int64)} {σD : St2} {ra : Value} {σM : St2 × (Nat → Int64)} {c : Nat} (hR : RecI σV σQ σM.1 c) (x1 : Int32) : ∃ (o : Int32) (σV' : St2 × (Nat → Nat)) (σ' : St2) (c' : Nat), f_X7_drop N σS σT σR σV σQ σD ra x1 = some (o, σV') ∧ f_X8_drop N σM x1 = some (o, (σ', σM.2)) ∧ RecI σV' σQ σ' c' ∧ (∀ i, i ≠ 26 → σ' 0 i = σM.1 0 i) ∧ (∀ b, b ≠ 0 → b ≠ 28 ∧ b ≠ 29 ∧ b ≠ 30 ∧ b ≠ 31 ∧ b ≠ 32 → σ' b = σM.1 b) ∧ (∀ i, i < c' → ∃ k, k < c ∧ σV'.2 i = σV.2 k) := by
  unfold f_X7_drop f_X8_drop f_X1_remove
  rcases find_rec hR x1 with ⟨e1, e2⟩ | ⟨i, hi, rfl, e1, e2⟩
  · rw [if_pos e2, e1, Option.bind_some]
    exact ⟨-1, σV, σM.1, c, rfl, rfl, hR, fun _ _ => rfl, fun _ _ _ => rfl, fun i hi => ⟨i, hi, rfl⟩⟩
  · rw [if_neg e2, e1, Option.bind_some]
    obtain ⟨h8, h1, h2, h3, h4, h5⟩ := hR
    obtain ⟨d, rfl⟩ : ∃ d, c = d + 1 := ⟨c - 1, by omega⟩
    unfold oc lt
    dsimp only
    have hr := rem_loop (N := N) (V := σV.1) (σQ := σQ) (c := d) (j := σV.2 i) (by omega) (h3 i (by omega)) h1 (d - i) i N σV.2 (by omega) (by omega) h3
    rw [show f_X1_remove_14 N N σV σQ (σV.2 i) (iI (i : Nat)) = _ from hr, Option.bind_some]
    obtain ⟨σ', g1, g2, g3⟩ := drop_loop hN (c := d) (by omega) (d - i) i N (up2 σM.1 0 26 (iI (d : Nat)), σM.2) (by omega) (by omega) (u2e σM.1 0 26 (iI (d : Nat)))
    rw [h2, show (1 : Int32) = iI 1 from rfl, iI_sub, show ((d + 1 : Nat) : Int) - 1 = (d : Int) by omega, g1]
    refine ⟨_, _, σ', d, rfl, rfl, ⟨by omega, u2e σV.1 0 1 (iI (d : Nat)), ?_, ?_, ?_, ?_⟩, ?_, ?_, ?_⟩
    · rw [g2 0 (by omega)]; exact u2e σM.1 0 26 (iI (d : Nat))
    · intro k hk
      show cut σV.2 i d (σV.2 i) k < 8
      unfold cut
      split
      · exact h3 i (by omega)
      · split
        · exact h3 _ (by omega)
        · exact h3 k hk
    · intro k l hk hl
      show cut σV.2 i d (σV.2 i) k = cut σV.2 i d (σV.2 i) l → k = l
      have hq : ∀ k, k < 8 → ∃ q, q < 8 ∧ cut σV.2 i d (σV.2 i) k = σV.2 q ∧ q = if k = d then i else if i ≤ k ∧ k < d then k + 1 else k := by
        intro k hk
        unfold cut
        by_cases c1 : k = d
        · rw [if_pos c1]; exact ⟨i, by omega, rfl, by rw [if_pos c1]⟩
        · rw [if_neg c1]
          by_cases c2 : i ≤ k ∧ k < d
          · rw [if_pos c2]; exact ⟨k + 1, by omega, rfl, by rw [if_neg c1, if_pos c2]⟩
          · rw [if_neg c2]; exact ⟨k, hk, rfl, by rw [if_neg c1, if_neg c2]⟩
      obtain ⟨q, q1, q2, q3⟩ := hq k hk
      obtain ⟨r, r1, r2, r3⟩ := hq l hl
      rw [q2, r2]
      intro e
      have := h4 q r q1 r1 e
      rw [q3, r3] at this
      split at this <;> split at this
      all_goals (try split at this)
      all_goals (try split at this)
      all_goals omega
    · intro k hk
      have hp : cut σV.2 i d (σV.2 i) k = σV.2 (if i ≤ k then k + 1 else k) := by
        unfold cut
        rw [if_neg (by omega)]
        by_cases c2 : i ≤ k
        · rw [if_pos ⟨c2, hk⟩, if_pos c2]
        · rw [if_neg (by omega), if_neg c2]
      obtain ⟨K, C, E, Y, nm, p1, p2, p3⟩ := h5 (if i ≤ k then k + 1 else k) (by split <;> omega)
      refine ⟨K, C, E, Y, nm, ?_, g3 k K C E Y nm hk ?_, p3⟩
      · show AccI (σQ (cut σV.2 i d (σV.2 i) k)).1 K C E Y nm
        rw [hp]; exact p1
      · exact p2
    · intro k hk
      rw [g2 0 (by omega)]
      exact u2n σM.1 (j := 0) (v := iI (d : Nat)) (b := 0) (Or.inr hk)
    · intro b hb0 hb
      rw [g2 b hb]
      exact u2r σM.1 (i := 26) (v := iI (d : Nat)) hb0
    · intro k hk
      refine ⟨if i ≤ k then k + 1 else k, by split <;> omega, ?_⟩
      show cut σV.2 i d (σV.2 i) k = _
      unfold cut
      rw [if_neg (by omega)]
      by_cases c2 : i ≤ k
      · rw [if_pos ⟨c2, hk⟩, if_pos c2]
      · rw [if_neg (by omega), if_neg c2]
