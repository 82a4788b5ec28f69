theorem lets_cg {r r' : Nat → Int32} : ∀ (k p : Nat) (L : List Nat), (∀ i, p ≤ i → i < p + k → r i = r' i) → lets r p k L = lets r' p k L
  | 0, _, _, _ => rfl
  | k + 1, p, L, h => by
    rw [lets, lets, h p (Nat.le_refl _) (by omega), lets_cg k (p + 1) _ (fun i h1 h2 => h i (by omega) (by omega))]
theorem lets_ok {r : Nat → Int32} : ∀ (k p : Nat) (L M : List Nat), letters L → lets r p k L = some M → letters M ∧ M.length = L.length + k
  | 0, _, L, M, hL, h => by
    have e : L = M := Option.some.inj h
    rw [← e]
    exact ⟨hL, rfl⟩
  | k + 1, p, L, M, hL, h => by
    rw [lets] at h
    by_cases c : bI (f_X6_isLetter (r p)) = 0
    · rw [if_pos c] at h
      cases h
    · rw [if_neg c] at h
      have ht := let_t c
      have hg : letters (((r p).toInt - 96).toNat :: L) := by
        intro v hv
        cases hv with
        | head => omega
        | tail _ h => exact hL v h
      have q := lets_ok k (p + 1) _ M hg h
      exact ⟨q.1, by rw [q.2, List.length_cons]; omega⟩
theorem pkd_loop (N : Nat) {σM : St2 × (Nat → Int64)} {e : Nat} (he : e ≤ 200) : ∀ (k n p : Nat) (L M : List Nat), p + k = e → k < n → lets (σM.1 14) p k L = some M → f_X8_packed_5 N n σM (iI e) (lI (en 27 L : Nat)) (iI p) = some (lI (en 27 M : Nat)) := by
  intro k
  induction k with
  | zero =>
    intro n p L M hk hn h
    cases n with
    | zero => exact absurd hn (Nat.not_lt_zero _)
    | succ n =>
      have e1 : L = M := Option.some.inj h
      rw [f_X8_packed_5, if_pos (by rw [iI_le (by omega) (by omega) (by omega) (by omega)]; omega), e1]
  | succ k ih =>
    intro n p L M hk hn h
    cases n with
    | zero => exact absurd hn (Nat.not_lt_zero _)
    | succ n =>
      rw [lets] at h
      by_cases c : bI (f_X6_isLetter (σM.1 14 p)) = 0
      · rw [if_pos c] at h
        cases h
      · rw [if_neg c] at h
        have ht := let_t c
        have ev : 27 * lI (en 27 L : Nat) + (σM.1 14 p).toInt64 - 97 + 1 = lI (en 27 (((σM.1 14 p).toInt - 96).toNat :: L) : Nat) := by
          have e2 : (σM.1 14 p).toInt64 = lI (σM.1 14 p).toInt := by
            conv => lhs; rw [iI_of (σM.1 14 p)]
            exact iI_l (by omega) (by omega)
          rw [e2, show (27 : Int64) = lI 27 from rfl, show (97 : Int64) = lI 97 from rfl, show (1 : Int64) = lI 1 from rfl, lI_mul, lI_add, lI_sub, lI_add]
          congr 1
          rw [en]
          omega
        rw [f_X8_packed_5, if_neg (by rw [iI_le (by omega) (by omega) (by omega) (by omega)]; omega), if_neg (ix_no (n := 200) (by omega) (by omega) (by omega)), iI_clamp (by omega) (by omega), Int.toNat_natCast]
        unfold lt
        rw [ev, nx]
        exact ih n (p + 1) _ M (by omega) (by omega) h
theorem r59_loop (N : Nat) {σM : St2 × (Nat → Int64)} {e : Nat} (he : e ≤ 200) (y1 y2 : Int32) : ∀ (k n p : Nat) (L : List Nat), p + k = e → k + 1 < n → f_X8_reign_59 N n σM y1 y2 (iI e) 1 (iI p) = f_X8_reign_88 N σM y1 y2 (iI e) (bI (lets (σM.1 14) p k L).isSome) := by
  intro k
  induction k with
  | zero =>
    intro n p L hk hn
    cases n with
    | zero => exact absurd hn (Nat.not_lt_zero _)
    | succ n =>
      rw [f_X8_reign_59, if_pos (by rw [iI_le (by omega) (by omega) (by omega) (by omega)]; omega)]
      rfl
  | succ k ih =>
    intro n p L hk hn
    cases n with
    | zero => exact absurd hn (Nat.not_lt_zero _)
    | succ n =>
      rw [f_X8_reign_59, if_neg (by rw [iI_le (by omega) (by omega) (by omega) (by omega)]; omega), if_neg (by decide), if_neg (ix_no (n := 200) (by omega) (by omega) (by omega)), iI_clamp (by omega) (by omega), Int.toNat_natCast, lets, nx]
      unfold lt
      dsimp only
      rw [show f_X8_isLetter (σM.1 14 p) = f_X6_isLetter (σM.1 14 p) from rfl]
      by_cases c : bI (f_X6_isLetter (σM.1 14 p)) = 0
      · rw [if_pos c, c]
        cases n with
        | zero => omega
        | succ n =>
          rw [f_X8_reign_59, if_pos (show (0 : Int32) = 0 from rfl), ite_self]
          rfl
      · rw [if_neg c]
        have e1 : bI (f_X6_isLetter (σM.1 14 p)) = 1 := by
          cases h : f_X6_isLetter (σM.1 14 p)
          · rw [h] at c; exact absurd bI_f c
          · rfl
        rw [e1]
        exact ih n (p + 1) _ (by omega) (by omega)
