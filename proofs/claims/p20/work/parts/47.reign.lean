/-! reigns -/
theorem en_lt27 : ∀ L : List Nat, letters L → en 27 L < 27 ^ L.length
  | [], _ => by show 0 < 1; omega
  | v :: L, h => by
    have h1 := en_lt27 L (fun x hx => h x (List.mem_cons_of_mem _ hx))
    have h2 := (h v (List.mem_cons_self ..)).2
    show 27 * en 27 L + v < 27 ^ (L.length + 1)
    rw [Nat.pow_succ]
    omega
def short (L : List Nat) : Prop := letters L ∧ 1 ≤ L.length ∧ L.length ≤ 6
theorem en32_b {L : List Nat} (h : short L) : en 32 L < 1073741824 := by
  have h1 := en_lt32 L h.1
  have h2 : 32 ^ L.length ≤ 32 ^ 6 := Nat.pow_le_pow_right (by omega) h.2.2
  have h3 : (32 : Nat) ^ 6 = 1073741824 := by decide
  omega
theorem en27_b {L : List Nat} (h : short L) : en 27 L < 1073741824 := by
  have h1 := en_lt27 L h.1
  have h2 : 27 ^ L.length ≤ 27 ^ 6 := Nat.pow_le_pow_right (by omega) h.2.2
  have h3 : (27 : Nat) ^ 6 = 387420489 := by decide
  omega
theorem en_same {L M : List Nat} (hL : short L) (hM : short M) : iI (en 32 L : Nat) = iI (en 32 M : Nat) ↔ lI (en 27 L : Nat) = lI (en 27 M : Nat) := by
  have a := en32_b hL
  have b := en32_b hM
  have c := en27_b hL
  have d := en27_b hM
  rw [iI_eq (by omega) (by omega) (by omega) (by omega), lI_eq (by omega) (by omega) (by omega) (by omega)]
  constructor
  · intro h
    rw [en_inj32 L M hL.1 hM.1 (by omega)]
  · intro h
    rw [en_inj27 L M hL.1 hM.1 (by omega)]
def ReignI (σR : St2) (σM : St2 × (Nat → Int64)) (c : Nat) : Prop := c ≤ 12 ∧ σR 0 3 = iI (c : Int) ∧ σM.1 0 22 = iI (c : Int) ∧ ∀ i, i < c → (∃ L, short L ∧ σR 1 i = iI (en 32 L : Nat) ∧ σM.2 i = lI (en 27 L : Nat)) ∧ σR 2 i = σM.1 25 i ∧ σR 3 i = σM.1 26 i ∧ (0 ≤ (σM.1 25 i).toInt ∧ (σM.1 25 i).toInt ≤ 2) ∧ (0 ≤ (σM.1 26 i).toInt ∧ (σM.1 26 i).toInt ≤ 600)
theorem rf_loop (N : Nat) {σR : St2} {σM : St2 × (Nat → Int64)} {c : Nat} (h : ReignI σR σM c) {M : List Nat} (hM : short M) : ∀ (k n n' p : Nat), p + k = c → k < n → k < n' → ∃ o, f_X4_find_2 N n σR (iI (en 32 M : Nat)) (iI p) = some o ∧ f_X8_reignOf_2 N n' σM (lI (en 27 M : Nat)) (iI p) = some o ∧ (o = -1 ∨ ∃ i, i < c ∧ o = iI (i : Nat)) := by
  obtain ⟨h1, h2, h3, h4⟩ := h
  intro k
  induction k with
  | zero =>
    intro n n' p hk hn hn'
    cases n with
    | zero => exact absurd hn (Nat.not_lt_zero _)
    | succ n =>
      cases n' with
      | zero => exact absurd hn' (Nat.not_lt_zero _)
      | succ n' =>
        have cl : iI (c : Int) ≤ iI (p : Int) := by rw [iI_le (by omega) (by omega) (by omega) (by omega)]; omega
        refine ⟨-1, ?_, ?_, Or.inl rfl⟩
        · rw [f_X4_find_2, h2, if_pos cl]
        · rw [f_X8_reignOf_2, h3, if_pos cl]
  | succ k ih =>
    intro n n' p hk hn hn'
    cases n with
    | zero => exact absurd hn (Nat.not_lt_zero _)
    | succ n =>
      cases n' with
      | zero => exact absurd hn' (Nat.not_lt_zero _)
      | succ n' =>
        have cl : ¬ iI (c : Int) ≤ iI (p : Int) := by rw [iI_le (by omega) (by omega) (by omega) (by omega)]; omega
        obtain ⟨L, hL, q1, q2⟩ := (h4 p (by omega)).1
        have es := en_same hL hM
        rw [f_X4_find_2, h2, if_neg cl, if_neg (ix_no (n := 12) (by omega) (by omega) (by omega)), iI_clamp (by omega) (by omega), Int.toNat_natCast, q1]
        rw [f_X8_reignOf_2, h3, if_neg cl, if_neg (ix_no (n := 12) (by omega) (by omega) (by omega)), iI_clamp (by omega) (by omega), Int.toNat_natCast, q2]
        by_cases e : iI (en 32 L : Nat) = iI (en 32 M : Nat)
        · rw [if_pos e, if_pos ((lg_eq0 _ _).mpr (es.mp e))]
          exact ⟨_, rfl, rfl, Or.inr ⟨p, by omega, rfl⟩⟩
        · rw [if_neg e, if_neg (fun z => e (es.mpr ((lg_eq0 _ _).mp z))), nx]
          exact ih n n' (p + 1) (by omega) (by omega) (by omega)
