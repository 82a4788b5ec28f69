/-! the day's month -/
def rsm (c : Int) (lo : Bool) : Nat → Int
  | 0 => 0
  | k + 1 => ml c lo (13 - k) + rsm c lo k
def fmd (c : Int) (lo : Bool) : Nat → Int → Int × Int
  | 0, r => (14, r + 1)
  | k + 1, r => if ml c lo (13 - k) ≤ r then fmd c lo k (r - ml c lo (13 - k)) else (((13 - k : Nat) : Int), r + 1)
theorem rsm_year {c : Int} (hc : c = 0 ∨ c = 1 ∨ c = 2) (lo : Bool) : rsm c lo 13 = ydy c lo := by
  rcases hc with rfl | rfl | rfl <;> cases lo <;> decide
theorem ml_rng {c : Int} (lo : Bool) (hc : c = 0 ∨ c = 1 ∨ c = 2) : ∀ k, k ≤ 12 → 0 ≤ ml c lo (13 - k) ∧ ml c lo (13 - k) ≤ 31 := by
  rcases hc with rfl | rfl | rfl <;> cases lo <;> decide
theorem fmd_rng {c : Int} (lo : Bool) (hc : c = 0 ∨ c = 1 ∨ c = 2) : ∀ (k : Nat) (r : Int), k ≤ 13 → 0 ≤ r → r < rsm c lo k → 1 ≤ (fmd c lo k r).1 ∧ (fmd c lo k r).1 ≤ 13 ∧ 1 ≤ (fmd c lo k r).2 ∧ (fmd c lo k r).2 ≤ 31
  | 0, r, _, h0, h1 => by
    have : r < 0 := h1
    omega
  | k + 1, r, hk, h0, h1 => by
    have hm := ml_rng lo hc k (by omega)
    have h1' : r < ml c lo (13 - k) + rsm c lo k := h1
    rw [fmd]
    by_cases e : ml c lo (13 - k) ≤ r
    · rw [if_pos e]
      exact fmd_rng lo hc k _ (by omega) (by omega) (by omega)
    · rw [if_neg e]
      show 1 ≤ ((13 - k : Nat) : Int) ∧ ((13 - k : Nat) : Int) ≤ 13 ∧ 1 ≤ r + 1 ∧ r + 1 ≤ 31
      omega
theorem md_loop (N : Nat) {c y : Int} (hc : c = 0 ∨ c = 1 ∨ c = 2) (hy : 0 ≤ y) (hy2 : y ≤ 3000) : ∀ (k n : Nat) (r : Int), k ≤ 13 → k < n → 0 ≤ r → r ≤ 1000 → r < rsm c (lng c y) k → f_X2_monthDayOf_11 N n (iI c) (iI y) (iI r) (iI ((14 - k : Nat) : Int)) = some (iI ((fmd c (lng c y) k r).1 * 100 + (fmd c (lng c y) k r).2)) := by
  intro k
  induction k with
  | zero =>
    intro n r _ _ h0 _ h1
    have : r < 0 := h1
    omega
  | succ k ih =>
    intro n r hk hn h0 h9 h1
    have hm := ml_rng (lng c y) hc k (by omega)
    have h1' : r < ml c (lng c y) (13 - k) + rsm c (lng c y) k := h1
    cases n with
    | zero => exact absurd hn (Nat.not_lt_zero _)
    | succ n =>
      rw [show 14 - (k + 1) = 13 - k by omega, f_X2_monthDayOf_11, if_neg (by rw [show (13 : Int32) = iI 13 from rfl, iI_lt (by omega) (by omega) (by omega) (by omega)]; omega), monthLength_eq hc hy hy2 (m := 13 - k) (by omega), Option.bind_some, fmd]
      by_cases e : ml c (lng c y) (13 - k) ≤ r
      · rw [if_pos e, if_pos (by rw [iI_le (by omega) (by omega) (by omega) (by omega)]; exact e), iI_sub, nx, show 13 - k + 1 = 14 - k by omega]
        exact ih n _ (by omega) (by omega) (by omega) (by omega) (by omega)
      · rw [if_neg e, if_neg (by rw [iI_le (by omega) (by omega) (by omega) (by omega)]; exact e), show (100 : Int32) = iI 100 from rfl, show (1 : Int32) = iI 1 from rfl, iI_mul, iI_add, iI_add, Int.add_assoc]
def offD (σ' σ : St2) : Prop := (∀ i, i ≠ 10 → i ≠ 11 → i ≠ 12 → σ' 0 i = σ 0 i) ∧ ∀ j, j ≠ 0 → σ' j = σ j
theorem offD_rf (σ : St2) : offD σ σ := ⟨fun _ _ _ _ => rfl, fun _ _ => rfl⟩
theorem offD_tr {x y z : St2} (h1 : offD x y) (h2 : offD y z) : offD x z := ⟨fun i a b d => (h1.1 i a b d).trans (h2.1 i a b d), fun j a => (h1.2 j a).trans (h2.2 j a)⟩
theorem offD_up {σ : St2} {k : Nat} {v : Int32} (hk : k = 10 ∨ k = 11 ∨ k = 12) : offD (up2 σ 0 k v) σ := by
  constructor
  · intro i h0 h1 h2
    show upd (σ 0) k v i = _
    unfold upd
    rw [if_neg (by omega)]
  · intro j hj
    unfold up2
    rw [if_neg hj]
theorem dm_loop (N : Nat) {c y : Int} (hc : c = 0 ∨ c = 1 ∨ c = 2) (hy : 0 ≤ y) (hy2 : y ≤ 3000) : ∀ (k n : Nat) (r : Int) (σ : St2 × (Nat → Int64)), (∀ n, n < 12 → σ.1 10 n = iI (mtab n)) → σ.1 0 10 = iI y → σ.1 0 11 = iI ((14 - k : Nat) : Int) → k ≤ 13 → k < n → 0 ≤ r → r ≤ 1000 → r < rsm c (lng c y) k → ∃ σ' : St2, f_X8_dates_106 N n σ (iI c) (iI r) = some (σ', σ.2) ∧ σ' 0 10 = iI y ∧ σ' 0 11 = iI (fmd c (lng c y) k r).1 ∧ σ' 0 12 = iI (fmd c (lng c y) k r).2 ∧ offD σ' σ.1 := by
  intro k
  induction k with
  | zero =>
    intro n r σ _ _ _ _ _ h0 _ h1
    have : r < 0 := h1
    omega
  | succ k ih =>
    intro n r σ ht g10 g11 hk hn h0 h9 h1
    have hm := ml_rng (lng c y) hc k (by omega)
    have h1' : r < ml c (lng c y) (13 - k) + rsm c (lng c y) k := h1
    rw [show 14 - (k + 1) = 13 - k by omega] at g11
    cases n with
    | zero => exact absurd hn (Nat.not_lt_zero _)
    | succ n =>
      rw [f_X8_dates_106, g10, g11, monthDays_eq ht hc hy hy2 (m := 13 - k) (by omega), Option.bind_some, Option.bind_some, fmd]
      by_cases e : ml c (lng c y) (13 - k) ≤ r
      · rw [if_pos e, if_neg (by rw [iI_lt (by omega) (by omega) (by omega) (by omega)]; omega), iI_sub, nx, show 13 - k + 1 = 14 - k by omega]
        obtain ⟨σ', e1, e2, e3, e4, e5⟩ := ih n (r - ml c (lng c y) (13 - k)) (up2 σ.1 0 11 (iI ((14 - k : Nat) : Int)), σ.2) ht g10 rfl (by omega) (by omega) (by omega) (by omega) (by omega)
        exact ⟨σ', e1, e2, e3, e4, offD_tr e5 (offD_up (Or.inr (Or.inl rfl)))⟩
      · rw [if_neg e, if_pos (by rw [iI_lt (by omega) (by omega) (by omega) (by omega)]; omega), show (1 : Int32) = iI 1 from rfl, iI_add]
        exact ⟨up2 σ.1 0 12 (iI (r + 1)), rfl, g10, g11, rfl, offD_up (Or.inr (Or.inr rfl))⟩
