/-! both read the same letters -/
theorem let_t {x : Int32} (h : ¬ bI (f_X6_isLetter x) = 0) : 97 ≤ x.toInt ∧ x.toInt ≤ 122 := by
  unfold f_X6_isLetter at h
  by_cases h1 : x < 97
  · rw [if_pos h1] at h; exact absurd bI_f h
  · rw [if_neg h1] at h
    by_cases h2 : 122 < x
    · rw [if_pos h2] at h; exact absurd bI_f h
    · rw [Int32.lt_iff_toInt_lt] at h1 h2
      rw [show (97 : Int32) = iI 97 from rfl, iI_toInt (by omega) (by omega)] at h1
      rw [show (122 : Int32) = iI 122 from rfl, iI_toInt (by omega) (by omega)] at h2
      omega
def lets (r : Nat → Int32) : Nat → Nat → List Nat → Option (List Nat)
  | _, 0, L => some L
  | p, k + 1, L => if bI (f_X6_isLetter (r p)) = 0 then none else lets r (p + 1) k (((r p).toInt - 96).toNat :: L)
theorem en_lt32 : ∀ L : List Nat, letters L → en 32 L < 32 ^ L.length
  | [], _ => by show 0 < 1; omega
  | v :: L, h => by
    have h1 := en_lt32 L (fun x hx => h x (List.mem_cons_of_mem _ hx))
    have h2 := (h v (List.mem_cons_self ..)).2
    show 32 * en 32 L + v < 32 ^ (L.length + 1)
    rw [Nat.pow_succ]
    omega
theorem nb_loop (N : Nat) {σT : St2} {l e : Nat} (hl : l ≤ 200) (h1 : σT 0 1 = iI (l : Int)) (he : e ≤ l) : ∀ (k n p : Nat) (L : List Nat), p + k = e → k < n → L.length + k ≤ 6 → letters L → f_X6_nameBetween_20 N n σT (iI e) (iI (en 32 L : Nat)) (iI p) = (lets (σT 1) p k L).elim (some (-1)) (fun M => some (iI (en 32 M : Nat))) := by
  intro k
  induction k with
  | zero =>
    intro n p L hk hn hL hg
    cases n with
    | zero => exact absurd hn (Nat.not_lt_zero _)
    | succ n =>
      rw [f_X6_nameBetween_20, if_pos (by rw [iI_le (by omega) (by omega) (by omega) (by omega)]; omega)]
      rfl
  | succ k ih =>
    intro n p L hk hn hL hg
    cases n with
    | zero => exact absurd hn (Nat.not_lt_zero _)
    | succ n =>
      have hb : f_X6_byteAt σT (iI p) = some (σT 1 p) := by
        unfold f_X6_byteAt
        rw [h1, if_neg (by rw [show (0 : Int32) = iI 0 from rfl, iI_lt (by omega) (by omega) (by omega) (by omega)]; omega), if_neg (by rw [iI_le (by omega) (by omega) (by omega) (by omega)]; omega), if_neg (ix_no (n := 200) (by omega) (by omega) (by omega)), iI_clamp (by omega) (by omega), Int.toNat_natCast]
      rw [f_X6_nameBetween_20, if_neg (by rw [iI_le (by omega) (by omega) (by omega) (by omega)]; omega), hb, Option.bind_some, lets]
      by_cases c : bI (f_X6_isLetter (σT 1 p)) = 0
      · rw [if_pos c, if_pos c]
        rfl
      · rw [if_neg c, if_neg c]
        have ht := let_t c
        have hlt := en_lt32 L hg
        have hp : 32 ^ L.length ≤ 32 ^ 5 := Nat.pow_le_pow_right (by omega) (by omega)
        have e5 : (32 : Nat) ^ 5 = 33554432 := by decide
        have ev : σT 1 p - 97 + 1 = iI ((((σT 1 p).toInt - 96).toNat : Nat) : Int) := by
          rw [Int.toNat_of_nonneg (by omega)]
          conv => lhs; rw [iI_of (σT 1 p)]
          rw [show (97 : Int32) = iI 97 from rfl, show (1 : Int32) = iI 1 from rfl, iI_sub, iI_add]
          congr 1
          omega
        rw [ev, shl5 (by omega) (by omega), nx]
        refine ih n (p + 1) (((σT 1 p).toInt - 96).toNat :: L) (by omega) (by omega) (by show L.length + 1 + k ≤ 6; omega) ?_
        intro v hv
        cases hv with
        | head => omega
        | tail _ h => exact hg v h
