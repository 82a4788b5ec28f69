/-! how many eclipses the sky can hold -/
def sm (c : Nat → Nat) : Nat → Nat
  | 0 => 0
  | n + 1 => sm c n + c n * 65536 ^ n
theorem sm_add (c d : Nat → Nat) : ∀ n, sm (fun i => c i + d i) n = sm c n + sm d n
  | 0 => rfl
  | n + 1 => by
    have h := sm_add c d n
    show sm (fun i => c i + d i) n + (c n + d n) * 65536 ^ n = (sm c n + c n * 65536 ^ n) + (sm d n + d n * 65536 ^ n)
    rw [h, Nat.add_mul]
    omega
theorem sm_zero (c : Nat → Nat) (h : ∀ i, c i = 0) : ∀ n, sm c n = 0
  | 0 => rfl
  | n + 1 => by
    show sm c n + c n * 65536 ^ n = 0
    rw [sm_zero c h n, h n, Nat.zero_mul]
theorem sm_lt {c : Nat → Nat} (h : ∀ i, c i < 65536) : ∀ n, sm c n < 65536 ^ n
  | 0 => by show 0 < 1; omega
  | n + 1 => by
    have h1 := sm_lt h n
    show sm c n + c n * 65536 ^ n < 65536 ^ (n + 1)
    have h2 : c n * 65536 ^ n ≤ 65535 * 65536 ^ n := Nat.mul_le_mul_right _ (by have := h n; omega)
    rw [Nat.pow_succ]
    generalize 65536 ^ n = P at *
    generalize c n * P = Q at *
    omega
theorem sm_dig {c : Nat → Nat} (h : ∀ i, c i < 65536) {j : Nat} : ∀ n, j < n → sm c n / 65536 ^ j % 65536 = c j
  | 0, hj => absurd hj (Nat.not_lt_zero _)
  | n + 1, hj => by
    have hl := sm_lt h n
    show (sm c n + c n * 65536 ^ n) / 65536 ^ j % 65536 = c j
    by_cases e : j = n
    · rw [e, Nat.add_mul_div_right _ _ (Nat.pow_pos (by omega)), Nat.div_eq_of_lt hl, Nat.zero_add]
      exact Nat.mod_eq_of_lt (h n)
    · have hj2 : j < n := by omega
      have e2 : c n * 65536 ^ n = (65536 * (c n * 65536 ^ (n - j - 1))) * 65536 ^ j := by
        have e3 : 65536 ^ n = 65536 ^ (n - j - 1) * (65536 ^ j * 65536) := by
          rw [← Nat.pow_succ, ← Nat.pow_add]
          congr 1
          omega
        rw [e3]
        generalize 65536 ^ (n - j - 1) = P
        generalize 65536 ^ j = Q
        rw [Nat.mul_comm Q 65536, ← Nat.mul_assoc, ← Nat.mul_assoc, Nat.mul_comm 65536 (c n * P)]
      rw [e2, Nat.add_mul_div_right _ _ (Nat.pow_pos (by omega)), Nat.add_mul_mod_self_left]
      exact sm_dig h n hj2
theorem sm_aux {x P Q : Nat} (h : x * 65535 + Q = P) : (x + 1 * P) * 65535 + Q = P * 65536 := by
  rw [Nat.one_mul, Nat.add_mul, Nat.add_right_comm, h, Nat.add_comm]
  rfl
theorem sm_indA {s e : Nat} (h : s ≤ e + 1) : ∀ n, sm (fun i => if s ≤ i ∧ i ≤ e then 1 else 0) n * 65535 + 65536 ^ (min s n) = 65536 ^ (min (e + 1) n)
  | 0 => by
    rw [Nat.min_zero, Nat.min_zero]
    show 0 * 65535 + 65536 ^ 0 = 65536 ^ 0
    rw [Nat.zero_mul, Nat.zero_add]
  | n + 1 => by
    have ih := sm_indA h n
    show (sm (fun i => if s ≤ i ∧ i ≤ e then 1 else 0) n + (if s ≤ n ∧ n ≤ e then 1 else 0) * 65536 ^ n) * 65535 + 65536 ^ (min s (n + 1)) = 65536 ^ (min (e + 1) (n + 1))
    generalize sm (fun i => if s ≤ i ∧ i ≤ e then 1 else 0) n = x at ih ⊢
    by_cases h1 : s ≤ n ∧ n ≤ e
    · rw [if_pos h1]
      rw [show min s n = s by omega, show min (e + 1) n = n by omega] at ih
      rw [show min s (n + 1) = s by omega, show min (e + 1) (n + 1) = n + 1 by omega, Nat.pow_succ]
      exact sm_aux ih
    · rw [if_neg h1, Nat.zero_mul, Nat.add_zero]
      by_cases h2 : n < s
      · rw [show min s n = n by omega, show min (e + 1) n = n by omega] at ih
        rw [show min s (n + 1) = n + 1 by omega, show min (e + 1) (n + 1) = n + 1 by omega]
        have : x * 65535 = 0 := Nat.add_right_cancel (m := 65536 ^ n) (by rw [Nat.zero_add]; exact ih)
        rw [this, Nat.zero_add]
      · rw [show min s n = s by omega, show min (e + 1) n = e + 1 by omega] at ih
        rw [show min s (n + 1) = s by omega, show min (e + 1) (n + 1) = e + 1 by omega]
        exact ih
theorem sm_ind {s e n : Nat} (h : s ≤ e + 1) (hn : e < n) : sm (fun i => if s ≤ i ∧ i ≤ e then 1 else 0) n = (65536 ^ (e + 1) - 65536 ^ s) / 65535 := by
  have ih := sm_indA h n
  rw [show min s n = s by omega, show min (e + 1) n = e + 1 by omega] at ih
  generalize sm (fun i => if s ≤ i ∧ i ≤ e then 1 else 0) n = x at ih ⊢
  generalize 65536 ^ (e + 1) = P at *
  generalize 65536 ^ s = Q at *
  omega
def lm (k : Nat) : Nat := 1550 - 470 * (k % 2)
def uk (k : Nat) : Nat := 18000 - (1953353 * k / 100 + lm k) % 18000
def Wk (k : Nat) : Nat := (65536 ^ ((uk k + 2 * lm k) / 50 + 1) - 65536 ^ (uk k / 50)) / 65535
def hit (i k : Nat) : Nat := if uk k / 50 ≤ i ∧ i ≤ (uk k + 2 * lm k) / 50 then 1 else 0
def spl (p : Nat → Nat) : Nat → Nat → Nat
  | 0, k => cond (Nat.ble k 12000) (p k) 0
  | d + 1, k => spl p d k + spl p d (k + 2 ^ d)
def ct (p : Nat → Nat) : Nat → Nat
  | 0 => 0
  | n + 1 => ct p n + p n
theorem spl_sm : ∀ d k, spl Wk d k = sm (fun i => spl (hit i) d k) 720
  | 0, k => by
    show cond (Nat.ble k 12000) (Wk k) 0 = sm (fun i => cond (Nat.ble k 12000) (hit i k) 0) 720
    cases Nat.ble k 12000
    · exact (sm_zero _ (fun _ => rfl) 720).symm
    · have h1 : lm k ≤ 1550 := by unfold lm; omega
      have h2 : uk k ≤ 18000 := by unfold uk; omega
      exact (sm_ind (s := uk k / 50) (e := (uk k + 2 * lm k) / 50) (n := 720) (by omega) (by omega)).symm
  | d + 1, k => by
    show spl Wk d k + spl Wk d (k + 2 ^ d) = sm (fun i => spl (hit i) d k + spl (hit i) d (k + 2 ^ d)) 720
    rw [sm_add (fun i => spl (hit i) d k) (fun i => spl (hit i) d (k + 2 ^ d)), spl_sm d k, spl_sm d (k + 2 ^ d)]
theorem hit_le (i k : Nat) : hit i k ≤ 1 := by
  unfold hit
  split <;> omega
theorem spl_ct (p : Nat → Nat) : ∀ d k, ct (fun k => cond (Nat.ble k 12000) (p k) 0) k + spl p d k = ct (fun k => cond (Nat.ble k 12000) (p k) 0) (k + 2 ^ d)
  | 0, k => rfl
  | d + 1, k => by
    have h1 := spl_ct p d k
    have h2 := spl_ct p d (k + 2 ^ d)
    rw [show k + 2 ^ (d + 1) = k + 2 ^ d + 2 ^ d by rw [Nat.pow_succ]; omega]
    show _ + (spl p d k + spl p d (k + 2 ^ d)) = _
    omega
theorem ct_le1 {p : Nat → Nat} (h : ∀ k, p k ≤ 1) : ∀ n, ct p n ≤ n
  | 0 => Nat.le_refl 0
  | n + 1 => by
    have h1 := ct_le1 h n
    have h2 := h n
    show ct p n + p n ≤ n + 1
    omega
theorem ct_mono {p q : Nat → Nat} : ∀ n, (∀ k, k < n → p k ≤ q k) → ct p n ≤ ct q n
  | 0, _ => Nat.le_refl 0
  | n + 1, h => by
    have h1 := ct_mono n (fun k hk => h k (by omega))
    have h2 := h n (by omega)
    show ct p n + p n ≤ ct q n + q n
    omega
theorem ct_add (p q : Nat → Nat) : ∀ n, ct (fun k => p k + q k) n = ct p n + ct q n
  | 0 => rfl
  | n + 1 => by
    have h1 := ct_add p q n
    show ct (fun k => p k + q k) n + (p n + q n) = (ct p n + p n) + (ct q n + q n)
    omega
theorem ct_up (p : Nat → Nat) (n : Nat) : ∀ m, ct p n ≤ ct p (n + m)
  | 0 => Nat.le_refl _
  | m + 1 => Nat.le_trans (ct_up p n m) (Nat.le_add_right _ _)
def chk (T : Nat) : Nat → Bool
  | 0 => true
  | j + 1 => Nat.ble (T / 65536 ^ j % 65536 + T / 65536 ^ (j + 360) % 65536) 1799 && chk T j
theorem chk_at {T : Nat} : ∀ {n j : Nat}, chk T n = true → j < n → T / 65536 ^ j % 65536 + T / 65536 ^ (j + 360) % 65536 ≤ 1799
  | 0, _, _, hj => absurd hj (Nat.not_lt_zero _)
  | n + 1, j, h, hj => by
    have h' : (Nat.ble (T / 65536 ^ n % 65536 + T / 65536 ^ (n + 360) % 65536) 1799 && chk T n) = true := h
    rw [Bool.and_eq_true] at h'
    by_cases e : j = n
    · rw [e]; exact Nat.le_of_ble_eq_true h'.1
    · exact chk_at h'.2 (by omega)
theorem chk_all : chk (spl Wk 14 0) 360 = true := by decide +kernel
theorem hits_le {j : Nat} (hj : j < 360) : ct (fun k => cond (Nat.ble k 12000) (hit j k) 0) 12001 + ct (fun k => cond (Nat.ble k 12000) (hit (j + 360) k) 0) 12001 ≤ 1799 := by
  have h := chk_at chk_all hj
  have hc : ∀ i, spl (hit i) 14 0 = ct (fun k => cond (Nat.ble k 12000) (hit i k) 0) 16384 := by
    intro i
    have := spl_ct (hit i) 14 0
    rw [show 0 + 2 ^ 14 = 16384 by decide] at this
    rw [← this]
    exact (Nat.zero_add _).symm
  have hb : ∀ i, spl (hit i) 14 0 < 65536 := by
    intro i
    rw [hc i]
    have := ct_le1 (p := fun k => cond (Nat.ble k 12000) (hit i k) 0) (fun k => by
      show cond (Nat.ble k 12000) (hit i k) 0 ≤ 1
      cases Nat.ble k 12000
      · exact Nat.zero_le 1
      · exact hit_le i k) 16384
    omega
  rw [spl_sm 14 0, sm_dig hb 720 (by omega), sm_dig hb 720 (by omega), hc j, hc (j + 360)] at h
  have h1 : ct (fun k => cond (Nat.ble k 12000) (hit j k) 0) 12001 ≤ ct (fun k => cond (Nat.ble k 12000) (hit j k) 0) 16384 := ct_up _ 12001 4383
  have h2 : ct (fun k => cond (Nat.ble k 12000) (hit (j + 360) k) 0) 12001 ≤ ct (fun k => cond (Nat.ble k 12000) (hit (j + 360) k) 0) 16384 := ct_up _ 12001 4383
  omega
theorem knd_hit {a f : Int} {k : Nat} (hf : 0 ≤ f ∧ f < 36000) (h : knd a f (k : Int) ≠ 0) : 1 ≤ hit ((f % 18000).toNat / 50) k + hit ((f % 18000).toNat / 50 + 360) k := by
  have hd : dF f (k : Int) ≤ (lm k : Nat) := by
    unfold lm
    unfold knd at h
    by_cases h2 : (k : Int) % 2 = 1
    · rw [if_pos h2] at h
      have : dF f (k : Int) ≤ 1080 := by
        by_cases h3 : dF f (k : Int) ≤ 480
        · omega
        · rw [if_neg h3] at h
          by_cases h4 : dF f (k : Int) ≤ 1080
          · exact h4
          · rw [if_neg h4] at h; exact absurd rfl h
      omega
    · rw [if_neg h2] at h
      have : dF f (k : Int) ≤ 1550 := by
        by_cases h3 : dF f (k : Int) ≤ 1000
        · omega
        · rw [if_neg h3] at h
          by_cases h4 : dF f (k : Int) ≤ 1550
          · exact h4
          · rw [if_neg h4] at h; exact absurd rfl h
      omega
  have hl : lm k ≤ 1550 := by unfold lm; omega
  unfold dF pF at hd
  unfold hit uk
  generalize lm k = L at *
  have eg : ((1953353 * (k : Int) / 100 : Int)) = ((1953353 * k / 100 : Nat) : Int) := by omega
  rw [eg] at hd
  generalize 1953353 * k / 100 = G at *
  by_cases c1 : (18000 - (G + L) % 18000) / 50 ≤ (f % 18000).toNat / 50 ∧ (f % 18000).toNat / 50 ≤ (18000 - (G + L) % 18000 + 2 * L) / 50
  · rw [if_pos c1]; omega
  · have c2 : (18000 - (G + L) % 18000) / 50 ≤ (f % 18000).toNat / 50 + 360 ∧ (f % 18000).toNat / 50 + 360 ≤ (18000 - (G + L) % 18000 + 2 * L) / 50 := by
      split at hd <;> omega
    exact Nat.le_trans (Nat.le_of_eq (if_pos c2).symm) (Nat.le_add_left _ _)
/-! the list -/
def EL (a f : Int) (n : Nat) : List Nat := (List.range n).filter (fun k => knd a f (k : Int) ≠ 0)
theorem EL_succ (a f : Int) (n : Nat) : EL a f (n + 1) = EL a f n ++ (if knd a f (n : Int) ≠ 0 then [n] else []) := by
  unfold EL
  rw [List.range_succ, List.filter_append]
  congr 1
  by_cases h : knd a f (n : Int) = 0
  · rw [if_neg (by simp [h])]; simp [h]
  · rw [if_pos h]; simp [h]
theorem EL_ct (a f : Int) : ∀ n, (EL a f n).length = ct (fun k => if knd a f (k : Int) ≠ 0 then 1 else 0) n
  | 0 => rfl
  | n + 1 => by
    rw [EL_succ, List.length_append, EL_ct a f n]
    show _ = ct (fun k => if knd a f (k : Int) ≠ 0 then 1 else 0) n + (if knd a f (n : Int) ≠ 0 then 1 else 0)
    by_cases h : knd a f (n : Int) = 0
    · rw [if_neg (by simp [h]), if_neg (by simp [h])]; rfl
    · rw [if_pos h, if_pos h]; rfl
theorem EL_len {a f : Int} (hf : 0 ≤ f ∧ f < 36000) : (EL a f 12001).length ≤ 1799 := by
  rw [EL_ct]
  have h := hits_le (j := (f % 18000).toNat / 50) (by omega)
  rw [← ct_add] at h
  refine Nat.le_trans (ct_mono 12001 ?_) h
  intro k hk
  have hb : Nat.ble k 12000 = true := Nat.ble_eq_true_of_le (by omega)
  show (if knd a f (k : Int) ≠ 0 then 1 else 0) ≤ cond (Nat.ble k 12000) (hit ((f % 18000).toNat / 50) k) 0 + cond (Nat.ble k 12000) (hit ((f % 18000).toNat / 50 + 360) k) 0
  rw [hb]
  by_cases e : knd a f (k : Int) = 0
  · rw [if_neg (by simp [e])]; exact Nat.zero_le _
  · rw [if_pos e]; exact knd_hit hf e
