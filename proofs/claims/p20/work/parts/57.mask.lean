/-! masks of slows -/
def MskI (x : Int64) (P : Nat → Prop) : Prop := ∀ j, j < 64 → (x.toBitVec.getLsbD j = true ↔ j ≤ 60 ∧ P j)
theorem bit1 : ∀ t, t < 61 → ∀ j, j < 64 → ((1 : Int64) <<< ((iI (t : Nat)).toInt64 &&& 63)).toBitVec.getLsbD j = decide (j = t) := by decide +kernel
theorem Msk_or {x y : Int64} {P Q : Nat → Prop} (h : MskI x P) (g : MskI y Q) : MskI (x ||| y) (fun j => P j ∨ Q j) := by
  intro j hj
  rw [Int64.toBitVec_or, BitVec.getLsbD_or, Bool.or_eq_true, h j hj, g j hj]
  constructor
  · rintro (⟨a, b⟩ | ⟨a, b⟩)
    · exact ⟨a, Or.inl b⟩
    · exact ⟨a, Or.inr b⟩
  · rintro ⟨a, b | b⟩
    · exact Or.inl ⟨a, b⟩
    · exact Or.inr ⟨a, b⟩
theorem Msk_and {x y : Int64} {P Q : Nat → Prop} (h : MskI x P) (g : MskI y Q) : MskI (x &&& y) (fun j => P j ∧ Q j) := by
  intro j hj
  rw [Int64.toBitVec_and, BitVec.getLsbD_and, Bool.and_eq_true, h j hj, g j hj]
  exact ⟨fun ⟨⟨a, b⟩, c, d⟩ => ⟨a, b, d⟩, fun ⟨a, b, d⟩ => ⟨⟨a, b⟩, a, d⟩⟩
theorem Msk_cg {x : Int64} {P Q : Nat → Prop} (h : MskI x P) (e : ∀ j, j ≤ 60 → (P j ↔ Q j)) : MskI x Q := by
  intro j hj
  rw [h j hj]
  exact ⟨fun ⟨a, b⟩ => ⟨a, (e j a).mp b⟩, fun ⟨a, b⟩ => ⟨a, (e j a).mpr b⟩⟩
theorem Msk_0 : MskI 0 (fun _ => False) := by
  intro j hj
  rw [show ((0 : Int64).toBitVec).getLsbD j = false from BitVec.getLsbD_zero]
  exact ⟨fun g => absurd g (by decide), fun g => g.2.elim⟩
theorem full_bits : ∀ j, j < 64 → (2305843009213693951 : Int64).toBitVec.getLsbD j = decide (j ≤ 60) := by decide +kernel
theorem Msk_full : MskI 2305843009213693951 (fun _ => True) := by
  intro j hj
  rw [full_bits j hj, decide_eq_true_iff]
  exact ⟨fun g => ⟨g, trivial⟩, fun g => g.1⟩
theorem Msk_one {t : Nat} (ht : t < 61) : MskI ((1 : Int64) <<< ((iI (t : Nat)).toInt64 &&& 63)) (fun j => j = t) := by
  intro j hj
  rw [bit1 t ht j hj, decide_eq_true_iff]
  exact ⟨fun g => ⟨by omega, g⟩, fun g => g.2⟩
theorem Msk_z {x : Int64} {P : Nat → Prop} (h : MskI x P) : x = 0 ↔ ∀ j, j ≤ 60 → ¬ P j := by
  constructor
  · rintro rfl j hj hP
    have := (h j (by omega)).mpr ⟨hj, hP⟩
    rw [show ((0 : Int64).toBitVec).getLsbD j = false from BitVec.getLsbD_zero] at this
    exact absurd this (by decide)
  · intro g
    apply Int64.toBitVec_inj.mp
    apply BitVec.eq_of_getLsbD_eq
    intro j hj
    rw [show ((0 : Int64).toBitVec).getLsbD j = false from BitVec.getLsbD_zero, Bool.eq_false_iff]
    intro e
    have := (h j hj).mp e
    exact g j this.1 this.2
theorem within_loop {N : Nat} {σA : St2 × Int64} {a b E k : Int} (hE0 : σA.1 0 2 = iI E) (hE : -720 ≤ E ∧ E ≤ 720) (hk : 0 ≤ k ∧ k ≤ 12000) {h : Int} (hh : -1000 ≤ h ∧ h ≤ 9600000) : ∀ (m t n : Nat) (acc : Int64), t + m = 61 → m < n → MskI acc (fun u => u < t ∧ zI a b E k (u : Int) / 60 = h) → ∃ x, f_X0_slowsWithin_5 N n σA (iI h) (iI (tmI a b k)) acc (iI t) = some x ∧ MskI x (fun u => zI a b E k (u : Int) / 60 = h)
  | 0, t, n + 1, acc, ht, _, hA => by
    rw [f_X0_slowsWithin_5, if_pos (show (60 : Int32) < iI t by rw [show (60 : Int32) = iI 60 from rfl, iI_lt (by omega) (by omega) (by omega) (by omega)]; omega)]
    exact ⟨acc, rfl, Msk_cg hA (fun j hj => ⟨fun g => g.2, fun g => ⟨by omega, g⟩⟩)⟩
  | m + 1, t, n + 1, acc, ht, hn, hA => by
    have hz := zI_rng (a := a) (b := b) (s := (t : Int)) hE hk (by omega)
    rw [f_X0_slowsWithin_5, if_neg (show ¬ (60 : Int32) < iI t by rw [show (60 : Int32) = iI 60 from rfl, iI_lt (by omega) (by omega) (by omega) (by omega)]; omega), hoursAt_eq hE0 hE hk (by omega), Option.bind_some]
    unfold f_X0_slowsWithin_30
    rw [nx]
    by_cases c : zI a b E k (t : Int) / 60 = h
    · rw [if_pos (by rw [c])]
      refine within_loop hE0 hE hk hh m (t + 1) n _ (by omega) (by omega) (Msk_cg (Msk_or hA (Msk_one (by omega))) ?_)
      intro j hj
      constructor
      · rintro (⟨g1, g2⟩ | rfl)
        · exact ⟨by omega, g2⟩
        · exact ⟨by omega, c⟩
      · rintro ⟨g1, g2⟩
        by_cases e : j = t
        · exact Or.inr e
        · exact Or.inl ⟨by omega, g2⟩
    · rw [if_neg (by rw [iI_eq (by omega) (by omega) (by omega) (by omega)]; exact c)]
      refine within_loop hE0 hE hk hh m (t + 1) n _ (by omega) (by omega) (Msk_cg hA ?_)
      intro j hj
      constructor
      · rintro ⟨g1, g2⟩
        exact ⟨by omega, g2⟩
      · rintro ⟨g1, g2⟩
        refine ⟨?_, g2⟩
        by_cases e : j = t
        · rw [e] at g2
          exact absurd g2 c
        · omega
theorem within_eq {N : Nat} (hN : 12002 ≤ N) {σA : St2 × Int64} {a b E k : Int} (hE0 : σA.1 0 2 = iI E) (hE : -720 ≤ E ∧ E ≤ 720) (hk : 0 ≤ k ∧ k ≤ 12000) {h : Int} (hh : -1000 ≤ h ∧ h ≤ 9600000) : ∃ x, f_X0_slowsWithin N σA (iI h) (iI (tmI a b k)) = some x ∧ MskI x (fun u => zI a b E k (u : Int) / 60 = h) := within_loop hE0 hE hk hh 61 0 N 0 (by omega) (by omega) (Msk_cg Msk_0 (fun j _ => ⟨fun g => g.elim, fun g => absurd g.1 (Nat.not_lt_zero _)⟩))
theorem zI_mono {a b E k s s' : Int} (hk : 0 ≤ k ∧ k ≤ 12000) (h : s ≤ s') : zI a b E k s ≤ zI a b E k s' := by
  have ht := tmI_rng (a := a) (b := b) hk
  unfold zI
  have h1 : 0 ≤ tmI a b k / 525600 := by omega
  generalize tmI a b k / 525600 = q at h1
  have h2 : s * q ≤ s' * q := Int.mul_le_mul_of_nonneg_right h h1
  have h3 : s * q * q ≤ s' * q * q := Int.mul_le_mul_of_nonneg_right h2 h1
  generalize s * q * q = x at h3
  generalize s' * q * q = y at h3
  omega
def MnP (C Y : Int) (nm : Nat → Int) (kd h : Int) : Prop := vis kd h = true ∧ tot C Y nm h = 0
theorem meaning_loop {N : Nat} (hN : 12002 ≤ N) {σA : St2 × Int64} {σS : St2} {K : Int32} {C E Y : Int} {nm : Nat → Int} (hA : AccI σA.1 K C E Y nm) (ho : okR C E Y nm) {a b k kd : Int} (hk : 0 ≤ k ∧ k ≤ 12000) {H : Int} (hH : -1000 ≤ H ∧ H ≤ 9000000) : ∀ (m n : Nat) (h : Int) (acc : Int64) (P : Nat → Prop), h + m = H + 1 → -1000 ≤ h → m < n → MskI acc P → ∃ x, f_X0_slowsMeaning_33 N n σA σS (iI (tmI a b k)) (bI (decide (kd < 4))) (iI H) acc (iI h) = some x ∧ MskI x (fun u => P u ∨ ((h ≤ zI a b E k (u : Int) / 60 ∧ zI a b E k (u : Int) / 60 ≤ H) ∧ MnP C Y nm kd (zI a b E k (u : Int) / 60))) := by
  intro m
  induction m with
  | zero =>
    intro n h acc P hm hh hn hP
    cases n with
    | zero => exact absurd hn (Nat.not_lt_zero _)
    | succ n =>
      rw [f_X0_slowsMeaning_33, if_pos (by rw [iI_lt (by omega) (by omega) (by omega) (by omega)]; omega)]
      refine ⟨acc, rfl, Msk_cg hP (fun j _ => ⟨fun g => Or.inl g, fun g => g.elim id (fun g => ?_)⟩)⟩
      have := g.1
      omega
  | succ m IH =>
    intro n h acc P hm hh hn hP
    cases n with
    | zero => exact absurd hn (Nat.not_lt_zero _)
    | succ n =>
      rw [f_X0_slowsMeaning_33, if_neg (by rw [iI_lt (by omega) (by omega) (by omega) (by omega)]; omega), isSeenAt_eq (by omega)]
      unfold f_X0_slowsMeaning_72
      rw [show iI h + 1 = iI (h + 1) from by rw [show (1 : Int32) = iI 1 from rfl, iI_add]]
      have hno : ¬ MnP C Y nm kd h → ∃ x, f_X0_slowsMeaning_33 N n σA σS (iI (tmI a b k)) (bI (decide (kd < 4))) (iI H) acc (iI (h + 1)) = some x ∧ MskI x (fun u => P u ∨ ((h ≤ zI a b E k (u : Int) / 60 ∧ zI a b E k (u : Int) / 60 ≤ H) ∧ MnP C Y nm kd (zI a b E k (u : Int) / 60))) := by
        intro hn'
        obtain ⟨x, g1, g2⟩ := IH n (h + 1) acc P (by omega) (by omega) (by omega) hP
        refine ⟨x, g1, Msk_cg g2 (fun j _ => ⟨fun g => g.imp id (fun g => ⟨⟨by omega, g.1.2⟩, g.2⟩), fun g => g.imp id (fun g => ⟨⟨?_, g.1.2⟩, g.2⟩)⟩)⟩
        by_cases e : zI a b E k (j : Int) / 60 = h
        · rw [e] at g
          exact absurd g.2 hn'
        · omega
      by_cases c1 : vis kd h = true
      · have h0 := vis_0 c1
        rw [if_neg (by rw [c1]; exact bI_t)]
        obtain ⟨o, e, g1, g2, g3, g4⟩ := slipsAt_eq hN hA ho (c := 0) (h := h) (by omega) (by omega) (by omega)
        rw [show f_X0_slipsAt N σA (iI h) 0 = _ from e, Option.bind_some]
        have ht := tot_rng C Y nm h
        by_cases c2 : tot C Y nm h = 0
        · rw [if_pos (show iI o = 0 by rw [g3 (by omega), c2]; rfl)]
          obtain ⟨w, w1, w2⟩ := within_eq hN (a := a) (b := b) (k := k) hA.2.2.1 ho.2.1 hk (h := h) (by omega)
          rw [w1, Option.bind_some]
          obtain ⟨x, k1, k2⟩ := IH n (h + 1) (acc ||| w) _ (by omega) (by omega) (by omega) (Msk_or hP w2)
          refine ⟨x, k1, Msk_cg k2 (fun j _ => ?_)⟩
          constructor
          · rintro ((g | g) | g)
            · exact Or.inl g
            · exact Or.inr ⟨⟨by omega, by omega⟩, by rw [g]; exact ⟨c1, c2⟩⟩
            · exact Or.inr ⟨⟨by omega, g.1.2⟩, g.2⟩
          · rintro (g | g)
            · exact Or.inl (Or.inl g)
            · by_cases e : zI a b E k (j : Int) / 60 = h
              · exact Or.inl (Or.inr e)
              · exact Or.inr ⟨⟨by omega, g.1.2⟩, g.2⟩
        · have := g4 (by omega)
          rw [if_neg (fun g => by have := (iI_z (v := o) (by omega) (by omega)).mp g; omega)]
          exact hno (fun g => c2 g.2)
      · rw [if_pos (by rw [Bool.eq_false_iff.mpr c1]; exact bI_f)]
        exact hno (fun g => c1 g.1)
theorem meaning_eq {N : Nat} (hN : 12002 ≤ N) {σA : St2 × Int64} {σS : St2} {K : Int32} {C E Y : Int} {nm : Nat → Int} (hA : AccI σA.1 K C E Y nm) (ho : okR C E Y nm) {a b f : Int} {c : Nat} (hc : (EL a f 12001).length = c) (hl : c ≤ 1799) (hS : SkyOf σS a b f) {i : Nat} (hi : i < c) : ∃ x, f_X0_slowsMeaning N σA σS (iI i) = some x ∧ MskI x (fun u => MnP C Y nm (knd a f ((EL a f 12001).getD i 0 : Nat)) (zI a b E ((EL a f 12001).getD i 0 : Nat) (u : Int) / 60)) := by
  have h4 := list_at hc hl hS hi
  have hA4 := EL_at a f 12001 i (by omega)
  generalize (EL a f 12001).getD i 0 = k at h4 hA4
  have hk : 0 ≤ (k : Int) ∧ (k : Int) ≤ 12000 := by omega
  have z0 := zI_rng (a := a) (b := b) (s := 0) ho.2.1 hk (by omega)
  have z60 := zI_rng (a := a) (b := b) (s := 60) ho.2.1 hk (by omega)
  have zm := zI_mono (a := a) (b := b) (E := E) (s := 0) (s' := 60) hk (by omega)
  have hm := zI_mid (a := a) (b := b) (s := 60) hk (by omega)
  have e60 : zI a b E k 60 ≤ zI a b E k 0 + 1500 := by
    unfold zI
    generalize 60 * (tmI a b k / 525600) * (tmI a b k / 525600) = w at hm
    rw [Int.zero_mul, Int.zero_mul]
    omega
  unfold f_X0_slowsMeaning
  rw [h4.2.1, Option.bind_some, h4.2.2.2, Option.bind_some, show (60 : Int32) = iI 60 from rfl, hoursAt_eq hA.2.2.1 ho.2.1 hk (by omega), Option.bind_some, show (0 : Int32) = iI 0 from rfl, hoursAt_eq hA.2.2.1 ho.2.1 hk (by omega), Option.bind_some]
  obtain ⟨x, g1, g2⟩ := meaning_loop hN (σS := σS) hA ho (a := a) (b := b) (kd := knd a f k) hk (H := zI a b E k 60 / 60) (by omega) (zI a b E k 60 / 60 + 1 - zI a b E k 0 / 60).toNat N (zI a b E k 0 / 60) 0 (fun _ => False) (by omega) (by omega) (by omega) Msk_0
  refine ⟨x, g1, Msk_cg g2 (fun j hj => ⟨fun g => g.elim (fun g => g.elim) (fun g => g.2), fun g => Or.inr ⟨⟨?_, ?_⟩, g⟩⟩)⟩
  · have := zI_mono (a := a) (b := b) (E := E) (s := 0) (s' := (j : Int)) hk (by omega)
    omega
  · have := zI_mono (a := a) (b := b) (E := E) (s := (j : Int)) (s' := 60) hk (by omega)
    omega
