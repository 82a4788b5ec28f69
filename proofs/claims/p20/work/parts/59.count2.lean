/-! lets and slow of the reference: counting over 0..60 -/
def cnt (P : Nat → Bool) : Nat → Nat
  | 0 => 0
  | n + 1 => cnt P n + (if P n = true then 1 else 0)
def fstB (P : Nat → Bool) : Nat → Int
  | 0 => -1
  | n + 1 => if cnt P n = 0 then (if P n = true then (n : Int) else -1) else fstB P n
def lstB (P : Nat → Bool) : Nat → Int
  | 0 => -1
  | n + 1 => if P n = true then (n : Int) else lstB P n
theorem cnt_le (P : Nat → Bool) : ∀ n, cnt P n ≤ n
  | 0 => Nat.le_refl _
  | n + 1 => by
    have := cnt_le P n
    unfold cnt
    split <;> omega
theorem fstB_rng (P : Nat → Bool) : ∀ n, -1 ≤ fstB P n ∧ fstB P n ≤ n
  | 0 => by unfold fstB; omega
  | n + 1 => by
    have := fstB_rng P n
    unfold fstB
    split
    · split <;> omega
    · omega
theorem fstB_0 (P : Nat → Bool) : ∀ n, cnt P n = 0 → fstB P n = -1
  | 0, _ => rfl
  | n + 1, h => by
    unfold cnt at h
    unfold fstB
    rw [if_pos (by omega)]
    split
    · rename_i g; rw [if_pos g] at h; omega
    · rfl
theorem ModR_e {σ' σ : St2} {r : Nat} {K : Int32} {C E Y : Int} {nm : Nat → Int} (h : ModR σ r K C E Y nm) (e5 : offE σ' σ) : ModR σ' r K C E Y nm := by
  unfold ModR
  rw [e5.2 28 (by omega) (by omega) (by omega) (by omega), e5.2 29 (by omega) (by omega) (by omega) (by omega), e5.2 30 (by omega) (by omega) (by omega) (by omega), e5.2 31 (by omega) (by omega) (by omega) (by omega), e5.2 32 (by omega) (by omega) (by omega) (by omega)]
  exact h
theorem mt_e {σ' σ : St2} (ht : ∀ n, n < 12 → σ 10 n = iI (mtab n)) (e5 : offE σ' σ) : ∀ n, n < 12 → σ' 10 n = iI (mtab n) := by
  rw [e5.2 10 (by omega) (by omega) (by omega) (by omega)]
  exact ht
theorem lets_loop {N : Nat} (hN : 12002 ≤ N) {σS : St2} {K : Int32} {C E Y : Int} {nm : Nat → Int} (ho : okR C E Y nm) {a b f : Int} {r : Nat} (hr : r ≤ 8) {P : Nat → Bool} (hP : ∀ t, t ≤ 60 → (P t = true ↔ LetP K C E Y nm a b f t)) : ∀ (m t n : Nat) (σM : St2 × (Nat → Int64)), t + m = 61 → m < n → SkyI σS σM.1 a b f → ModR σM.1 r K C E Y nm → (∀ n, n < 12 → σM.1 10 n = iI (mtab n)) → ∃ σ' : St2, f_X8_lets_14 N n σM (iI r) (iI (cnt P t : Nat)) (iI (t : Nat)) = some (iI (cnt P 61 : Nat), (σ', σM.2)) ∧ SkyI σS σ' a b f ∧ offE σ' σM.1 := by
  intro m
  induction m with
  | zero =>
    intro t n σM hm hn h hR ht
    cases n with
    | zero => exact absurd hn (Nat.not_lt_zero _)
    | succ n =>
      have e : t = 61 := by omega
      subst e
      rw [f_X8_lets_14, if_pos (show (60 : Int32) < iI ((61 : Nat) : Int) by decide)]
      exact ⟨σM.1, rfl, h, offE_rf _⟩
  | succ m IH =>
    intro t n σM hm hn h hR ht
    cases n with
    | zero => exact absurd hn (Nat.not_lt_zero _)
    | succ n =>
      obtain ⟨B, σ1, e1, e2, e3, e4⟩ := isLet_eq hN ho hr h hR ht (s := t) (by omega)
      rw [f_X8_lets_14, if_neg (show ¬ (60 : Int32) < iI t by rw [show (60 : Int32) = iI 60 from rfl, iI_lt (by omega) (by omega) (by omega) (by omega)]; omega), e1, Option.bind_some]
      unfold f_X8_lets_32
      dsimp only
      rw [nx]
      obtain ⟨σ', g1, g2, g3⟩ := IH (t + 1) n (σ1, σM.2) (by omega) (by omega) e2 (ModR_e hR e3) (mt_e ht e3)
      have e5 : (B = true) ↔ (P t = true) := e4.trans (hP t (by omega)).symm
      rw [cnt] at g1
      by_cases c : P t = true
      · rw [if_pos c] at g1
        rw [e5.mpr c, if_neg bI_t, nx]
        exact ⟨σ', g1, g2, offE_tr g3 e3⟩
      · rw [if_neg c] at g1
        rw [Bool.eq_false_iff.mpr (fun g => c (e5.mp g)), if_pos bI_f]
        exact ⟨σ', g1, g2, offE_tr g3 e3⟩
def RecM (σM : St2) (c : Nat) (L : Nat → Nat → Prop) (a b f : Int) : Prop := c ≤ 8 ∧ σM 0 26 = iI (c : Nat) ∧ (∀ n, n < 12 → σM 10 n = iI (mtab n)) ∧ ∀ j, j < c → ∃ K C E Y nm, ModR σM j K C E Y nm ∧ okR C E Y nm ∧ ∀ t, t ≤ 60 → (L j t ↔ LetP K C E Y nm a b f t)
theorem RecM_e {σ' σ : St2} {c : Nat} {L : Nat → Nat → Prop} {a b f : Int} (h : RecM σ c L a b f) (e : offE σ' σ) : RecM σ' c L a b f := by
  obtain ⟨h1, h2, h3, h4⟩ := h
  refine ⟨h1, by rw [e.1 26 (by omega) (by omega) (by omega) (by omega) (by omega)]; exact h2, mt_e h3 e, ?_⟩
  intro j hj
  obtain ⟨K, C, E, Y, nm, q1, q2, q3⟩ := h4 j hj
  exact ⟨K, C, E, Y, nm, ModR_e q1 e, q2, q3⟩
theorem s23_loop {N : Nat} (hN : 12002 ≤ N) {σS : St2} {a b f : Int} {c : Nat} {L : Nat → Nat → Prop} {t : Nat} (ht : t ≤ 60) {K10 : (St2 × (Nat → Int64)) → Int32 → Int32 → Int32 → Int32 → Int32 → Option (Int32 × (St2 × (Nat → Int64)))} (y1 y2 y3 y4 : Int32) : ∀ (m i n : Nat) (B : Bool) (σM : St2 × (Nat → Int64)), i + m = c → m < n → SkyI σS σM.1 a b f → RecM σM.1 c L a b f → ∃ (B' : Bool) (σ' : St2), f_X8_slow_23 N K10 n σM y1 y2 y3 y4 (iI (t : Nat)) (bI B) (iI (i : Nat)) = f_X8_slow_53 N K10 (σ', σM.2) y1 y2 y3 y4 (iI (t : Nat)) (bI B') ∧ SkyI σS σ' a b f ∧ offE σ' σM.1 ∧ (B' = true ↔ B = true ∧ ∀ j, i ≤ j → j < c → L j t) := by
  intro m
  induction m with
  | zero =>
    intro i n B σM hm hn h hR
    cases n with
    | zero => exact absurd hn (Nat.not_lt_zero _)
    | succ n =>
      have h8 := hR.1
      rw [f_X8_slow_23, hR.2.1, if_pos (by rw [iI_le (by omega) (by omega) (by omega) (by omega)]; omega)]
      exact ⟨B, σM.1, rfl, h, offE_rf _, fun g => ⟨g, fun j j1 j2 => by omega⟩, fun g => g.1⟩
  | succ m IH =>
    intro i n B σM hm hn h hR
    cases n with
    | zero => exact absurd hn (Nat.not_lt_zero _)
    | succ n =>
      have h8 := hR.1
      rw [f_X8_slow_23, hR.2.1, if_neg (by rw [iI_le (by omega) (by omega) (by omega) (by omega)]; omega)]
      cases B with
      | false =>
        rw [if_pos bI_f]
        exact ⟨false, σM.1, rfl, h, offE_rf _, fun g => absurd g (by decide), fun g => g.1⟩
      | true =>
        rw [if_neg bI_t]
        obtain ⟨K, C, E, Y, nm, q1, q2, q3⟩ := hR.2.2.2 i (by omega)
        obtain ⟨B1, σ1, e1, e2, e3, e4⟩ := isLet_eq hN q2 (r := i) (by omega) h q1 hR.2.2.1 ht
        rw [e1, Option.bind_some, nx]
        obtain ⟨B', σ', g1, g2, g3, g4⟩ := IH (i + 1) n B1 (σ1, σM.2) (by omega) (by omega) e2 (RecM_e hR e3)
        refine ⟨B', σ', g1, g2, offE_tr g3 e3, ?_⟩
        rw [g4, e4, ← q3 t ht]
        constructor
        · rintro ⟨k1, k2⟩
          refine ⟨rfl, fun j j1 j2 => ?_⟩
          by_cases e : j = i
          · rw [e]; exact k1
          · exact k2 j (by omega) j2
        · rintro ⟨-, k2⟩
          exact ⟨k2 i (by omega) (by omega), fun j j1 j2 => k2 j (by omega) j2⟩
def slowAns (P : Nat → Bool) (y1 : Int32) : Int32 := if cnt P 61 = 0 then -1 else if y1 = 0 then iI (fstB P 61) else if y1 = 1 then iI (lstB P 61) else if y1 = 2 then iI (cnt P 61 : Nat) else -1
theorem slow_loop {N : Nat} (hN : 12002 ≤ N) {σS : St2} {a b f : Int} {c : Nat} {L : Nat → Nat → Prop} {P : Nat → Bool} (hP : ∀ t, t ≤ 60 → (P t = true ↔ ∀ j, j < c → L j t)) (y1 : Int32) : ∀ (m t n : Nat) (σM : St2 × (Nat → Int64)), t + m = 61 → m < n → SkyI σS σM.1 a b f → RecM σM.1 c L a b f → ∃ σ' : St2, f_X8_slow_10 N n σM y1 (iI (fstB P t)) (iI (lstB P t)) (iI (cnt P t : Nat)) (iI (t : Nat)) = some (slowAns P y1, (σ', σM.2)) ∧ SkyI σS σ' a b f ∧ offE σ' σM.1 := by
  intro m
  induction m with
  | zero =>
    intro t n σM hm hn h hR
    cases n with
    | zero => exact absurd hn (Nat.not_lt_zero _)
    | succ n =>
      have e : t = 61 := by omega
      subst e
      have hc := cnt_le P 61
      rw [f_X8_slow_10, if_pos (show (60 : Int32) < iI ((61 : Nat) : Int) by decide)]
      refine ⟨σM.1, ?_, h, offE_rf _⟩
      unfold slowAns
      by_cases c0 : cnt P 61 = 0
      · rw [if_pos (show iI (cnt P 61 : Nat) = 0 from (iI_z (by omega) (by omega)).mpr (by omega)), if_pos c0]
      · rw [if_neg (fun g => c0 (by have := (iI_z (v := (cnt P 61 : Nat)) (by omega) (by omega)).mp g; omega)), if_neg c0]
        by_cases d0 : y1 = 0
        · rw [if_pos d0, if_pos d0]
        · rw [if_neg d0, if_neg d0]
          by_cases d1 : y1 = 1
          · rw [if_pos d1, if_pos d1]
          · rw [if_neg d1, if_neg d1]
            by_cases d2 : y1 = 2
            · rw [if_pos d2, if_pos d2]
            · rw [if_neg d2, if_neg d2]
  | succ m IH =>
    intro t n σM hm hn h hR
    cases n with
    | zero => exact absurd hn (Nat.not_lt_zero _)
    | succ n =>
      have h8 := hR.1
      have hc := cnt_le P t
      obtain ⟨B, σ1, e1, e2, e3, e4⟩ := s23_loop hN (t := t) (by omega) (K10 := f_X8_slow_10 N n) y1 (iI (fstB P t)) (iI (lstB P t)) (iI (cnt P t : Nat)) c 0 N true σM (by omega) (by omega) h hR
      have e5 : (B = true) ↔ (P t = true) := by
        rw [e4, hP t (by omega)]
        exact ⟨fun g j hj => g.2 j (Nat.zero_le _) hj, fun g => ⟨rfl, fun j _ hj => g j hj⟩⟩
      rw [f_X8_slow_10, if_neg (show ¬ (60 : Int32) < iI t by rw [show (60 : Int32) = iI 60 from rfl, iI_lt (by omega) (by omega) (by omega) (by omega)]; omega), show f_X8_slow_23 N (f_X8_slow_10 N n) N σM y1 (iI (fstB P t)) (iI (lstB P t)) (iI (cnt P t : Nat)) (iI (t : Nat)) 1 0 = _ from e1]
      obtain ⟨σ', g1, g2, g3⟩ := IH (t + 1) n (σ1, σM.2) (by omega) (by omega) e2 (RecM_e hR e3)
      rw [cnt, fstB, lstB] at g1
      unfold f_X8_slow_53 f_X8_slow_69 f_X8_slow_75
      rw [nx]
      refine ⟨σ', ?_, g2, offE_tr g3 e3⟩
      rw [← g1]
      by_cases c : P t = true
      · rw [e5.mpr c, if_neg bI_t, if_pos c, if_pos c, if_pos c, nx]
        by_cases c0 : cnt P t = 0
        · rw [if_pos (show iI (cnt P t : Nat) = 0 from (iI_z (by omega) (by omega)).mpr (by omega)), if_pos c0]
        · rw [if_neg (fun g => c0 (by have := (iI_z (v := (cnt P t : Nat)) (by omega) (by omega)).mp g; omega)), if_neg c0]
      · rw [Bool.eq_false_iff.mpr (fun g => c (e5.mp g)), if_pos bI_f, if_neg c, if_neg c, if_neg c]
        by_cases c0 : cnt P t = 0
        · rw [if_pos c0, fstB_0 P t c0]; rfl
        · rw [if_neg c0]; rfl
