/-! hours seen; differs -/
def zI (a b E k s : Int) : Int := tmI a b k + E + s * (tmI a b k / 525600) * (tmI a b k / 525600) / 10000
theorem zI_mid {a b k s : Int} (hk : 0 ≤ k ∧ k ≤ 12000) (hs : 0 ≤ s ∧ s ≤ 60) : 0 ≤ s * (tmI a b k / 525600) ∧ s * (tmI a b k / 525600) ≤ 30000 ∧ 0 ≤ s * (tmI a b k / 525600) * (tmI a b k / 525600) ∧ s * (tmI a b k / 525600) * (tmI a b k / 525600) ≤ 15000000 := by
  have ht := tmI_rng (a := a) (b := b) hk
  have h1 : 0 ≤ tmI a b k / 525600 := by omega
  have h2 : tmI a b k / 525600 ≤ 485 := by omega
  generalize tmI a b k / 525600 = q at h1 h2
  have h3 : 0 ≤ s * q := Int.mul_nonneg hs.1 h1
  have h4 : s * q ≤ 60 * 485 := Int.mul_le_mul hs.2 h2 h1 (by omega)
  have h5 : 0 ≤ s * q * q := Int.mul_nonneg h3 h1
  have h6 : s * q * q ≤ 60 * 485 * 485 := Int.mul_le_mul h4 h2 h1 (by omega)
  omega
theorem zI_rng {a b E k s : Int} (hE : -720 ≤ E ∧ E ≤ 720) (hk : 0 ≤ k ∧ k ≤ 12000) (hs : 0 ≤ s ∧ s ≤ 60) : -720 ≤ zI a b E k s ∧ zI a b E k s ≤ 255160000 := by
  have ht := tmI_rng (a := a) (b := b) hk
  have hm := zI_mid (a := a) (b := b) hk hs
  unfold zI
  generalize s * (tmI a b k / 525600) * (tmI a b k / 525600) = w at hm
  omega
theorem minSeen_eq {a b E k s : Int} (hE : -720 ≤ E ∧ E ≤ 720) (hk : 0 ≤ k ∧ k ≤ 12000) (hs : 0 ≤ s ∧ s ≤ 60) : f_X5_minuteSeen (iI (tmI a b k)) (iI E) (iI s) = iI (zI a b E k s) := by
  have ht := tmI_rng (a := a) (b := b) hk
  have hm := zI_mid (a := a) (b := b) hk hs
  unfold f_X5_minuteSeen zI
  rw [show (525600 : Int32) = iI 525600 from rfl, show (10000 : Int32) = iI 10000 from rfl, iI_div (a := tmI a b k) (by omega) (by omega) (by omega) (by omega), iI_mul, iI_mul, iI_div (by omega) (by omega) (by omega) (by omega), iI_add, iI_add]
theorem seenAt_eq {a b E k s : Int} (hE : -720 ≤ E ∧ E ≤ 720) (hk : 0 ≤ k ∧ k ≤ 12000) (hs : 0 ≤ s ∧ s ≤ 60) : f_X8_seenAt (iI (tmI a b k)) (iI E) (iI s) = iI (zI a b E k s) := minSeen_eq hE hk hs
theorem hoursAt_eq {σA : St2 × Int64} {a b E k s : Int} (h : σA.1 0 2 = iI E) (hE : -720 ≤ E ∧ E ≤ 720) (hk : 0 ≤ k ∧ k ≤ 12000) (hs : 0 ≤ s ∧ s ≤ 60) : f_X0_hoursAt σA (iI (tmI a b k)) (iI s) = some (iI (zI a b E k s / 60)) := by
  have hz := zI_rng (a := a) (b := b) hE hk hs
  unfold f_X0_hoursAt
  rw [h, minSeen_eq hE hk hs, show (60 : Int32) = iI 60 from rfl, floorDiv_eq (by omega) (by omega) (by omega) (by omega), Option.bind_some]
def vis (kd h : Int) : Bool := decide (0 ≤ h ∧ (4 ≤ kd ↔ (h % 24 < 6 ∨ 17 < h % 24)))
theorem isSeenAt_eq {kd h : Int} (hh : -1000 ≤ h ∧ h ≤ 9600000) : f_X0_isSeenAt (iI h) (bI (decide (kd < 4))) = vis kd h := by
  have e27 : f_X0_isSeenAt_27 (bI (decide (kd < 4))) = decide (4 ≤ kd) := by
    unfold f_X0_isSeenAt_27 f_X0_isSeenAt_28
    by_cases c : kd < 4
    · rw [decide_eq_true c, if_neg (by decide), decide_eq_false (by omega)]
    · rw [decide_eq_false c, if_pos (by decide), decide_eq_true (by omega)]
  have e28 : f_X0_isSeenAt_28 (bI (decide (kd < 4))) 1 = decide (¬ 4 ≤ kd) := by
    unfold f_X0_isSeenAt_28
    by_cases c : kd < 4
    · rw [decide_eq_true c, if_pos (by decide), decide_eq_true (by omega)]
    · rw [decide_eq_false c, if_neg (by decide), decide_eq_false (by omega)]
  unfold f_X0_isSeenAt vis
  rw [e27, e28]
  by_cases c0 : 0 ≤ h
  · rw [if_pos (by rw [show (0 : Int32) = iI 0 from rfl, iI_le (by omega) (by omega) (by omega) (by omega)]; exact c0), show (24 : Int32) = iI 24 from rfl, iI_rem (by omega) (by omega) (by omega) (by omega), show (6 : Int32) = iI 6 from rfl, show (17 : Int32) = iI 17 from rfl]
    by_cases c1 : h % 24 < 6
    · rw [if_pos (by rw [iI_lt (by omega) (by omega) (by omega) (by omega)]; exact c1)]
      exact decide_eq_decide.mpr ⟨fun g => ⟨c0, fun _ => Or.inl c1, fun _ => g⟩, fun g => g.2.mpr (Or.inl c1)⟩
    · rw [if_neg (by rw [iI_lt (by omega) (by omega) (by omega) (by omega)]; exact c1)]
      by_cases c2 : 17 < h % 24
      · rw [if_pos (by rw [iI_lt (by omega) (by omega) (by omega) (by omega)]; exact c2)]
        exact decide_eq_decide.mpr ⟨fun g => ⟨c0, fun _ => Or.inr c2, fun _ => g⟩, fun g => g.2.mpr (Or.inr c2)⟩
      · rw [if_neg (by rw [iI_lt (by omega) (by omega) (by omega) (by omega)]; exact c2)]
        exact decide_eq_decide.mpr ⟨fun g => ⟨c0, fun e => absurd e g, fun e => e.elim (fun q => absurd q c1) (fun q => absurd q c2)⟩, fun g e => (g.2.mp e).elim c1 c2⟩
  · rw [if_neg (by rw [show (0 : Int32) = iI 0 from rfl, iI_le (by omega) (by omega) (by omega) (by omega)]; exact c0), decide_eq_false (fun g => c0 g.1)]
def kbit (K : Int32) (kd : Int) : Prop := (K >>> (iI kd &&& 31)) &&& 1 = 0
def hs (K : Int32) (E a b f k s : Int) : Int := if (K >>> (iI (knd a f k) &&& 31)) &&& 1 = 0 then -1 else if vis (knd a f k) (zI a b E k s / 60) = true then zI a b E k s / 60 else -1
def dfI (K : Int32) (C E Y : Int) (nm : Nat → Int) (a b f k s : Int) : Int := if hs K E a b f k s = -1 then -1 else if tot C Y nm (hs K E a b f k s) = 5 then -1 else tot C Y nm (hs K E a b f k s)
theorem vis_0 {kd h : Int} (e : vis kd h = true) : 0 ≤ h := (of_decide_eq_true e).1
theorem knd_odd {a f k : Int} (h : knd a f k ≠ 0) : decide (k % 2 = 0) = decide (knd a f k < 4) := by
  unfold knd at h ⊢
  by_cases c : k % 2 = 1
  · rw [if_pos c] at h ⊢
    rw [decide_eq_false (by omega)]
    split at h
    · rename_i g; rw [if_pos g]; rfl
    · rename_i g; rw [if_neg g]
      split at h
      · rename_i g2; rw [if_pos g2]; rfl
      · exact absurd rfl h
  · rw [if_neg c] at h ⊢
    rw [decide_eq_true (by omega)]
    repeat' split
    all_goals rfl
theorem list_at {σS : St2} {a b f : Int} {c : Nat} (hc : (EL a f 12001).length = c) (hl : c ≤ 1799) (hS : SkyOf σS a b f) {i : Nat} (hi : i < c) : f_X5_kindAt σS (iI i) = some (iI (knd a f ((EL a f 12001).getD i 0 : Nat))) ∧ f_X5_timeAt σS (iI i) = some (iI (tmI a b ((EL a f 12001).getD i 0 : Nat))) ∧ f_X5_moonAt σS (iI i) = some (iI ((EL a f 12001).getD i 0 : Nat)) ∧ f_X5_isOfSunAt σS (iI i) = some (decide (knd a f ((EL a f 12001).getD i 0 : Nat) < 4)) := by
  have hL : f_X5_isListed σS (iI i) = true := by
    unfold f_X5_isListed
    rw [hS.2.2.2.2.1, hc, if_neg (by rw [show (0 : Int32) = iI 0 from rfl, iI_lt (by omega) (by omega) (by omega) (by omega)]; omega), if_neg (by rw [iI_le (by omega) (by omega) (by omega) (by omega)]; omega)]
  have hE := hS.2.2.2.2.2 i (by omega)
  have hA := EL_at a f 12001 i (by omega)
  have hm : f_X5_moonAt σS (iI i) = some (iI ((EL a f 12001).getD i 0 : Nat)) := by
    unfold f_X5_moonAt
    rw [hL, if_neg bI_t, if_neg (ix_no (by omega) (by omega) (by omega)), iI_clamp (by omega) (by omega), show ((i : Int)).toNat = i from rfl, hE.1]
  generalize (EL a f 12001).getD i 0 = k at hE hA hm
  refine ⟨?_, ?_, hm, ?_⟩
  · unfold f_X5_kindAt
    rw [hL, if_neg bI_t, if_neg (ix_no (by omega) (by omega) (by omega)), iI_clamp (by omega) (by omega), show ((i : Int)).toNat = i from rfl, hE.2.1]
  · unfold f_X5_timeAt
    rw [hL, if_neg bI_t, if_neg (ix_no (by omega) (by omega) (by omega)), iI_clamp (by omega) (by omega), show ((i : Int)).toNat = i from rfl, hE.2.2]
  · unfold f_X5_isOfSunAt
    rw [hm, Option.bind_some, show (2 : Int32) = iI 2 from rfl, iI_rem (by omega) (by omega) (by omega) (by omega), ← knd_odd hA.2]
    by_cases e : (k : Int) % 2 = 0
    · rw [e, if_pos (show iI 0 = 0 from rfl)]; rfl
    · rw [if_neg (by rw [show (0 : Int32) = iI 0 from rfl, iI_eq (by omega) (by omega) (by omega) (by omega)]; exact e), decide_eq_false e]
theorem hoursSeen_eq {σA : St2 × Int64} {σS : St2} {K : Int32} {C E Y : Int} {nm : Nat → Int} (hA : AccI σA.1 K C E Y nm) (ho : okR C E Y nm) {a b f : Int} {c : Nat} (hc : (EL a f 12001).length = c) (hl : c ≤ 1799) (hS : SkyOf σS a b f) {i : Nat} (hi : i < c) {s : Int} (hs0 : 0 ≤ s ∧ s ≤ 60) : f_X0_hoursSeen σA σS (iI i) (iI s) = some (iI (hs K E a b f ((EL a f 12001).getD i 0 : Nat) s)) := by
  have h4 := list_at hc hl hS hi
  have hA4 := EL_at a f 12001 i (by omega)
  generalize (EL a f 12001).getD i 0 = k at h4 hA4
  have hz := zI_rng (a := a) (b := b) (E := E) (k := k) ho.2.1 (by omega) hs0
  unfold f_X0_hoursSeen f_X0_isOfKind hs
  rw [h4.1, Option.bind_some, hA.1]
  by_cases c1 : (K >>> (iI (knd a f k) &&& 31)) &&& 1 = 0
  · rw [if_pos c1, Option.bind_some, if_pos bI_f, if_pos c1]; rfl
  · rw [if_neg c1, Option.bind_some, if_neg bI_t, if_neg c1, h4.2.1, Option.bind_some, hoursAt_eq hA.2.2.1 ho.2.1 (by omega) hs0, Option.bind_some, h4.2.2.2, Option.bind_some, isSeenAt_eq (by omega)]
    by_cases c2 : vis (knd a f k) (zI a b E k s / 60) = true
    · rw [if_neg (by rw [c2]; exact bI_t), if_pos c2]
    · rw [if_pos (by rw [Bool.eq_false_iff.mpr c2]; exact bI_f), if_neg c2]; rfl
