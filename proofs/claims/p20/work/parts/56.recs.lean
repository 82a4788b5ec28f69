/-! records: means, meant, slips agree -/
def RecI (σV : St2 × (Nat → Nat)) (σQ : Nat → (St2 × Int64)) (σM : St2) (c : Nat) : Prop := c ≤ 8 ∧ σV.1 0 1 = iI (c : Nat) ∧ σM 0 26 = iI (c : Nat) ∧ (∀ i, i < 8 → σV.2 i < 8) ∧ (∀ i j, i < 8 → j < 8 → σV.2 i = σV.2 j → i = j) ∧ ∀ i, i < c → ∃ K C E Y nm, AccI (σQ (σV.2 i)).1 K C E Y nm ∧ ModR σM i K C E Y nm ∧ okR C E Y nm
def offE (σ' σ : St2) : Prop := (∀ i, i ≠ 3 → i ≠ 4 → i ≠ 10 → i ≠ 11 → i ≠ 12 → σ' 0 i = σ 0 i) ∧ ∀ j, j ≠ 0 → j ≠ 6 → j ≠ 7 → j ≠ 8 → σ' j = σ j
theorem offE_rf (σ : St2) : offE σ σ := ⟨fun _ _ _ _ _ _ => rfl, fun _ _ _ _ _ => rfl⟩
theorem offE_tr {x y z : St2} (h1 : offE x y) (h2 : offE y z) : offE x z := ⟨fun i a b c d e => (h1.1 i a b c d e).trans (h2.1 i a b c d e), fun j a b c d => (h1.2 j a b c d).trans (h2.2 j a b c d)⟩
theorem offE_d {x y : St2} (h : offD x y) : offE x y := ⟨fun i _ _ c d e => h.1 i c d e, fun j a _ _ _ => h.2 j a⟩
theorem offE_n {x y : St2} (h : off x y) : offE x y := ⟨fun i a b _ _ _ => h.1 i a b, fun j a b c d => h.2 j a b c d⟩
theorem SkyI_d {σS σ' σ : St2} {a b f : Int} (h : SkyI σS σ a b f) (e : offD σ' σ) : SkyI σS σ' a b f := by
  obtain ⟨ha, hb, hf, h0, h1, h2, g0, g1, g2, h4, g4, hw⟩ := h
  refine ⟨ha, hb, hf, h0, h1, h2, ?_, ?_, ?_, h4, ?_, ?_⟩
  · rw [e.1 0 (by omega) (by omega) (by omega)]; exact g0
  · rw [e.1 1 (by omega) (by omega) (by omega)]; exact g1
  · rw [e.1 2 (by omega) (by omega) (by omega)]; exact g2
  · rcases g4 with g | g
    · exact Or.inl (by rw [e.1 3 (by omega) (by omega) (by omega)]; exact g)
    · exact Or.inr (ModOf_off g e)
  · rw [e.2 9 (by omega)]; exact hw
theorem SkyI_l {σS σS' σ : St2} {a b f : Int} (h : SkyI σS σ a b f) (e : SkyOf σS' a b f) : SkyI σS' σ a b f := by
  obtain ⟨ha, hb, hf, h0, h1, h2, g0, g1, g2, h4, g4, hw⟩ := h
  exact ⟨ha, hb, hf, e.1, e.2.1, e.2.2.1, g0, g1, g2, Or.inr e, g4, hw⟩
theorem find_rec {σV : St2 × (Nat → Nat)} {σQ : Nat → (St2 × Int64)} {σM : St2 × (Nat → Int64)} {c : Nat} (h : RecI σV σQ σM.1 c) (x1 : Int32) : (f_X1_find σV x1 = some none ∧ bI (f_X8_isRecord σM x1) = 0) ∨ ∃ i : Nat, i < c ∧ x1 = iI (i : Nat) ∧ f_X1_find σV x1 = some (some (σV.2 i)) ∧ ¬ bI (f_X8_isRecord σM x1) = 0 := by
  obtain ⟨hc, h1, h2, -⟩ := h
  have hx := iI_rng x1
  rw [iI_of x1]
  generalize x1.toInt = z at hx
  unfold f_X1_find f_X8_isRecord
  rw [h1, h2]
  by_cases c1 : z < 0
  · rw [if_pos (show iI z < 0 by rw [show (0 : Int32) = iI 0 from rfl, iI_lt (by omega) (by omega) (by omega) (by omega)]; exact c1), if_pos (show iI z < 0 by rw [show (0 : Int32) = iI 0 from rfl, iI_lt (by omega) (by omega) (by omega) (by omega)]; exact c1)]
    exact Or.inl ⟨rfl, bI_f⟩
  · rw [if_neg (show ¬ iI z < 0 by rw [show (0 : Int32) = iI 0 from rfl, iI_lt (by omega) (by omega) (by omega) (by omega)]; exact c1), if_neg (show ¬ iI z < 0 by rw [show (0 : Int32) = iI 0 from rfl, iI_lt (by omega) (by omega) (by omega) (by omega)]; exact c1)]
    by_cases c2 : (c : Int) ≤ z
    · rw [if_pos (show iI (c : Nat) ≤ iI z by rw [iI_le (by omega) (by omega) (by omega) (by omega)]; exact c2), if_pos (show iI (c : Nat) ≤ iI z by rw [iI_le (by omega) (by omega) (by omega) (by omega)]; exact c2)]
      exact Or.inl ⟨rfl, bI_f⟩
    · rw [if_neg (show ¬ iI (c : Nat) ≤ iI z by rw [iI_le (by omega) (by omega) (by omega) (by omega)]; exact c2), if_neg (show ¬ iI (c : Nat) ≤ iI z by rw [iI_le (by omega) (by omega) (by omega) (by omega)]; exact c2), if_neg (ix_no (by omega) (by omega) (by omega)), iI_clamp (by omega) (by omega)]
      exact Or.inr ⟨z.toNat, by omega, by rw [show ((z.toNat : Nat) : Int) = z by omega], rfl, bI_t⟩
theorem isSlow_t {x : Int32} (h : ¬ bI (f_X7_isSlow x) = 0) : 0 ≤ x.toInt ∧ x.toInt ≤ 60 := by
  unfold f_X7_isSlow at h
  by_cases h1 : x < 0
  · rw [if_pos h1] at h; exact absurd bI_f h
  · rw [if_neg h1] at h
    by_cases h2 : 60 < x
    · rw [if_pos h2] at h; exact absurd bI_f h
    · rw [Int32.lt_iff_toInt_lt] at h1 h2
      rw [show (0 : Int32) = iI 0 from rfl, iI_toInt (by omega) (by omega)] at h1
      rw [show (60 : Int32) = iI 60 from rfl, iI_toInt (by omega) (by omega)] at h2
      omega
theorem asked_eq {N : Nat} (hN : 12002 ≤ N) {σS : St2} {σV : St2 × (Nat → Nat)} {σQ : Nat → (St2 × Int64)} {σM : St2 × (Nat → Int64)} {a b f : Int} {c : Nat} (h : SkyI σS σM.1 a b f) (hR : RecI σV σQ σM.1 c) (ht : ∀ n, n < 12 → σM.1 10 n = iI (mtab n)) (x1 x2 : Int32) : (f_X8_isAsked N σM x1 x2 = some (false, σM) ∧ (f_X1_find σV x1 = some none ∨ ((∃ j, f_X1_find σV x1 = some (some j)) ∧ bI (f_X7_isSlow x2) = 0))) ∨ ∃ (i : Nat) (s : Int) (σ' : St2), i < c ∧ x1 = iI (i : Nat) ∧ x2 = iI s ∧ (0 ≤ s ∧ s ≤ 60) ∧ f_X8_isAsked N σM x1 x2 = some (true, (σ', σM.2)) ∧ ModOf σ' a b f ∧ off σ' σM.1 ∧ f_X1_find σV x1 = some (some (σV.2 i)) ∧ ¬ bI (f_X7_isSlow x2) = 0 ∧ ¬ 8 ≤ σV.2 i ∧ ∃ K C E Y nm, AccI (σQ (σV.2 i)).1 K C E Y nm ∧ okR C E Y nm ∧ MdI σ' i K C E Y nm a b f := by
  unfold f_X8_isAsked
  rw [show f_X8_isIn x2 0 60 = f_X7_isSlow x2 from rfl]
  rcases find_rec hR x1 with ⟨e1, e2⟩ | ⟨i, hi, e0, e1, e2⟩
  · rw [if_pos e2]
    exact Or.inl ⟨rfl, Or.inl e1⟩
  · rw [if_neg e2]
    by_cases c1 : bI (f_X7_isSlow x2) = 0
    · rw [if_pos c1]
      exact Or.inl ⟨rfl, Or.inr ⟨⟨_, e1⟩, c1⟩⟩
    · rw [if_neg c1]
      obtain ⟨ha, hb, hf, h0, h1, h2, g0, g1, g2, h4, g4, hw⟩ := h
      obtain ⟨σ', n1, n2, n3⟩ := notes_eq hN ha hb hf hw g0 g1 g2 g4
      rw [n1, Option.bind_some]
      obtain ⟨K, C, E, Y, nm, q1, q2, q3⟩ := hR.2.2.2.2.2 i hi
      have hc8 := hR.1
      have hv8 := hR.2.2.2.1 i (by omega)
      refine Or.inr ⟨i, x2.toInt, σ', hi, e0, iI_of x2, isSlow_t c1, rfl, n2, n3, e1, c1, by omega, K, C, E, Y, nm, q1, q3, ?_, n2, ?_⟩
      · unfold ModR
        rw [n3.2 28 (by omega) (by omega) (by omega) (by omega), n3.2 29 (by omega) (by omega) (by omega) (by omega), n3.2 30 (by omega) (by omega) (by omega) (by omega), n3.2 31 (by omega) (by omega) (by omega) (by omega), n3.2 32 (by omega) (by omega) (by omega) (by omega)]
        exact q2
      · rw [n3.2 10 (by omega) (by omega) (by omega) (by omega)]
        exact ht
theorem means_eq {N : Nat} (hN : 12002 ≤ N) {σS σT σR : St2} {σV : St2 × (Nat → Nat)} {σQ : Nat → (St2 × Int64)} {σD : St2} {ra : Value} {σM : St2 × (Nat → Int64)} {a b f : Int} {c : Nat} (h : SkyI σS σM.1 a b f) (hR : RecI σV σQ σM.1 c) (ht : ∀ n, n < 12 → σM.1 10 n = iI (mtab n)) (x1 x2 : Int32) : ∃ (o : Int32) (σS' σ' : St2), f_X7_means N σS σT σR σV σQ σD ra x1 x2 = some (o, σS') ∧ f_X8_means N σM x1 x2 = some (o, (σ', σM.2)) ∧ SkyI σS' σ' a b f ∧ offE σ' σM.1 ∧ σS' 0 3 = σS 0 3 := by
  unfold f_X7_means f_X8_means
  rcases asked_eq hN h hR ht x1 x2 with ⟨e1, e2⟩ | ⟨i, s, σ1, hi, rfl, rfl, hs0, e1, e2, e3, e4, e5, e6, K, C, E, Y, nm, q1, q2, q3⟩
  · rw [e1, Option.bind_some, if_pos bI_f]
    rcases e2 with e2 | ⟨⟨j, e2⟩, e3⟩
    · rw [e2, Option.bind_some]
      exact ⟨-1, σS, σM.1, rfl, rfl, h, offE_rf _, rfl⟩
    · rw [e2, Option.bind_some]
      unfold oc
      dsimp only
      rw [if_pos e3]
      exact ⟨-1, σS, σM.1, rfl, rfl, h, offE_rf _, rfl⟩
  · rw [e1, Option.bind_some, if_neg bI_t, e4, Option.bind_some]
    unfold oc
    dsimp only
    rw [if_neg e5, if_neg e6]
    have h' := off_sky h e2 e3
    obtain ⟨ha, hb, hf, h0, h1, h2, g0, g1, g2, h4, g4, hw⟩ := h
    obtain ⟨σL, l1, l2, l3⟩ := list_eq hN ha hb hf h0 h1 h2 h4
    have hl := EL_len (a := a) hf
    unfold f_X0_countMeant
    rw [l1, Option.bind_some]
    have hc8 := hR.1
    obtain ⟨v, σ2, k1, k2, k3⟩ := means_loop hN q1 q2 (r := i) (by omega) rfl hl l2 hs0 (EL a f 12001).length 0 N N 0 (σ1, σM.2) (by omega) (by omega) (by omega) q3
    dsimp only
    rw [show f_X8_means_16 N N (σ1, σM.2) (iI i) (iI s) 0 0 = _ from k2, show f_X0_countMeant_11 N N (σQ (σV.2 i)) σL (iI s) (iI ((EL a f 12001).length : Nat)) 0 0 = _ from k1, Option.bind_some]
    exact ⟨v, σL, σ2, rfl, rfl, SkyI_l (SkyI_d h' k3) l2, offE_tr (offE_d k3) (offE_n e3), l3⟩
theorem slips_eq {N : Nat} (hN : 12002 ≤ N) {σS σT σR : St2} {σV : St2 × (Nat → Nat)} {σQ : Nat → (St2 × Int64)} {σD : St2} {ra : Value} {σM : St2 × (Nat → Int64)} {a b f : Int} {c : Nat} (h : SkyI σS σM.1 a b f) (hR : RecI σV σQ σM.1 c) (ht : ∀ n, n < 12 → σM.1 10 n = iI (mtab n)) (x1 x2 : Int32) : ∃ (o : Int32) (σS' σ' : St2), f_X7_slips N σS σT σR σV σQ σD ra x1 x2 = some (o, σS') ∧ f_X8_slips N σM x1 x2 = some (o, (σ', σM.2)) ∧ SkyI σS' σ' a b f ∧ offE σ' σM.1 ∧ σS' 0 3 = σS 0 3 := by
  unfold f_X7_slips f_X8_slips
  rcases asked_eq hN h hR ht x1 x2 with ⟨e1, e2⟩ | ⟨i, s, σ1, hi, rfl, rfl, hs0, e1, e2, e3, e4, e5, e6, K, C, E, Y, nm, q1, q2, q3⟩
  · rw [e1, Option.bind_some, if_pos bI_f]
    rcases e2 with e2 | ⟨⟨j, e2⟩, e3⟩
    · rw [e2, Option.bind_some]
      exact ⟨-1, σS, σM.1, rfl, rfl, h, offE_rf _, rfl⟩
    · rw [e2, Option.bind_some]
      unfold oc
      dsimp only
      rw [if_pos e3]
      exact ⟨-1, σS, σM.1, rfl, rfl, h, offE_rf _, rfl⟩
  · rw [e1, Option.bind_some, if_neg bI_t, e4, Option.bind_some]
    unfold oc
    dsimp only
    rw [if_neg e5, if_neg e6]
    have h' := off_sky h e2 e3
    obtain ⟨ha, hb, hf, h0, h1, h2, g0, g1, g2, h4, g4, hw⟩ := h
    obtain ⟨σL, l1, l2, l3⟩ := list_eq hN ha hb hf h0 h1 h2 h4
    have hl := EL_len (a := a) hf
    unfold f_X0_leastSlips
    rw [l1, Option.bind_some]
    have hc8 := hR.1
    obtain ⟨v, σ2, k1, k2, k3⟩ := slips_loop hN q1 q2 (r := i) (by omega) rfl hl l2 hs0 (EL a f 12001).length 0 N N 5 (σ1, σM.2) (by omega) (by omega) (by omega) (by omega) (by omega) q3
    dsimp only
    rw [show f_X8_slips_16 N N (σ1, σM.2) (iI i) (iI s) (-1) 0 = _ from k2, show f_X0_leastSlips_11 N N (σQ (σV.2 i)) σL (iI s) (iI ((EL a f 12001).length : Nat)) 5 0 = _ from k1, Option.bind_some]
    exact ⟨v, σL, σ2, rfl, rfl, SkyI_l (SkyI_d h' k3) l2, offE_tr (offE_d k3) (offE_n e3), l3⟩
theorem meant_eq {N : Nat} (hN : 12002 ≤ N) {σS σT σR : St2} {σV : St2 × (Nat → Nat)} {σQ : Nat → (St2 × Int64)} {σD : St2} {ra : Value} {σM : St2 × (Nat → Int64)} {a b f : Int} {c : Nat} (h : SkyI σS σM.1 a b f) (hR : RecI σV σQ σM.1 c) (ht : ∀ n, n < 12 → σM.1 10 n = iI (mtab n)) (x1 x2 x3 : Int32) : ∃ (o : Int32) (σS' σ' : St2), f_X7_meant N σS σT σR σV σQ σD ra x1 x2 x3 = some (o, σS') ∧ f_X8_meant N σM x1 x2 x3 = some (o, (σ', σM.2)) ∧ SkyI σS' σ' a b f ∧ offE σ' σM.1 ∧ σS' 0 3 = σS 0 3 := by
  unfold f_X7_meant f_X8_meant
  rcases asked_eq hN h hR ht x1 x2 with ⟨e1, e2⟩ | ⟨i, s, σ1, hi, rfl, rfl, hs0, e1, e2, e3, e4, e5, e6, K, C, E, Y, nm, q1, q2, q3⟩
  · rw [e1, Option.bind_some, if_pos bI_f]
    rcases e2 with e2 | ⟨⟨j, e2⟩, e3⟩
    · rw [e2, Option.bind_some]
      exact ⟨-1, σS, σM.1, rfl, rfl, h, offE_rf _, rfl⟩
    · rw [e2, Option.bind_some]
      unfold oc
      dsimp only
      rw [if_pos e3]
      exact ⟨-1, σS, σM.1, rfl, rfl, h, offE_rf _, rfl⟩
  · rw [e1, Option.bind_some, if_neg bI_t, e4, Option.bind_some]
    unfold oc
    dsimp only
    rw [if_neg e5, if_neg e6]
    have h' := off_sky h e2 e3
    have hx := iI_rng x3
    rw [iI_of x3]
    generalize x3.toInt = X at hx
    by_cases cX : 0 ≤ X
    · rw [if_pos (show 0 ≤ iI X by rw [show (0 : Int32) = iI 0 from rfl, iI_le (by omega) (by omega) (by omega) (by omega)]; exact cX), if_pos (show 0 ≤ iI X by rw [show (0 : Int32) = iI 0 from rfl, iI_le (by omega) (by omega) (by omega) (by omega)]; exact cX)]
      obtain ⟨ha, hb, hf, h0, h1, h2, g0, g1, g2, h4, g4, hw⟩ := h
      obtain ⟨σL, l1, l2, l3⟩ := list_eq hN ha hb hf h0 h1 h2 h4
      have hl := EL_len (a := a) hf
      unfold f_X0_findMeant
      rw [l1, Option.bind_some]
      have hc8 := hR.1
      obtain ⟨v, σ2, k1, k2, k3⟩ := meant_loop hN q1 q2 (r := i) (by omega) rfl hl l2 (X := X) (by omega) hs0 (EL a f 12001).length 0 N N 0 (σ1, σM.2) (by omega) (by omega) (by omega) (by omega) (by omega) q3
      rw [show X - ((0 : Nat) : Int) = X by omega] at k1
      dsimp only
      rw [show f_X8_meant_21 N N (σ1, σM.2) (iI i) (iI s) (iI X) 0 0 = _ from k2, show f_X0_findMeant_12 N N (σQ (σV.2 i)) σL (iI s) (iI ((EL a f 12001).length : Nat)) (iI X) 0 = _ from k1, Option.bind_some]
      exact ⟨v, σL, σ2, rfl, rfl, SkyI_l (SkyI_d h' k3) l2, offE_tr (offE_d k3) (offE_n e3), l3⟩
    · rw [if_neg (show ¬ 0 ≤ iI X by rw [show (0 : Int32) = iI 0 from rfl, iI_le (by omega) (by omega) (by omega) (by omega)]; exact cX), if_neg (show ¬ 0 ≤ iI X by rw [show (0 : Int32) = iI 0 from rfl, iI_le (by omega) (by omega) (by omega) (by omega)]; exact cX)]
      exact ⟨-1, σS, σ1, rfl, rfl, h', offE_n e3, rfl⟩
