theorem isYear_t {x : Int32} (h1 : ¬ x < 0) (h2 : ¬ 600 < x) : 0 ≤ x.toInt ∧ x.toInt ≤ 600 := by
  rw [Int32.lt_iff_toInt_lt] at h1 h2
  rw [show (0 : Int32) = iI 0 from rfl, iI_toInt (by omega) (by omega)] at h1
  rw [show (600 : Int32) = iI 600 from rfl, iI_toInt (by omega) (by omega)] at h2
  omega
theorem reign_eq {N : Nat} (hN : 12002 ≤ N) {σS σT σR : St2} {σV : St2 × (Nat → Nat)} {σQ : Nat → (St2 × Int64)} {σD : St2} {ra : Value} {σM : St2 × (Nat → Int64)} {l c : Nat} (hT : TapeI σT σM.1 l) (hR : ReignI σR σM c) (x1 x2 : Int32) : ∃ (o : Int32) (σT' σR' σ' : St2) (g' : Nat → Int64) (c' : Nat), f_X7_reign N σS σT σR σV σQ σD ra x1 x2 = some (o, σT', σR') ∧ f_X8_reign N σM x1 x2 = some (o, (σ', g')) ∧ TapeI σT' σ' 0 ∧ ReignI σR' (σ', g') c' ∧ (∀ i, i ≠ 14 → i ≠ 22 → σ' 0 i = σM.1 0 i) ∧ (∀ j, j ≠ 0 → j ≠ 25 → j ≠ 26 → σ' j = σM.1 j) := by
  have T0 : TapeI (f_X6_clear σT) (up2 σM.1 0 14 0) 0 := ⟨by omega, rfl, rfl, fun i hi => absurd hi (Nat.not_lt_zero _)⟩
  have R1 : ReignI σR (up2 σM.1 0 14 0, σM.2) c := hR
  have F0 : ∀ i, i ≠ 14 → i ≠ 22 → up2 σM.1 0 14 0 0 i = σM.1 0 i := by
    intro i h _
    show upd (σM.1 0) 14 _ i = _
    unfold upd
    rw [if_neg h]
  have F1 : ∀ j, j ≠ 0 → j ≠ 25 → j ≠ 26 → up2 σM.1 0 14 0 j = σM.1 j := by
    intro j h _ _
    unfold up2
    rw [if_neg h]
  have fin : f_X7_reign N σS σT σR σV σQ σD ra x1 x2 = some (-1, f_X6_clear σT, σR) → f_X8_reign N σM x1 x2 = some (-1, (up2 σM.1 0 14 0, σM.2)) → ∃ (o : Int32) (σT' σR' σ' : St2) (g' : Nat → Int64) (c' : Nat), f_X7_reign N σS σT σR σV σQ σD ra x1 x2 = some (o, σT', σR') ∧ f_X8_reign N σM x1 x2 = some (o, (σ', g')) ∧ TapeI σT' σ' 0 ∧ ReignI σR' (σ', g') c' ∧ (∀ i, i ≠ 14 → i ≠ 22 → σ' 0 i = σM.1 0 i) ∧ (∀ j, j ≠ 0 → j ≠ 25 → j ≠ 26 → σ' j = σM.1 j) := fun a b => ⟨-1, _, _, _, _, c, a, b, T0, R1, F0, F1⟩
  have hb := nameB hN hT.1 hT.2.1
  have hcg : lets (σM.1 14) 0 l [] = lets (σT 1) 0 l [] := lets_cg l 0 [] (fun i _ hi => ((hT.2.2.2 i (by omega)).1).symm)
  have hl := hT.1
  have h14 := hT.2.2.1
  have h22 := hR.2.2.1
  have hc12 := hR.1
  have hin : ¬ x2 < 0 → ¬ 600 < x2 → ¬ bI (f_X8_isIn x2 0 600) = 0 := by
    intro a b
    unfold f_X8_isIn
    rw [if_neg a, if_neg b]
    exact bI_t
  have hin2 : x2 < 0 ∨ 600 < x2 → bI (f_X8_isIn x2 0 600) = 0 := by
    intro a
    unfold f_X8_isIn
    by_cases b : x2 < 0
    · rw [if_pos b]; exact bI_f
    · rw [if_neg b, if_pos (a.resolve_left b)]; exact bI_f
  have no : ∀ P : Prop, True := fun _ => trivial
  by_cases a : 1 ≤ l ∧ l ≤ 6
  · rw [if_pos a] at hb
    have n0 : ¬ iI (l : Int) ≤ 0 := by rw [show (0 : Int32) = iI 0 from rfl, iI_le (by omega) (by omega) (by omega) (by omega)]; omega
    have n7 : ¬ 7 ≤ iI (l : Int) := by rw [show (7 : Int32) = iI 7 from rfl, iI_le (by omega) (by omega) (by omega) (by omega)]; omega
    cases hM : lets (σT 1) 0 l [] with
    | none =>
      rw [hM] at hb hcg
      refine fin ?_ ?_
      · unfold f_X7_reign
        rw [hb, Option.elim_none, Option.bind_some, begin_m1]
        rfl
      · unfold f_X8_reign
        rw [h14, if_neg n0, if_neg n7]
        have r : f_X8_reign_54 N (up2 σM.1 0 14 0, σM.2) x1 x2 (iI l) 1 = some (-1, (up2 σM.1 0 14 0, σM.2)) := by
          unfold f_X8_reign_54
          rw [show (0 : Int32) = iI ((0 : Nat) : Int) from rfl, r59_loop N (σM := (up2 σM.1 0 14 (iI ((0 : Nat) : Int)), σM.2)) (e := l) hl x1 x2 l N 0 [] (by omega) (by omega)]
          show f_X8_reign_88 N _ x1 x2 (iI l) (bI (lets (σM.1 14) 0 l []).isSome) = _
          rw [hcg]
          rfl
        rw [r, r53_no hN, ite_self, ite_self, ite_self]
    | some M =>
      rw [hM] at hb hcg
      have ok := lets_ok l 0 [] M (fun v hv => absurd hv (by simp)) hM
      have sM : short M := ⟨ok.1, by rw [ok.2]; show 1 ≤ 0 + l; omega, by rw [ok.2]; show 0 + l ≤ 6; omega⟩
      have eb := en32_b sM
      have nm : ¬ iI (en 32 M : Nat) = -1 := by rw [show (-1 : Int32) = iI (-1) from rfl, iI_eq (by omega) (by omega) (by omega) (by omega)]; omega
      unfold f_X7_reign f_X4_begin f_X8_reign at fin ⊢
      rw [hb, Option.elim, Option.bind_some, if_neg nm, h14, if_neg n0, if_neg n7, show f_X8_isIn x1 0 2 = f_X2_isCalendar x1 from rfl, b27_no, r53_no hN] at fin ⊢
      by_cases c1 : bI (f_X2_isCalendar x1) = 0
      · rw [if_pos c1, if_pos c1] at fin ⊢
        exact fin rfl rfl
      · rw [if_neg c1, if_neg c1] at fin ⊢
        by_cases c2 : x2 < 0
        · rw [if_pos c2, if_pos (hin2 (Or.inl c2))] at fin ⊢
          exact fin rfl rfl
        · rw [if_neg c2] at fin ⊢
          by_cases c3 : 600 < x2
          · rw [if_pos c3, if_pos (hin2 (Or.inr c3))] at fin ⊢
            exact fin rfl rfl
          · rw [if_neg c3, if_neg (hin c2 c3), h22] at fin ⊢
            unfold f_X4_begin_28 at fin ⊢
            rw [if_neg (show ¬ (1 : Int32) = 0 by decide), hR.2.1] at fin ⊢
            by_cases c4 : c = 12
            · have q : 12 ≤ iI (c : Int) := by rw [c4]; decide
              rw [if_pos q, if_pos q] at fin ⊢
              exact fin rfl rfl
            · have q : ¬ 12 ≤ iI (c : Int) := by rw [show (12 : Int32) = iI 12 from rfl, iI_le (by omega) (by omega) (by omega) (by omega)]; omega
              rw [if_neg q, if_neg q] at fin ⊢
              obtain ⟨o, o1, o2, -⟩ := rf_loop N R1 sM c N N 0 (by omega) (by omega) (by omega)
              have p1 : f_X8_packed N (up2 σM.1 0 14 0, σM.2) 0 (iI l) = some (lI (en 27 M : Nat)) := pkd_loop N (σM := (up2 σM.1 0 14 0, σM.2)) hl l N 0 [] M (by omega) (by omega) hcg
              have r : f_X8_reign_54 N (up2 σM.1 0 14 0, σM.2) x1 x2 (iI l) 1 = f_X8_reign_88 N (up2 σM.1 0 14 0, σM.2) x1 x2 (iI l) 1 := by
                unfold f_X8_reign_54
                have z := r59_loop N (σM := (up2 σM.1 0 14 0, σM.2)) (e := l) hl x1 x2 l N 0 [] (by omega) (by omega)
                have z2 : lets (((up2 σM.1 0 14 0, σM.2) : St2 × (Nat → Int64)).1 14) 0 l [] = some M := hcg
                rw [z2] at z
                exact z
              have o1' : f_X4_find N σR (iI (en 32 M : Nat)) = some o := o1
              have o2' : f_X8_reignOf N (up2 σM.1 0 14 0, σM.2) (lI (en 27 M : Nat)) = some o := o2
              have g22 : ((up2 σM.1 0 14 0, σM.2) : St2 × (Nat → Int64)).1 0 22 = iI (c : Int) := h22
              have ix : ¬ (iI (c : Int) < 0 ∨ 12 ≤ Int32.toNatClampNeg (iI (c : Int))) := ix_no (n := 12) (by omega) (by omega) (by omega)
              have ecl : Int32.toNatClampNeg (iI (c : Int)) = c := by rw [iI_clamp (by omega) (by omega), Int.toNat_natCast]
              unfold f_X8_reign_88 at r
              rw [if_neg (show ¬ (1 : Int32) = 0 by decide), p1, Option.bind_some, o2', Option.bind_some] at r
              rw [r, o1', Option.bind_some] at fin ⊢
              by_cases c5 : o = -1
              · rw [if_pos c5, if_pos c5, g22, Option.bind_some, if_neg ix, if_neg ix, if_neg ix, if_neg ix, if_neg ix, if_neg ix, ecl]
                unfold lt
                rw [nx]
                refine ⟨_, _, _, _, _, c + 1, rfl, rfl, ⟨by omega, rfl, rfl, fun i hi => absurd hi (Nat.not_lt_zero _)⟩, reign_add R1 (by omega) sM (by have := isCal_t c1; omega) (isYear_t c2 c3), ?_, ?_⟩
                · intro i i1 i2
                  show upd (upd (σM.1 0) 14 _) 22 _ i = _
                  unfold upd
                  rw [if_neg i2, if_neg i1]
                · intro j j0 j1 j2
                  unfold up2
                  rw [if_neg j0, if_neg j2, if_neg j1]
                  exact if_neg j0
              · rw [if_neg c5, if_neg c5] at fin ⊢
                exact fin rfl rfl
  · rw [if_neg a] at hb
    refine fin ?_ ?_
    · unfold f_X7_reign
      rw [hb, Option.bind_some, begin_m1]
      rfl
    · unfold f_X8_reign
      rw [h14, r53_no hN]
      by_cases e : l = 0
      · rw [if_pos (by rw [show (0 : Int32) = iI 0 from rfl, iI_le (by omega) (by omega) (by omega) (by omega)]; omega)]
      · rw [if_pos (c := 7 ≤ iI (l : Int)) (by rw [show (7 : Int32) = iI 7 from rfl, iI_le (by omega) (by omega) (by omega) (by omega)]; omega), ite_self]
