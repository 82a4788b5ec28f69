/-! slips, isLet: the loops -/
theorem iI_m1 {v : Int} (h1 : -1 ≤ v) (h2 : v < 2147483648) : iI v = -1 ↔ v = -1 := by rw [show (-1 : Int32) = iI (-1) from rfl, iI_eq (by omega) (by omega) (by omega) (by omega)]
theorem iI_z {v : Int} (h1 : -2147483648 ≤ v) (h2 : v < 2147483648) : iI v = 0 ↔ v = 0 := by rw [show (0 : Int32) = iI 0 from rfl, iI_eq (by omega) (by omega) (by omega) (by omega)]
theorem slips_zero {N : Nat} (hN : 12002 ≤ N) {K : Int32} {C E Y : Int} {nm : Nat → Int} (ho : okR C E Y nm) {a b f : Int} {c r : Nat} (hr : r ≤ 8) (hc : (EL a f 12001).length = c) (hl : c ≤ 1799) {s : Int} (hs0 : 0 ≤ s ∧ s ≤ 60) : ∀ (m i n' : Nat) (σM : St2 × (Nat → Int64)), i + m = c → m < n' → MdI σM.1 r K C E Y nm a b f → ∃ σ', f_X8_slips_16 N n' σM (iI r) (iI s) (iI 0) (iI i) = some (iI 0, (σ', σM.2)) ∧ offD σ' σM.1 := by
  intro m
  induction m with
  | zero =>
    intro n0 n' σM hm hn' hM
    cases n' with
    | zero => exact absurd hn' (Nat.not_lt_zero _)
    | succ n' =>
      rw [f_X8_slips_16, hM.2.1.2.2.2.2.1, hc, if_pos (by rw [iI_le (by omega) (by omega) (by omega) (by omega)]; omega)]
      exact ⟨σM.1, rfl, offD_rf _⟩
  | succ m IH =>
    intro i n' σM hm hn' hM
    cases n' with
    | zero => exact absurd hn' (Nat.not_lt_zero _)
    | succ n' =>
      obtain ⟨σ1, e1, e2⟩ := differs_eq hN hr hM.1 ho hM.2.2 hc hl hM.2.1 (i := i) (by omega) hs0
      have hlt : ¬ iI (c : Nat) ≤ iI i := by rw [iI_le (by omega) (by omega) (by omega) (by omega)]; omega
      have hd := dfI_rng K C E Y nm a b f ((EL a f 12001).getD i 0 : Nat) s
      obtain ⟨σ', g2, g3⟩ := IH (i + 1) n' (σ1, σM.2) (by omega) (by omega) (MdI_off hM e2)
      rw [f_X8_slips_16, hM.2.1.2.2.2.2.1, hc, if_neg hlt, e1, Option.bind_some]
      unfold f_X8_slips_55
      dsimp only
      generalize dfI K C E Y nm a b f ((EL a f 12001).getD i 0 : Nat) s = d at hd
      rw [nx]
      by_cases c1 : d = -1
      · rw [if_pos ((iI_m1 (by omega) (by omega)).mpr c1)]
        exact ⟨σ', g2, offD_tr g3 e2⟩
      · rw [if_neg (fun g => c1 ((iI_m1 (by omega) (by omega)).mp g)), if_neg (show ¬ iI 0 = -1 by decide), if_pos (show iI 0 ≤ iI d by rw [iI_le (by omega) (by omega) (by omega) (by omega)]; omega)]
        exact ⟨σ', g2, offD_tr g3 e2⟩
theorem slips_loop {N : Nat} (hN : 12002 ≤ N) {σA : St2 × Int64} {σS : St2} {K : Int32} {C E Y : Int} {nm : Nat → Int} (hA : AccI σA.1 K C E Y nm) (ho : okR C E Y nm) {a b f : Int} {c r : Nat} (hr : r ≤ 8) (hc : (EL a f 12001).length = c) (hl : c ≤ 1799) (hS : SkyOf σS a b f) {s : Int} (hs0 : 0 ≤ s ∧ s ≤ 60) : ∀ (m i n n' : Nat) (q : Int) (σM : St2 × (Nat → Int64)), i + m = c → 0 ≤ q → q ≤ 5 → m < n → m < n' → MdI σM.1 r K C E Y nm a b f → ∃ v σ', f_X0_leastSlips_11 N n σA σS (iI s) (iI (c : Nat)) (iI q) (iI i) = some (v, σS) ∧ f_X8_slips_16 N n' σM (iI r) (iI s) (iI (if q = 5 then -1 else q)) (iI i) = some (v, (σ', σM.2)) ∧ offD σ' σM.1 := by
  intro m
  induction m with
  | zero =>
    intro n0 n n' q σM hm hq hq2 hn hn' hM
    cases n with
    | zero => exact absurd hn (Nat.not_lt_zero _)
    | succ n =>
      cases n' with
      | zero => exact absurd hn' (Nat.not_lt_zero _)
      | succ n' =>
        have e : n0 = c := by omega
        subst e
        rw [f_X0_leastSlips_11, f_X8_slips_16, hM.2.1.2.2.2.2.1, hc, if_pos (show iI (n0 : Nat) ≤ iI (n0 : Nat) by rw [iI_le (by omega) (by omega) (by omega) (by omega)]; omega), if_pos (show iI (n0 : Nat) ≤ iI (n0 : Nat) by rw [iI_le (by omega) (by omega) (by omega) (by omega)]; omega)]
        refine ⟨_, σM.1, ?_, rfl, offD_rf _⟩
        by_cases c5 : q = 5
        · rw [if_pos (show iI q = 5 by rw [c5]; rfl), if_pos c5]; rfl
        · rw [if_neg (show ¬ iI q = 5 by rw [show (5 : Int32) = iI 5 from rfl, iI_eq (by omega) (by omega) (by omega) (by omega)]; exact c5), if_neg c5]
  | succ m IH =>
    intro i n n' q σM hm hq hq2 hn hn' hM
    by_cases cq : q ≤ 0
    · have e : q = 0 := by omega
      subst e
      cases n with
      | zero => exact absurd hn (Nat.not_lt_zero _)
      | succ n =>
        obtain ⟨σ', g2, g3⟩ := slips_zero hN ho hr hc hl hs0 (m + 1) i n' σM hm hn' hM
        rw [if_neg (show ¬ (0 : Int) = 5 by omega), g2, f_X0_leastSlips_11, if_neg (show ¬ iI (c : Nat) ≤ iI i by rw [iI_le (by omega) (by omega) (by omega) (by omega)]; omega), if_pos (show iI 0 ≤ 0 by decide), if_neg (show ¬ iI 0 = 5 by decide)]
        exact ⟨_, σ', rfl, rfl, g3⟩
    · cases n with
      | zero => exact absurd hn (Nat.not_lt_zero _)
      | succ n =>
        cases n' with
        | zero => exact absurd hn' (Nat.not_lt_zero _)
        | succ n' =>
          obtain ⟨σ1, e1, e2⟩ := differs_eq hN hr hM.1 ho hM.2.2 hc hl hM.2.1 (i := i) (by omega) hs0
          have hlt : ¬ iI (c : Nat) ≤ iI i := by rw [iI_le (by omega) (by omega) (by omega) (by omega)]; omega
          have hA4 := EL_at a f 12001 i (by omega)
          have hM1 := MdI_off hM e2
          rw [f_X0_leastSlips_11, f_X8_slips_16, hM.2.1.2.2.2.2.1, hc, if_neg hlt, if_neg hlt, if_neg (show ¬ iI q ≤ 0 by rw [show (0 : Int32) = iI 0 from rfl, iI_le (by omega) (by omega) (by omega) (by omega)]; exact cq), hoursSeen_eq hA ho hc hl hS (by omega) hs0, Option.bind_some, e1, Option.bind_some]
          unfold f_X0_leastSlips_55 f_X8_slips_52 f_X8_slips_55 dfI
          dsimp only
          generalize (EL a f 12001).getD i 0 = k at hA4
          have hr' := hs_rng (K := K) (a := a) (b := b) (f := f) (k := k) ho.2.1 (by omega) hs0
          generalize hs K E a b f k s = h at hr'
          rw [nx]
          by_cases c1 : h = -1
          · rw [if_pos ((iI_m1 (by omega) (by omega)).mpr c1), if_pos c1, if_pos (show iI (-1) = -1 from rfl)]
            obtain ⟨v, σ', g1, g2, g3⟩ := IH (i + 1) n n' q (σ1, σM.2) (by omega) hq hq2 (by omega) (by omega) hM1
            exact ⟨v, σ', g1, g2, offD_tr g3 e2⟩
          · obtain ⟨o, e, k1, k2, k3, k4⟩ := slipsAt_eq hN hA ho (c := q - 1) (h := h) (by omega) (by omega) (by omega)
            have ht := tot_rng C Y nm h
            rw [if_neg (fun g => c1 ((iI_m1 (by omega) (by omega)).mp g)), if_neg c1, show (1 : Int32) = iI 1 from rfl, iI_sub, e, Option.bind_some, min_eq (by omega) (by omega) (by omega) (by omega)]
            have hmin : (if o < q then o else q) = (if tot C Y nm h < q then tot C Y nm h else q) := by
              by_cases d1 : tot C Y nm h < q
              · rw [k3 (by omega)]
              · have := k4 (by omega)
                rw [if_neg (by omega), if_neg d1]
            rw [hmin]
            generalize tot C Y nm h = d at ht
            by_cases c5 : d = 5
            · rw [if_neg (by omega), if_pos c5, if_pos (show iI (-1) = -iI 1 from rfl)]
              obtain ⟨v, σ', g1, g2, g3⟩ := IH (i + 1) n n' q (σ1, σM.2) (by omega) hq hq2 (by omega) (by omega) hM1
              exact ⟨v, σ', g1, g2, offD_tr g3 e2⟩
            · rw [if_neg c5, if_neg (show ¬ iI d = -iI 1 from fun g => by have := (iI_m1 (v := d) (by omega) (by omega)).mp g; omega)]
              by_cases cq5 : q = 5
              · rw [if_pos (by omega), if_pos cq5, if_pos (show iI (-1) = -iI 1 from rfl)]
                obtain ⟨v, σ', g1, g2, g3⟩ := IH (i + 1) n n' d (σ1, σM.2) (by omega) (by omega) (by omega) (by omega) (by omega) hM1
                rw [if_neg c5] at g2
                exact ⟨v, σ', g1, g2, offD_tr g3 e2⟩
              · rw [if_neg cq5, if_neg (show ¬ iI q = -iI 1 from fun g => by have := (iI_m1 (v := q) (by omega) (by omega)).mp g; omega)]
                by_cases cd : d < q
                · rw [if_pos cd, if_neg (show ¬ iI q ≤ iI d by rw [iI_le (by omega) (by omega) (by omega) (by omega)]; omega)]
                  obtain ⟨v, σ', g1, g2, g3⟩ := IH (i + 1) n n' d (σ1, σM.2) (by omega) (by omega) (by omega) (by omega) (by omega) hM1
                  rw [if_neg c5] at g2
                  exact ⟨v, σ', g1, g2, offD_tr g3 e2⟩
                · rw [if_neg cd, if_pos (show iI q ≤ iI d by rw [iI_le (by omega) (by omega) (by omega) (by omega)]; omega)]
                  obtain ⟨v, σ', g1, g2, g3⟩ := IH (i + 1) n n' q (σ1, σM.2) (by omega) hq hq2 (by omega) (by omega) hM1
                  rw [if_neg cq5] at g2
                  exact ⟨v, σ', g1, g2, offD_tr g3 e2⟩
