/-! differs of the reference -/
theorem d195 {N : Nat} {K120 : (St2 × (Nat → Int64)) → Int32 → Int32 → Int32 → Int32 → Option (Int32 × (St2 × (Nat → Int64)))} {σ : St2 × (Nat → Int64)} {y1 y5 y8 : Int32} {s n v : Int} (hn : 0 ≤ n ∧ n ≤ 999) (hv : -10000 ≤ v ∧ v ≤ 10000) : f_X8_differs_195 N K120 σ y1 y5 (iI s) y8 (iI n) (iI v) = if 0 ≤ v ∧ v ≤ 999 then K120 σ y1 y5 (iI (s + slp n v)) (y8 + 1) else some (-1, σ) := by
  unfold f_X8_differs_195 f_X8_differs_224 slp f_X8_isIn
  rw [if_neg (show ¬ n = -1 by omega)]
  by_cases c : n = v
  · rw [if_pos (by rw [c]), if_pos (by omega), if_pos c, Int.add_zero]
  · rw [if_neg (show ¬ iI n = iI v by rw [iI_eq (by omega) (by omega) (by omega) (by omega)]; exact c), if_neg c, show (0 : Int32) = iI 0 from rfl, show (999 : Int32) = iI 999 from rfl, show (1 : Int32) = iI 1 from rfl, iI_add]
    by_cases d : v < 0
    · rw [if_pos (show iI v < iI 0 by rw [iI_lt (by omega) (by omega) (by omega) (by omega)]; exact d), if_pos (show bI false = iI 0 from rfl), if_neg (by omega)]
    · rw [if_neg (show ¬ iI v < iI 0 by rw [iI_lt (by omega) (by omega) (by omega) (by omega)]; exact d)]
      by_cases e : 999 < v
      · rw [if_pos (show iI 999 < iI v by rw [iI_lt (by omega) (by omega) (by omega) (by omega)]; exact e), if_pos (show bI false = iI 0 from rfl), if_neg (by omega)]
      · rw [if_neg (show ¬ iI 999 < iI v by rw [iI_lt (by omega) (by omega) (by omega) (by omega)]; exact e), if_neg (show ¬ bI true = iI 0 from bI_t), if_pos (by omega)]
theorem d120 {N m : Nat} {σ : St2 × (Nat → Int64)} {r p : Nat} (hr : r ≤ 8) (hp : p < 4) {y5 y8 : Int32} (hy : y8 = iI (p : Nat)) {s n v : Int} (hn : -1 ≤ n ∧ n ≤ 999) (hv : -10000 ≤ v ∧ v ≤ 10000) (h : σ.1 29 (4 * r + p) = iI n) (hval : (p = 0 ∧ σ.1 0 10 - σ.1 30 r = iI v) ∨ (p = 1 ∧ σ.1 0 11 = iI v) ∨ (p = 2 ∧ σ.1 0 12 = iI v) ∨ (p = 3 ∧ y5 = iI v)) : f_X8_differs_120 N (m + 1) σ (iI r) y5 (iI s) y8 = if n = -1 ∨ (0 ≤ v ∧ v ≤ 999) then f_X8_differs_120 N m σ (iI r) y5 (iI (s + slp n v)) (iI ((p + 1 : Nat) : Int)) else some (-1, σ) := by
  subst hy
  rw [f_X8_differs_120]
  have hi : (4 : Int32) * iI r + iI p = iI ((4 * r + p : Nat) : Int) := by
    rw [show (4 : Int32) = iI 4 from rfl, iI_mul, iI_add]
    congr 1
  rw [hi, if_neg (show ¬ (4 : Int32) ≤ iI p by rw [show (4 : Int32) = iI 4 from rfl, iI_le (by omega) (by omega) (by omega) (by omega)]; omega), if_neg (ix_no (by omega) (by omega) (by omega)), iI_clamp (by omega) (by omega), show ((4 * r + p : Nat) : Int).toNat = 4 * r + p from rfl, h]
  unfold lt
  dsimp only
  by_cases c : n = -1
  · rw [if_pos (show iI n = -1 by rw [c]; rfl), if_pos (Or.inl c), slp_m1 c, Int.add_zero]
    unfold f_X8_differs_224
    rw [nx]
  · rw [if_neg (show ¬ iI n = -1 by rw [show (-1 : Int32) = iI (-1) from rfl, iI_eq (by omega) (by omega) (by omega) (by omega)]; exact c)]
    have hfin : ∀ t, t = iI v → f_X8_differs_195 N (f_X8_differs_120 N m) σ (iI r) y5 (iI s) (iI p) (iI n) t = if n = -1 ∨ (0 ≤ v ∧ v ≤ 999) then f_X8_differs_120 N m σ (iI r) y5 (iI (s + slp n v)) (iI ((p + 1 : Nat) : Int)) else some (-1, σ) := by
      intro t ht
      rw [ht, d195 (by omega) hv, nx]
      by_cases d : 0 ≤ v ∧ v ≤ 999
      · rw [if_pos d, if_pos (Or.inr d)]
      · rw [if_neg d, if_neg (fun g => g.elim c d)]
    rcases hval with ⟨rfl, e⟩ | ⟨rfl, e⟩ | ⟨rfl, e⟩ | ⟨rfl, e⟩
    · rw [if_pos (show iI ((0 : Nat) : Int) = 0 from rfl), if_neg (ix_no (by omega) (by omega) (by omega)), iI_clamp (by omega) (by omega), show ((r : Int)).toNat = r from rfl]
      exact hfin _ e
    · rw [if_neg (show ¬ iI ((1 : Nat) : Int) = 0 by decide), if_pos (show iI ((1 : Nat) : Int) = 1 from rfl)]
      exact hfin _ e
    · rw [if_neg (show ¬ iI ((2 : Nat) : Int) = 0 by decide), if_neg (show ¬ iI ((2 : Nat) : Int) = 1 by decide), if_pos (show iI ((2 : Nat) : Int) = 2 from rfl)]
      exact hfin _ e
    · rw [if_neg (show ¬ iI ((3 : Nat) : Int) = 0 by decide), if_neg (show ¬ iI ((3 : Nat) : Int) = 1 by decide), if_neg (show ¬ iI ((3 : Nat) : Int) = 2 by decide)]
      exact hfin _ e
theorem d120_all {N m : Nat} {σ : St2 × (Nat → Int64)} {r : Nat} (hr : r ≤ 8) {K : Int32} {C E Y : Int} {nm : Nat → Int} (hM : ModR σ.1 r K C E Y nm) (ho : okR C E Y nm) {h : Int} (hh : 0 ≤ h) (hh2 : h ≤ 9600000) (h10 : σ.1 0 10 = iI (yrOf C (h / 24))) (h11 : σ.1 0 11 = iI (dMo C (h / 24))) (h12 : σ.1 0 12 = iI (dDa C (h / 24))) : f_X8_differs_120 N (m + 5) σ (iI r) (iI (h % 24)) 0 0 = some (iI (if tot C Y nm h = 5 then -1 else tot C Y nm h), σ) := by
  have hy := yrOf_rng ho.1 (d := h / 24) (by omega) (by omega)
  have hd := dMD_rng ho.1 (d := h / 24) (by omega) (by omega)
  have hY := ho.2.2.1
  have hs0 := slp_rng (nm 0) (yrOf C (h / 24) - Y)
  have hs1 := slp_rng (nm 1) (dMo C (h / 24))
  have hs2 := slp_rng (nm 2) (dDa C (h / 24))
  have hs3 := slp_rng (nm 3) (h % 24)
  show f_X8_differs_120 N (m + 4 + 1) σ (iI r) (iI (h % 24)) (iI 0) 0 = _
  rw [d120 (y8 := 0) (p := 0) hr (by omega) rfl (ho.2.2.2 0 (by omega)) (v := yrOf C (h / 24) - Y) (by omega) (hM.2.2.2.2 0 (by omega)) (Or.inl ⟨rfl, by rw [h10, hM.2.2.2.1, iI_sub]⟩)]
  unfold tot
  by_cases c : nm 0 = -1 ∨ (0 ≤ yrOf C (h / 24) - Y ∧ yrOf C (h / 24) - Y ≤ 999)
  · rw [if_pos c, if_pos c]
    rw [d120 (m := m + 3) (p := 1) hr (by omega) rfl (ho.2.2.2 1 (by omega)) (v := dMo C (h / 24)) (by omega) (hM.2.2.2.2 1 (by omega)) (Or.inr (Or.inl ⟨rfl, h11⟩)), if_pos (Or.inr (by omega)), d120 (m := m + 2) (p := 2) hr (by omega) rfl (ho.2.2.2 2 (by omega)) (v := dDa C (h / 24)) (by omega) (hM.2.2.2.2 2 (by omega)) (Or.inr (Or.inr (Or.inl ⟨rfl, h12⟩))), if_pos (Or.inr (by omega)), d120 (m := m + 1) (p := 3) hr (by omega) rfl (ho.2.2.2 3 (by omega)) (v := h % 24) (by omega) (hM.2.2.2.2 3 (by omega)) (Or.inr (Or.inr (Or.inr ⟨rfl, rfl⟩))), if_pos (Or.inr (by omega)), f_X8_differs_120, if_pos (show (4 : Int32) ≤ iI ((3 + 1 : Nat) : Int) by decide)]
    unfold dsum
    rw [if_neg (by omega)]
    congr 3
    omega
  · rw [if_neg c, if_neg c, if_pos rfl]
    rfl
theorem differs93 {N : Nat} (hN : 12002 ≤ N) {σ : St2 × (Nat → Int64)} {r : Nat} (hr : r ≤ 8) {K : Int32} {C E Y : Int} {nm : Nat → Int} (hM : ModR σ.1 r K C E Y nm) (ho : okR C E Y nm) (ht : ∀ n, n < 12 → σ.1 10 n = iI (mtab n)) {z : Int} (hz : 0 ≤ z) (hz2 : z ≤ 300000000) {y5 : Int32} (hy5 : y5 = iI (z / 60 % 24)) {t : Int32} : ∃ σ' : St2, f_X8_differs_93 N σ (iI r) (iI z) y5 t t = some (iI (if tot C Y nm (z / 60) = 5 then -1 else tot C Y nm (z / 60)), (σ', σ.2)) ∧ offD σ' σ.1 := by
  subst hy5
  have e24 : z / 60 / 24 = z / 1440 := by omega
  obtain ⟨σ', e1, e2, e3, e4, e5⟩ := dates_eq hN ho.1 (d := z / 1440) (by omega) (by omega) ht
  unfold f_X8_differs_93
  rw [if_pos rfl, if_neg (ix_no (by omega) (by omega) (by omega)), iI_clamp (by omega) (by omega), show ((r : Int)).toNat = r from rfl, hM.2.1, show (1440 : Int32) = iI 1440 from rfl, iI_div (by omega) (by omega) (by omega) (by omega), e1, Option.bind_some]
  obtain ⟨m, hm⟩ : ∃ m, N = m + 5 := ⟨N - 5, by omega⟩
  refine ⟨σ', ?_, e5⟩
  have hM' : ModR σ' r K C E Y nm := by
    unfold ModR
    rw [e5.2 28 (by omega), e5.2 31 (by omega), e5.2 32 (by omega), e5.2 30 (by omega), e5.2 29 (by omega)]
    exact hM
  have hf := d120_all (N := N) (m := m) (σ := (σ', σ.2)) hr hM' ho (h := z / 60) (by omega) (by omega) (by rw [e24]; exact e2) (by rw [e24]; exact e3) (by rw [e24]; exact e4)
  rw [← hm] at hf
  exact hf
theorem differs_eq {N : Nat} (hN : 12002 ≤ N) {σ : St2 × (Nat → Int64)} {r : Nat} (hr : r ≤ 8) {K : Int32} {C E Y : Int} {nm : Nat → Int} (hM : ModR σ.1 r K C E Y nm) (ho : okR C E Y nm) (ht : ∀ n, n < 12 → σ.1 10 n = iI (mtab n)) {a b f : Int} {c : Nat} (hc : (EL a f 12001).length = c) (hl : c ≤ 1799) (hS : ModOf σ.1 a b f) {i : Nat} (hi : i < c) {s : Int} (hs0 : 0 ≤ s ∧ s ≤ 60) : ∃ σ' : St2, f_X8_differs N σ (iI r) (iI i) (iI s) = some (iI (dfI K C E Y nm a b f ((EL a f 12001).getD i 0 : Nat) s), (σ', σ.2)) ∧ offD σ' σ.1 := by
  have hE := hS.2.2.2.2.2 i (by omega)
  have hA := EL_at a f 12001 i (by omega)
  generalize (EL a f 12001).getD i 0 = k at hE hA
  have hz := zI_rng (a := a) (b := b) (E := E) (k := k) ho.2.1 (by omega) hs0
  have hkr := knd_rng a f k
  unfold f_X8_differs dfI hs
  rw [if_neg (ix_no (a := (r : Int)) (by omega) (by omega) (by omega)), if_neg (ix_no (a := (i : Int)) (by omega) (by omega) (by omega)), iI_clamp (a := (r : Int)) (by omega) (by omega), iI_clamp (a := (i : Int)) (by omega) (by omega), show ((r : Int)).toNat = r from rfl, show ((i : Int)).toNat = i from rfl, hM.1, hE.2.1]
  by_cases c1 : (K >>> (iI (knd a f k) &&& 31)) &&& 1 = 0
  · rw [if_pos c1, if_pos c1, if_pos rfl]
    exact ⟨σ.1, rfl, offD_rf _⟩
  · have gi : ¬ (iI i < 0 ∨ 12001 ≤ i) := by
      rw [show (0 : Int32) = iI 0 from rfl, iI_lt (by omega) (by omega) (by omega) (by omega)]
      omega
    have gr : ¬ (iI r < 0 ∨ 9 ≤ r) := by
      rw [show (0 : Int32) = iI 0 from rfl, iI_lt (by omega) (by omega) (by omega) (by omega)]
      omega
    rw [if_neg c1, if_neg c1, if_neg gi, if_neg gr, hE.2.2, hM.2.2.1, seenAt_eq ho.2.1 (by omega) hs0]
    unfold lt
    dsimp only
    generalize zI a b E k s = z at hz
    by_cases c0 : 0 ≤ z
    · rw [if_pos (show (0 : Int32) ≤ iI z by rw [show (0 : Int32) = iI 0 from rfl, iI_le (by omega) (by omega) (by omega) (by omega)]; exact c0), show (1440 : Int32) = iI 1440 from rfl, iI_rem (by omega) (by omega) (by omega) (by omega), show (60 : Int32) = iI 60 from rfl, iI_div (by omega) (by omega) (by omega) (by omega), show z % 1440 / 60 = z / 60 % 24 by omega]
      have hno : ∀ t t', t ≠ t' → vis (knd a f k) (z / 60) ≠ true → ∃ σ' : St2, f_X8_differs_93 N σ (iI r) (iI z) (iI (z / 60 % 24)) t t' = some (iI (if (if vis (knd a f k) (z / 60) = true then z / 60 else -1) = -1 then -1 else if tot C Y nm (if vis (knd a f k) (z / 60) = true then z / 60 else -1) = 5 then -1 else tot C Y nm (if vis (knd a f k) (z / 60) = true then z / 60 else -1)), (σ', σ.2)) ∧ offD σ' σ.1 := by
        intro t t' h1 h2
        unfold f_X8_differs_93
        rw [if_neg (fun e => h1 e.symm), if_neg h2, if_pos rfl]
        exact ⟨σ.1, rfl, offD_rf _⟩
      have hye : ∀ t, vis (knd a f k) (z / 60) = true → ∃ σ' : St2, f_X8_differs_93 N σ (iI r) (iI z) (iI (z / 60 % 24)) t t = some (iI (if (if vis (knd a f k) (z / 60) = true then z / 60 else -1) = -1 then -1 else if tot C Y nm (if vis (knd a f k) (z / 60) = true then z / 60 else -1) = 5 then -1 else tot C Y nm (if vis (knd a f k) (z / 60) = true then z / 60 else -1)), (σ', σ.2)) ∧ offD σ' σ.1 := by
        intro t h2
        rw [if_pos h2, if_neg (by omega)]
        exact differs93 hN hr hM ho ht c0 (by omega) rfl
      have h74 : ∀ t, t = (if z / 60 % 24 < 6 ∨ 17 < z / 60 % 24 then (0 : Int32) else 1) → ∃ σ' : St2, f_X8_differs_74 N σ (iI r) (iI i) (iI z) (iI (z / 60 % 24)) t = some (iI (if (if vis (knd a f k) (z / 60) = true then z / 60 else -1) = -1 then -1 else if tot C Y nm (if vis (knd a f k) (z / 60) = true then z / 60 else -1) = 5 then -1 else tot C Y nm (if vis (knd a f k) (z / 60) = true then z / 60 else -1)), (σ', σ.2)) ∧ offD σ' σ.1 := by
        intro t ht
        unfold f_X8_differs_74
        rw [if_neg (ix_no (a := (i : Int)) (by omega) (by omega) (by omega)), iI_clamp (a := (i : Int)) (by omega) (by omega), show ((i : Int)).toNat = i from rfl, hE.2.1]
        by_cases c4 : 4 ≤ knd a f k
        · rw [if_pos (show (4 : Int32) ≤ iI (knd a f k) by rw [show (4 : Int32) = iI 4 from rfl, iI_le (by omega) (by omega) (by omega) (by omega)]; exact c4)]
          by_cases cn : z / 60 % 24 < 6 ∨ 17 < z / 60 % 24
          · rw [if_pos cn] at ht
            rw [ht]
            exact hye 0 (decide_eq_true ⟨by omega, fun _ => cn, fun _ => c4⟩)
          · rw [if_neg cn] at ht
            rw [ht]
            exact hno 0 1 (by decide) (fun g => cn ((of_decide_eq_true g).2.mp c4))
        · rw [if_neg (show ¬ (4 : Int32) ≤ iI (knd a f k) by rw [show (4 : Int32) = iI 4 from rfl, iI_le (by omega) (by omega) (by omega) (by omega)]; exact c4)]
          by_cases cn : z / 60 % 24 < 6 ∨ 17 < z / 60 % 24
          · rw [if_pos cn] at ht
            rw [ht]
            exact hno 1 0 (by decide) (fun g => c4 ((of_decide_eq_true g).2.mpr cn))
          · rw [if_neg cn] at ht
            rw [ht]
            exact hye 1 (decide_eq_true ⟨by omega, fun g => absurd g c4, fun g => absurd g cn⟩)
      by_cases c5 : z / 60 % 24 ≤ 5
      · rw [if_pos (show iI (z / 60 % 24) ≤ (5 : Int32) by rw [show (5 : Int32) = iI 5 from rfl, iI_le (by omega) (by omega) (by omega) (by omega)]; exact c5)]
        exact h74 0 (by rw [if_pos (by omega)])
      · rw [if_neg (show ¬ iI (z / 60 % 24) ≤ (5 : Int32) by rw [show (5 : Int32) = iI 5 from rfl, iI_le (by omega) (by omega) (by omega) (by omega)]; exact c5)]
        by_cases c6 : 18 ≤ z / 60 % 24
        · rw [if_pos (show (18 : Int32) ≤ iI (z / 60 % 24) by rw [show (18 : Int32) = iI 18 from rfl, iI_le (by omega) (by omega) (by omega) (by omega)]; exact c6)]
          exact h74 0 (by rw [if_pos (by omega)])
        · rw [if_neg (show ¬ (18 : Int32) ≤ iI (z / 60 % 24) by rw [show (18 : Int32) = iI 18 from rfl, iI_le (by omega) (by omega) (by omega) (by omega)]; exact c6)]
          exact h74 1 (by rw [if_neg (by omega)])
    · rw [if_neg (show ¬ (0 : Int32) ≤ iI z by rw [show (0 : Int32) = iI 0 from rfl, iI_le (by omega) (by omega) (by omega) (by omega)]; exact c0), if_neg (show ¬ vis (knd a f k) (z / 60) = true from fun g => by have := vis_0 g; omega), if_pos rfl]
      exact ⟨σ.1, rfl, offD_rf _⟩
