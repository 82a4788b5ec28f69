/-! which slows a record lets -/
def LetP (K : Int32) (C E Y : Int) (nm : Nat → Int) (a b f : Int) (s : Nat) : Prop := ∃ i, i < (EL a f 12001).length ∧ dfI K C E Y nm a b f ((EL a f 12001).getD i 0 : Nat) (s : Int) = 0
theorem dfI_0 {K : Int32} {C E Y : Int} {nm : Nat → Int} {a b f k s : Int} : dfI K C E Y nm a b f k s = 0 ↔ ¬ (K >>> (iI (knd a f k) &&& 31)) &&& 1 = 0 ∧ MnP C Y nm (knd a f k) (zI a b E k s / 60) := by
  unfold dfI hs MnP
  by_cases c1 : (K >>> (iI (knd a f k) &&& 31)) &&& 1 = 0
  · rw [if_pos c1, if_pos rfl]
    exact ⟨fun g => by omega, fun g => absurd c1 g.1⟩
  · rw [if_neg c1]
    by_cases c2 : vis (knd a f k) (zI a b E k s / 60) = true
    · have := vis_0 c2
      rw [if_pos c2, if_neg (by omega)]
      constructor
      · intro g
        refine ⟨c1, c2, ?_⟩
        split at g <;> omega
      · rintro ⟨-, -, g⟩
        rw [g, if_neg (by omega)]
    · rw [if_neg c2, if_pos rfl]
      exact ⟨fun g => by omega, fun g => absurd g.2.1 c2⟩
theorem let_loop {N : Nat} (hN : 12002 ≤ N) {A σS : St2} {K : Int32} {C E Y : Int} {nm : Nat → Int} (hA : AccI A K C E Y nm) (ho : okR C E Y nm) {a b f : Int} {c : Nat} (hc : (EL a f 12001).length = c) (hl : c ≤ 1799) (hS : SkyOf σS a b f) : ∀ (m i n : Nat) (y : Int64), i + m = c → m < n → MskI y (fun u => ∃ j, j < i ∧ dfI K C E Y nm a b f ((EL a f 12001).getD j 0 : Nat) (u : Int) = 0) → ∃ x, f_X0_slowsLet_28 N n (A, y) σS (iI (c : Nat)) (iI i) = some (x, (up2 A 0 6 (σS 0 3), x), σS) ∧ MskI x (LetP K C E Y nm a b f) := by
  intro m
  induction m with
  | zero =>
    intro i n y hm hn hy
    cases n with
    | zero => exact absurd hn (Nat.not_lt_zero _)
    | succ n =>
      have e : i = c := by omega
      subst e
      rw [f_X0_slowsLet_28, if_pos (show iI (i : Nat) ≤ iI (i : Nat) by rw [iI_le (by omega) (by omega) (by omega) (by omega)]; omega)]
      refine ⟨y, rfl, ?_⟩
      subst hc
      exact hy
  | succ m IH =>
    intro i n y hm hn hy
    cases n with
    | zero => exact absurd hn (Nat.not_lt_zero _)
    | succ n =>
      rw [f_X0_slowsLet_28, if_neg (show ¬ iI (c : Nat) ≤ iI i by rw [iI_le (by omega) (by omega) (by omega) (by omega)]; omega)]
      by_cases c0 : y = 2305843009213693951
      · rw [if_pos ((lg_eq0 _ _).mpr c0)]
        refine ⟨y, rfl, ?_⟩
        rw [c0]
        refine Msk_cg Msk_full (fun j hj => ⟨fun _ => ?_, fun _ => trivial⟩)
        have := (hy j (by omega)).mp (by rw [c0, full_bits j (by omega)]; exact decide_eq_true hj)
        obtain ⟨-, i', h1, h2⟩ := this
        exact ⟨i', by omega, h2⟩
      · rw [if_neg (fun g => c0 ((lg_eq0 _ _).mp g))]
        have h4 := list_at hc hl hS (i := i) (by omega)
        unfold f_X0_isOfKind
        rw [h4.1, Option.bind_some, show (A, y).1 0 0 = K from hA.1]
        unfold f_X0_slowsLet_68
        rw [nx]
        by_cases c1 : (K >>> (iI (knd a f ((EL a f 12001).getD i 0 : Nat)) &&& 31)) &&& 1 = 0
        · rw [if_pos c1, Option.bind_some, if_pos bI_f]
          refine IH (i + 1) n y (by omega) (by omega) (Msk_cg hy (fun u hu => ⟨fun ⟨j, h1, h2⟩ => ⟨j, by omega, h2⟩, fun ⟨j, h1, h2⟩ => ⟨j, ?_, h2⟩⟩))
          by_cases e : j = i
          · rw [e] at h2
            exact absurd c1 (dfI_0.mp h2).1
          · omega
        · rw [if_neg c1, Option.bind_some, if_neg bI_t]
          obtain ⟨x, g1, g2⟩ := meaning_eq hN (σA := (A, y)) hA ho hc hl hS (i := i) (by omega)
          rw [g1, Option.bind_some]
          refine IH (i + 1) n (y ||| x) (by omega) (by omega) (Msk_cg (Msk_or hy g2) (fun u hu => ?_))
          constructor
          · rintro (⟨j, h1, h2⟩ | h)
            · exact ⟨j, by omega, h2⟩
            · exact ⟨i, by omega, dfI_0.mpr ⟨c1, h⟩⟩
          · rintro ⟨j, h1, h2⟩
            by_cases e : j = i
            · rw [e] at h2
              exact Or.inr (dfI_0.mp h2).2
            · exact Or.inl ⟨j, by omega, h2⟩
def AcC (σA : St2 × Int64) (v a b f : Int) : Prop := ∃ s : Int, σA.1 0 6 = iI s ∧ 0 ≤ s ∧ s ≤ v ∧ (s = v → ∀ K C E Y nm, AccI σA.1 K C E Y nm → okR C E Y nm → MskI σA.2 (LetP K C E Y nm a b f))
theorem AccI_6 {A : St2} {x : Int32} {K : Int32} {C E Y : Int} {nm : Nat → Int} : AccI (up2 A 0 6 x) K C E Y nm ↔ AccI A K C E Y nm := Iff.rfl
theorem slowsLet_eq {N : Nat} (hN : 12002 ≤ N) {σA : St2 × Int64} {σS σM : St2} {K0 : Int32} {C0 E0 Y0 : Int} {nm0 : Nat → Int} (hA : AccI σA.1 K0 C0 E0 Y0 nm0) (ho : okR C0 E0 Y0 nm0) {a b f v : Int} (h : SkyI σS σM a b f) (hv : σS 0 3 = iI v) (hv1 : 1 ≤ v ∧ v ≤ 1000) (hC : AcC σA v a b f) : ∃ (x : Int64) (A' σS' : St2), f_X0_slowsLet N σA σS = some (x, (A', x), σS') ∧ MskI x (LetP K0 C0 E0 Y0 nm0 a b f) ∧ (∀ K C E Y nm, AccI A' K C E Y nm ↔ AccI σA.1 K C E Y nm) ∧ AcC (A', x) v a b f ∧ SkyI σS' σM a b f ∧ σS' 0 3 = σS 0 3 := by
  obtain ⟨s, s1, s2, s3, s4⟩ := hC
  unfold f_X0_slowsLet f_X5_tablesVersion
  rw [s1, hv]
  by_cases c : s = v
  · rw [if_pos (by rw [c])]
    exact ⟨σA.2, σA.1, σS, rfl, s4 c _ _ _ _ _ hA ho, fun _ _ _ _ _ => Iff.rfl, ⟨s, s1, s2, s3, s4⟩, h, hv.symm ▸ rfl⟩
  · rw [if_neg (by rw [iI_eq (by omega) (by omega) (by omega) (by omega)]; exact c)]
    have hh := h
    obtain ⟨ha, hb, hf, h0, h1, h2, g0, g1, g2, h4, g4, hw⟩ := h
    obtain ⟨σL, l1, l2, l3⟩ := list_eq hN ha hb hf h0 h1 h2 h4
    have hl := EL_len (a := a) hf
    rw [l1, Option.bind_some]
    dsimp only
    have key : ∀ K C E Y nm, AccI σA.1 K C E Y nm → okR C E Y nm → ∃ x, f_X0_slowsLet_28 N N (σA.1, 0) σL (iI ((EL a f 12001).length : Nat)) 0 = some (x, (up2 σA.1 0 6 (σL 0 3), x), σL) ∧ MskI x (LetP K C E Y nm a b f) := fun K C E Y nm k1 k2 => let_loop hN k1 k2 rfl hl l2 (EL a f 12001).length 0 N 0 (by omega) (by omega) (Msk_cg Msk_0 (fun u _ => ⟨fun g => g.elim, fun ⟨j, k, _⟩ => absurd k (Nat.not_lt_zero _)⟩))
    obtain ⟨x, x1, x2⟩ := key _ _ _ _ _ hA ho
    rw [x1]
    refine ⟨x, up2 σA.1 0 6 (σL 0 3), σL, rfl, x2, fun _ _ _ _ _ => AccI_6, ⟨v, ?_, by omega, by omega, ?_⟩, SkyI_l hh l2, l3.trans hv⟩
    · exact l3.trans hv
    · intro _ K C E Y nm k1 k2
      obtain ⟨x', y1, y2⟩ := key _ _ _ _ _ (AccI_6.mp k1) k2
      rw [x1] at y1
      have : x = x' := congrArg Prod.fst (Option.some.inj y1)
      rw [this]
      exact y2
theorem isLet_loop {N : Nat} (hN : 12002 ≤ N) {K : Int32} {C E Y : Int} {nm : Nat → Int} (ho : okR C E Y nm) {a b f : Int} {c r : Nat} (hr : r ≤ 8) (hc : (EL a f 12001).length = c) (hl : c ≤ 1799) {s : Int} (hs0 : 0 ≤ s ∧ s ≤ 60) : ∀ (m i n' : Nat) (σM : St2 × (Nat → Int64)), i + m = c → m < n' → MdI σM.1 r K C E Y nm a b f → ∃ (B : Bool) (σ' : St2), f_X8_isLet_6 N n' σM (iI r) (iI s) (iI i) = some (B, (σ', σM.2)) ∧ offD σ' σM.1 ∧ (B = true ↔ ∃ j, i ≤ j ∧ j < c ∧ dfI K C E Y nm a b f ((EL a f 12001).getD j 0 : Nat) s = 0) := by
  intro m
  induction m with
  | zero =>
    intro n0 n' σM hm hn' hM
    cases n' with
    | zero => exact absurd hn' (Nat.not_lt_zero _)
    | succ n' =>
      rw [f_X8_isLet_6, hM.2.1.2.2.2.2.1, hc, if_pos (by rw [iI_le (by omega) (by omega) (by omega) (by omega)]; omega)]
      exact ⟨false, σM.1, rfl, offD_rf _, fun g => absurd g (by decide), fun ⟨j, j1, j2, _⟩ => by omega⟩
  | succ m IH =>
    intro i n' σM hm hn' hM
    cases n' with
    | zero => exact absurd hn' (Nat.not_lt_zero _)
    | succ n' =>
      obtain ⟨σ1, e1, e2⟩ := differs_eq hN hr hM.1 ho hM.2.2 hc hl hM.2.1 (i := i) (by omega) hs0
      have hlt : ¬ iI (c : Nat) ≤ iI i := by rw [iI_le (by omega) (by omega) (by omega) (by omega)]; omega
      have hd := dfI_rng K C E Y nm a b f ((EL a f 12001).getD i 0 : Nat) s
      rw [f_X8_isLet_6, hM.2.1.2.2.2.2.1, hc, if_neg hlt, e1, Option.bind_some]
      by_cases c1 : dfI K C E Y nm a b f ((EL a f 12001).getD i 0 : Nat) s = 0
      · rw [if_pos ((iI_z (by omega) (by omega)).mpr c1)]
        exact ⟨true, σ1, rfl, e2, fun _ => ⟨i, by omega, by omega, c1⟩, fun _ => rfl⟩
      · rw [if_neg (fun g => c1 ((iI_z (by omega) (by omega)).mp g)), nx]
        obtain ⟨B, σ', g1, g2, g3⟩ := IH (i + 1) n' (σ1, σM.2) (by omega) (by omega) (MdI_off hM e2)
        refine ⟨B, σ', g1, offD_tr g2 e2, ?_⟩
        rw [g3]
        constructor
        · rintro ⟨j, j1, j2, j3⟩
          exact ⟨j, by omega, j2, j3⟩
        · rintro ⟨j, j1, j2, j3⟩
          refine ⟨j, ?_, j2, j3⟩
          by_cases e : j = i
          · rw [e] at j3
            exact absurd j3 c1
          · omega
theorem isLet_eq {N : Nat} (hN : 12002 ≤ N) {σS : St2} {σM : St2 × (Nat → Int64)} {K : Int32} {C E Y : Int} {nm : Nat → Int} (ho : okR C E Y nm) {a b f : Int} {r : Nat} (hr : r ≤ 8) (h : SkyI σS σM.1 a b f) (hR : ModR σM.1 r K C E Y nm) (ht : ∀ n, n < 12 → σM.1 10 n = iI (mtab n)) {s : Nat} (hs0 : s ≤ 60) : ∃ (B : Bool) (σ' : St2), f_X8_isLet N σM (iI r) (iI (s : Nat)) = some (B, (σ', σM.2)) ∧ SkyI σS σ' a b f ∧ offE σ' σM.1 ∧ (B = true ↔ LetP K C E Y nm a b f s) := by
  have hh := h
  obtain ⟨ha, hb, hf, h0, h1, h2, g0, g1, g2, h4, g4, hw⟩ := h
  obtain ⟨σ1, n1, n2, n3⟩ := notes_eq hN ha hb hf hw g0 g1 g2 g4
  have hl := EL_len (a := a) hf
  unfold f_X8_isLet
  rw [n1, Option.bind_some]
  have hM : MdI σ1 r K C E Y nm a b f := by
    refine ⟨?_, n2, ?_⟩
    · unfold ModR
      rw [n3.2 28 (by omega) (by omega) (by omega) (by omega), n3.2 29 (by omega) (by omega) (by omega) (by omega), n3.2 30 (by omega) (by omega) (by omega) (by omega), n3.2 31 (by omega) (by omega) (by omega) (by omega), n3.2 32 (by omega) (by omega) (by omega) (by omega)]
      exact hR
    · rw [n3.2 10 (by omega) (by omega) (by omega) (by omega)]
      exact ht
  obtain ⟨B, σ', k1, k2, k3⟩ := isLet_loop hN ho hr rfl hl (s := (s : Int)) (by omega) (EL a f 12001).length 0 N (σ1, σM.2) (by omega) (by omega) hM
  refine ⟨B, σ', k1, SkyI_d (off_sky hh n2 n3) k2, offE_tr (offE_d k2) (offE_n n3), ?_⟩
  rw [k3]
  exact ⟨fun ⟨j, _, j2, j3⟩ => ⟨j, j2, j3⟩, fun ⟨j, j2, j3⟩ => ⟨j, by omega, j2, j3⟩⟩
