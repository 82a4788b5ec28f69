/-! lets and slow agree -/
def CchI (σV : St2 × (Nat → Nat)) (σQ : Nat → (St2 × Int64)) (c : Nat) (v a b f : Int) : Prop := ∀ i, i < c → AcC (σQ (σV.2 i)) v a b f
def QSame (σQ' σQ : Nat → (St2 × Int64)) : Prop := ∀ j K C E Y nm, AccI (σQ' j).1 K C E Y nm ↔ AccI (σQ j).1 K C E Y nm
theorem QSame_rf (σQ : Nat → (St2 × Int64)) : QSame σQ σQ := fun _ _ _ _ _ _ => Iff.rfl
theorem QSame_tr {x y z : Nat → (St2 × Int64)} (h : QSame x y) (g : QSame y z) : QSame x z := fun j K C E Y nm => (h j K C E Y nm).trans (g j K C E Y nm)
theorem QSame_up {σQ : Nat → (St2 × Int64)} {j : Nat} {A : St2 × Int64} (h : ∀ K C E Y nm, AccI A.1 K C E Y nm ↔ AccI (σQ j).1 K C E Y nm) : QSame (va_up σQ j A) σQ := by
  intro i K C E Y nm
  unfold va_up
  by_cases c : i = j
  · rw [if_pos c, c]; exact h K C E Y nm
  · rw [if_neg c]
theorem CchI_up {σV : St2 × (Nat → Nat)} {σQ : Nat → (St2 × Int64)} {c : Nat} {v a b f : Int} (h : CchI σV σQ c v a b f) {j : Nat} {A : St2 × Int64} (g : AcC A v a b f) : CchI σV (va_up σQ j A) c v a b f := by
  intro i hi
  unfold va_up
  by_cases c : σV.2 i = j
  · rw [if_pos c]; exact g
  · rw [if_neg c]; exact h i hi
theorem lets_eq {N : Nat} (hN : 12002 ≤ N) {σS σT σR : St2} {σV : St2 × (Nat → Nat)} {σQ : Nat → (St2 × Int64)} {σD : St2} {ra : Value} {σM : St2 × (Nat → Int64)} {a b f v : Int} {c : Nat} (h : SkyI σS σM.1 a b f) (hR : RecI σV σQ σM.1 c) (hv : σS 0 3 = iI v) (hv1 : 1 ≤ v ∧ v ≤ 1000) (hC : CchI σV σQ c v a b f) (ht : ∀ n, n < 12 → σM.1 10 n = iI (mtab n)) (x1 : Int32) : ∃ (o : Int32) (σS' σ' : St2) (σQ' : Nat → (St2 × Int64)), f_X7_lets N σS σT σR σV σQ σD ra x1 = some (o, σS', σQ') ∧ f_X8_lets N σM x1 = some (o, (σ', σM.2)) ∧ SkyI σS' σ' a b f ∧ offE σ' σM.1 ∧ σS' 0 3 = σS 0 3 ∧ QSame σQ' σQ ∧ CchI σV σQ' c v a b f := by
  unfold f_X7_lets f_X8_lets
  rcases find_rec hR x1 with ⟨e1, e2⟩ | ⟨i, hi, rfl, e1, e2⟩
  · rw [if_pos e2, e1, Option.bind_some]
    exact ⟨-1, σS, σM.1, σQ, rfl, rfl, h, offE_rf _, rfl, QSame_rf _, hC⟩
  · rw [if_neg e2, e1, Option.bind_some]
    have hc8 := hR.1
    have hv8 := hR.2.2.2.1 i (by omega)
    obtain ⟨K, C, E, Y, nm, q1, q2, q3⟩ := hR.2.2.2.2.2 i hi
    unfold oc
    dsimp only
    rw [if_neg (by omega)]
    obtain ⟨x, A', σS', k1, k2, k3, k4, k5, k6⟩ := slowsLet_eq hN q1 q3 h hv hv1 (hC i hi)
    rw [k1, Option.bind_some]
    dsimp only
    have hm := (mask_ans k2 0).1
    obtain ⟨σ', g1, g2, g3⟩ := lets_loop hN q3 (r := i) (by omega) (P := fun j => x.toBitVec.getLsbD j) (fun t ht => (k2 t (by omega)).trans ⟨fun g => g.2, fun g => ⟨ht, g⟩⟩) 61 0 N σM (by omega) (by omega) k5 q2 ht
    rw [hm, show f_X8_lets_14 N N σM (iI i) 0 0 = _ from g1]
    exact ⟨_, σS', σ', _, rfl, rfl, g2, g3, k6, QSame_up k3, CchI_up hC k4⟩
theorem all_loop {N : Nat} (hN : 12002 ≤ N) {σV : St2 × (Nat → Nat)} {σM : St2} {a b f v : Int} {c : Nat} {L : Nat → Nat → Prop} (hv1 : 1 ≤ v ∧ v ≤ 1000) (hc8 : c ≤ 8) (h1 : σV.1 0 1 = iI (c : Nat)) (h8 : ∀ i, i < 8 → σV.2 i < 8) : ∀ (m i n : Nat) (y : Int64) (σS : St2) (σQ : Nat → (St2 × Int64)), i + m = c → m < n → SkyI σS σM a b f → σS 0 3 = iI v → CchI σV σQ c v a b f → (∀ j, j < c → ∃ K C E Y nm, AccI (σQ (σV.2 j)).1 K C E Y nm ∧ okR C E Y nm ∧ ∀ t, t ≤ 60 → (L j t ↔ LetP K C E Y nm a b f t)) → MskI y (fun t => ∀ j, j < i → L j t) → ∃ (x : Int64) (σS' : St2) (σQ' : Nat → (St2 × Int64)), f_X1_slowsOfAll_7 N n σV σQ σS y (iI (i : Nat)) = some (x, σQ', σS') ∧ MskI x (fun t => ∀ j, j < c → L j t) ∧ SkyI σS' σM a b f ∧ σS' 0 3 = σS 0 3 ∧ QSame σQ' σQ ∧ CchI σV σQ' c v a b f := by
  intro m
  induction m with
  | zero =>
    intro i n y σS σQ hm hn h hv hC hL hy
    cases n with
    | zero => exact absurd hn (Nat.not_lt_zero _)
    | succ n =>
      have e : i = c := by omega
      subst e
      rw [f_X1_slowsOfAll_7, h1, if_pos (by rw [iI_le (by omega) (by omega) (by omega) (by omega)]; omega)]
      exact ⟨y, σS, σQ, rfl, hy, h, rfl, QSame_rf _, hC⟩
  | succ m IH =>
    intro i n y σS σQ hm hn h hv hC hL hy
    cases n with
    | zero => exact absurd hn (Nat.not_lt_zero _)
    | succ n =>
      rw [f_X1_slowsOfAll_7, h1, if_neg (show ¬ iI (c : Nat) ≤ iI (i : Nat) by rw [iI_le (by omega) (by omega) (by omega) (by omega)]; omega)]
      by_cases c0 : y = 0
      · rw [if_pos ((lg_eq0 _ _).mpr c0)]
        refine ⟨y, σS, σQ, rfl, Msk_cg hy (fun t ht => ⟨fun g => ?_, fun g j hj => g j (by omega)⟩), h, rfl, QSame_rf _, hC⟩
        exact absurd g ((Msk_z hy).mp c0 t ht)
      · rw [if_neg (fun g => c0 ((lg_eq0 _ _).mp g))]
        have hf : f_X1_find σV (iI (i : Nat)) = some (some (σV.2 i)) := by
          unfold f_X1_find
          rw [h1, if_neg (show ¬ iI (i : Nat) < 0 by rw [show (0 : Int32) = iI 0 from rfl, iI_lt (by omega) (by omega) (by omega) (by omega)]; omega), if_neg (show ¬ iI (c : Nat) ≤ iI (i : Nat) by rw [iI_le (by omega) (by omega) (by omega) (by omega)]; omega), if_neg (ix_no (by omega) (by omega) (by omega)), iI_clamp (by omega) (by omega)]
          rfl
        rw [hf, Option.bind_some]
        unfold oc
        dsimp only
        have hv8 := h8 i (by omega)
        rw [if_neg (by omega)]
        obtain ⟨K, C, E, Y, nm, q1, q2, q3⟩ := hL i (by omega)
        obtain ⟨x, A', σS1, k1, k2, k3, k4, k5, k6⟩ := slowsLet_eq hN q1 q2 h hv hv1 (hC i (by omega))
        rw [k1, Option.bind_some]
        unfold f_X1_slowsOfAll_44
        dsimp only
        rw [nx]
        have hq := QSame_up (σQ := σQ) (j := σV.2 i) (A := (A', x)) k3
        obtain ⟨x', σS', σQ', g1, g2, g3, g4, g5, g6⟩ := IH (i + 1) n (y &&& x) σS1 (va_up σQ (σV.2 i) (A', x)) (by omega) (by omega) k5 (k6.trans hv) (CchI_up hC k4) (fun j hj => by
          obtain ⟨K, C, E, Y, nm, p1, p2, p3⟩ := hL j hj
          exact ⟨K, C, E, Y, nm, (hq _ K C E Y nm).mpr p1, p2, p3⟩) (Msk_cg (Msk_and hy k2) (fun t ht => by
          rw [← q3 t ht]
          constructor
          · rintro ⟨r1, r2⟩ j hj
            by_cases e : j = i
            · rw [e]; exact r2
            · exact r1 j (by omega)
          · intro r
            exact ⟨fun j hj => r j (by omega), r i (by omega)⟩))
        exact ⟨x', σS', σQ', g1, g2, g3, g4.trans k6, QSame_tr g5 hq, g6⟩
theorem slow_eq {N : Nat} (hN : 12002 ≤ N) {σS σT σR : St2} {σV : St2 × (Nat → Nat)} {σQ : Nat → (St2 × Int64)} {σD : St2} {ra : Value} {σM : St2 × (Nat → Int64)} {a b f v : Int} {c : Nat} (h : SkyI σS σM.1 a b f) (hR : RecI σV σQ σM.1 c) (hv : σS 0 3 = iI v) (hv1 : 1 ≤ v ∧ v ≤ 1000) (hC : CchI σV σQ c v a b f) (ht : ∀ n, n < 12 → σM.1 10 n = iI (mtab n)) (x1 : Int32) : ∃ (o : Int32) (σS' σ' : St2) (σQ' : Nat → (St2 × Int64)), f_X7_slow N σS σT σR σV σQ σD ra x1 = some (o, σS', σQ') ∧ f_X8_slow N σM x1 = some (o, (σ', σM.2)) ∧ SkyI σS' σ' a b f ∧ offE σ' σM.1 ∧ σS' 0 3 = σS 0 3 ∧ QSame σQ' σQ ∧ CchI σV σQ' c v a b f := by
  have hc8 := hR.1
  have hL : ∃ L : Nat → Nat → Prop, ∀ j, j < c → ∃ K C E Y nm, AccI (σQ (σV.2 j)).1 K C E Y nm ∧ ModR σM.1 j K C E Y nm ∧ okR C E Y nm ∧ ∀ t, t ≤ 60 → (L j t ↔ LetP K C E Y nm a b f t) := by
    refine ⟨fun j t => ∃ K C E Y nm, AccI (σQ (σV.2 j)).1 K C E Y nm ∧ okR C E Y nm ∧ LetP K C E Y nm a b f t, ?_⟩
    intro j hj
    obtain ⟨K, C, E, Y, nm, q1, q2, q3⟩ := hR.2.2.2.2.2 j hj
    refine ⟨K, C, E, Y, nm, q1, q2, q3, fun t ht => ⟨?_, fun g => ⟨K, C, E, Y, nm, q1, q3, g⟩⟩⟩
    rintro ⟨K', C', E', Y', nm', p1, p3, p4⟩
    obtain ⟨x, A', σS', k1, k2, -⟩ := slowsLet_eq hN q1 q3 h hv hv1 (hC j hj)
    obtain ⟨x', A'', σS'', l1, l2, -⟩ := slowsLet_eq hN p1 p3 h hv hv1 (hC j hj)
    rw [k1] at l1
    have e : x = x' := congrArg Prod.fst (Option.some.inj l1)
    rw [← e] at l2
    exact ((k2 t (by omega)).mp ((l2 t (by omega)).mpr ⟨ht, p4⟩)).2
  obtain ⟨L, hL⟩ := hL
  obtain ⟨x, σS', σQ', g1, g2, g3, g4, g5, g6⟩ := all_loop hN (σM := σM.1) (L := L) hv1 hc8 hR.2.1 hR.2.2.2.1 c 0 N 2305843009213693951 σS σQ (by omega) (by omega) h hv hC (fun j hj => by
    obtain ⟨K, C, E, Y, nm, q1, q2, q3, q4⟩ := hL j hj
    exact ⟨K, C, E, Y, nm, q1, q3, q4⟩) (Msk_cg Msk_full (fun t _ => ⟨fun _ j hj => absurd hj (Nat.not_lt_zero _), fun _ => trivial⟩))
  have hM : RecM σM.1 c L a b f := ⟨hc8, hR.2.2.1, ht, fun j hj => by
    obtain ⟨K, C, E, Y, nm, q1, q2, q3, q4⟩ := hL j hj
    exact ⟨K, C, E, Y, nm, q2, q3, q4⟩⟩
  obtain ⟨σ', k1, k2, k3⟩ := slow_loop hN (P := fun j => x.toBitVec.getLsbD j) (fun t ht => (g2 t (by omega)).trans ⟨fun g => g.2, fun g => ⟨ht, g⟩⟩) x1 61 0 N σM (by omega) (by omega) g3 hM
  unfold f_X7_slow f_X8_slow f_X1_slowsOfAll
  rw [show f_X8_slow_10 N N σM x1 (-1) (-1) 0 0 = _ from k1, show f_X1_slowsOfAll_7 N N σV σQ σS 2305843009213693951 0 = _ from g1, Option.bind_some]
  dsimp only
  have ha := (mask_ans g2 x1).2
  refine ⟨_, σS', σ', σQ', ?_, rfl, k2, k3, g4, g5, g6⟩
  rw [← ha]
  repeat' split
  all_goals rfl
