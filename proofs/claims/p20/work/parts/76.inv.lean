/-! the invariant; the calls keep it and answer alike (but for fault) -/
def Rest (σT σR : St2) (σV : St2 × (Nat → Nat)) (σQ : Nat → (St2 × Int64)) (σD : St2) (σM : St2 × (Nat → Int64)) (l cr c : Nat) : Prop := TapeI σT σM.1 l ∧ ReignI σR σM cr ∧ RecI σV σQ σM.1 c ∧ FltI σD σM.1 ∧ WdI σM.1 ∧ ∀ n, n < 12 → σM.1 10 n = iI (mtab n)
def InvS (t : Nat) (σS σT σR : St2) (σV : St2 × (Nat → Nat)) (σQ : Nat → (St2 × Int64)) (σD : St2) (σM : St2 × (Nat → Int64)) : Prop := ∃ (a b f v : Int) (l cr c : Nat), SkyI σS σM.1 a b f ∧ σS 0 3 = iI v ∧ (1 ≤ v ∧ v ≤ (t : Int) + 1) ∧ CchI σV σQ c v a b f ∧ Rest σT σR σV σQ σD σM l cr c
theorem Rec_fr {σV : St2 × (Nat → Nat)} {σQ : Nat → (St2 × Int64)} {σ' σ : St2} {c : Nat} (h : RecI σV σQ σ c) (h0 : σ' 0 26 = σ 0 26) (hr : ∀ j, 28 ≤ j → j ≤ 32 → σ' j = σ j) : RecI σV σQ σ' c := by
  obtain ⟨h8, v1, v2, v3, v4, v5⟩ := h
  refine ⟨h8, v1, by rw [h0]; exact v2, v3, v4, fun i hi => ?_⟩
  obtain ⟨K, C, E, Y, nm, z1, z2, z3⟩ := v5 i hi
  refine ⟨K, C, E, Y, nm, z1, ?_, z3⟩
  unfold ModR
  rw [hr 28 (by omega) (by omega), hr 29 (by omega) (by omega), hr 30 (by omega) (by omega), hr 31 (by omega) (by omega), hr 32 (by omega) (by omega)]
  exact z2
theorem Rec_q {σV : St2 × (Nat → Nat)} {σQ' σQ : Nat → (St2 × Int64)} {σ : St2} {c : Nat} (h : RecI σV σQ σ c) (hq : QSame σQ' σQ) : RecI σV σQ' σ c := by
  obtain ⟨h8, v1, v2, v3, v4, v5⟩ := h
  refine ⟨h8, v1, v2, v3, v4, fun i hi => ?_⟩
  obtain ⟨K, C, E, Y, nm, z1, z2, z3⟩ := v5 i hi
  exact ⟨K, C, E, Y, nm, (hq _ _ _ _ _ _).mpr z1, z2, z3⟩
theorem Flt_fr {σD σ' σ : St2} (h : FltI σD σ) (h20 : σ' 0 20 = σ 0 20) (h21 : σ' 0 21 = σ 0 21) : FltI σD σ' := by
  unfold FltI
  rw [h20, h21]
  exact h
theorem Sky_fr {σS σ' σ : St2} {a b f : Int} (h : SkyI σS σ a b f) (h0 : ∀ i, i < 5 → σ' 0 i = σ 0 i) (hr : ∀ j, 6 ≤ j → j ≤ 9 → σ' j = σ j) : SkyI σS σ' a b f := by
  unfold SkyI ModOf at h ⊢
  rw [h0 0 (by omega), h0 1 (by omega), h0 2 (by omega), h0 3 (by omega), h0 4 (by omega), hr 6 (by omega) (by omega), hr 7 (by omega) (by omega), hr 8 (by omega) (by omega), hr 9 (by omega) (by omega)]
  exact h
theorem Tape_fr {σT σ' σ : St2} {l : Nat} (h : TapeI σT σ l) (h0 : σ' 0 14 = σ 0 14) (hr : σ' 14 = σ 14) : TapeI σT σ' l := by
  unfold TapeI
  rw [h0, hr]
  exact h
theorem keep {σT σR : St2} {σV : St2 × (Nat → Nat)} {σQ : Nat → (St2 × Int64)} {σD : St2} {σM : St2 × (Nat → Int64)} {l cr c : Nat} (h : Rest σT σR σV σQ σD σM l cr c) {σ' : St2} (h0 : ∀ i, 13 ≤ i → σ' 0 i = σM.1 0 i) (hr : ∀ j, 9 ≤ j → σ' j = σM.1 j) : Rest σT σR σV σQ σD (σ', σM.2) l cr c := by
  obtain ⟨h1, h2, h3, h4, h5, h6⟩ := h
  exact ⟨Tape_fr h1 (h0 14 (by omega)) (hr 14 (by omega)), ReignI_fr h2 (h0 22 (by omega)) (hr 25 (by omega)) (hr 26 (by omega)), Rec_fr h3 (h0 26 (by omega)) (fun j a _ => hr j (by omega)), Flt_fr h4 (h0 20 (by omega)) (h0 21 (by omega)), fun j a b => (hr j (by omega)).trans (h5 j a b), fun n hn => (congrFun (hr 10 (by omega)) n).trans (h6 n hn)⟩
theorem keep_e {σT σR : St2} {σV : St2 × (Nat → Nat)} {σQ : Nat → (St2 × Int64)} {σD : St2} {σM : St2 × (Nat → Int64)} {l cr c : Nat} (h : Rest σT σR σV σQ σD σM l cr c) {σ' : St2} (e : offE σ' σM.1) : Rest σT σR σV σQ σD (σ', σM.2) l cr c := keep h (fun i hi => e.1 i (by omega) (by omega) (by omega) (by omega) (by omega)) (fun j hj => e.2 j (by omega) (by omega) (by omega) (by omega))
theorem st_tables (N : Nat) : Step_tables N InvS := by
  rintro aQ t σS σT σR σV σQ σD ra σM x1 x2 x3 ht ⟨a, b, f, v, l, cr, c, hS, hv, hv1, hC, hR⟩
  rcases tables_eq (σT := σT) (σR := σR) (σV := σV) (σQ := σQ) (σD := σD) (ra := ra) hS x1 x2 x3 with ⟨e1, e2⟩ | ⟨σS', σ', a', b', f', e1, e2, e3, e4, e5, e6⟩
  · exact ⟨_, _, e1, e2, a, b, f, v, l, cr, c, hS, hv, by omega, hC, hR⟩
  · refine ⟨_, _, e1, e2, a', b', f', v + 1, l, cr, c, e3, ?_, by omega, ?_, keep hR (fun i hi => e5 i (by omega)) (fun j hj => e6 j (by omega))⟩
    · show σS' 0 3 = _
      rw [e4, hv, show (1 : Int32) = iI 1 from rfl, iI_add]
    · intro i hi
      obtain ⟨s, s1, s2, s3, -⟩ := hC i hi
      exact ⟨s, s1, s2, by omega, fun g => by omega⟩
theorem st_moon (N : Nat) : Step_moon N InvS := by
  rintro aQ t σS σT σR σV σQ σD ra σM x1 x2 ht ⟨a, b, f, v, l, cr, c, hS, hv, hv1, hC, hR⟩
  obtain ⟨o, e1, e2⟩ := moon_eq (σT := σT) (σR := σR) (σV := σV) (σQ := σQ) (σD := σD) (ra := ra) hS x1 x2
  exact ⟨o, o, e1, e2, a, b, f, v, l, cr, c, hS, hv, by omega, hC, hR⟩
theorem st_next {N : Nat} (hN : 12002 ≤ N) : Step_next N InvS := by
  rintro aQ t σS σT σR σV σQ σD ra σM x1 x2 x3 ht ⟨a, b, f, v, l, cr, c, hS, hv, hv1, hC, hR⟩
  obtain ⟨o, σS', σ', e1, e2, e3, e4, e5⟩ := next_eq hN (σT := σT) (σR := σR) (σV := σV) (σQ := σQ) (σD := σD) (ra := ra) hS x1 x2 x3
  exact ⟨_, _, e1, e2, a, b, f, v, l, cr, c, e3, e5.trans hv, by omega, hC, keep_e hR (offE_n e4)⟩
theorem st_round {N : Nat} (hN : 12002 ≤ N) : Step_round N InvS := by
  rintro aQ t σS σT σR σV σQ σD ra σM x1 x2 ht ⟨a, b, f, v, l, cr, c, hS, hv, hv1, hC, hR⟩
  obtain ⟨o, e1, e2⟩ := round_eq hN (σT := σT) (σR := σR) (σV := σV) (σQ := σQ) (σD := σD) (ra := ra) hS x1 x2
  exact ⟨o, o, e1, e2, a, b, f, v, l, cr, c, hS, hv, by omega, hC, hR⟩
theorem st_many {N : Nat} (hN : 12002 ≤ N) : Step_many N InvS := by
  rintro aQ t σS σT σR σV σQ σD ra σM x1 x2 x3 ht ⟨a, b, f, v, l, cr, c, hS, hv, hv1, hC, hR⟩
  obtain ⟨o, σS', σ', e1, e2, e3, e4, e5⟩ := many_eq hN (σT := σT) (σR := σR) (σV := σV) (σQ := σQ) (σD := σD) (ra := ra) hS x1 x2 x3
  exact ⟨_, _, e1, e2, a, b, f, v, l, cr, c, e3, e5.trans hv, by omega, hC, keep_e hR (offE_n e4)⟩
theorem st_date {N : Nat} (hN : 12002 ≤ N) : Step_date N InvS := by
  rintro aQ t σS σT σR σV σQ σD ra σM x1 x2 x3 ht ⟨a, b, f, v, l, cr, c, hS, hv, hv1, hC, hR⟩
  obtain ⟨o, σ', e1, e2, e3⟩ := date_eq hN (σS := σS) (σT := σT) (σR := σR) (σV := σV) (σQ := σQ) (σD := σD) (ra := ra) hR.2.2.2.2.2 x1 x2 x3
  exact ⟨_, _, e1, e2, a, b, f, v, l, cr, c, SkyI_d hS e3, hv, by omega, hC, keep_e hR (offE_d e3)⟩
theorem st_day {N : Nat} (hN : 12002 ≤ N) : Step_day N InvS := by
  rintro aQ t σS σT σR σV σQ σD ra σM x1 x2 x3 x4 ht ⟨a, b, f, v, l, cr, c, hS, hv, hv1, hC, hR⟩
  obtain ⟨o, e1, e2⟩ := day_eq hN (σS := σS) (σT := σT) (σR := σR) (σV := σV) (σQ := σQ) (σD := σD) (ra := ra) hR.2.2.2.2.2 x1 x2 x3 x4
  exact ⟨o, o, e1, e2, a, b, f, v, l, cr, c, hS, hv, by omega, hC, hR⟩
theorem st_seen (N : Nat) : Step_seen N InvS := by
  rintro aQ t σS σT σR σV σQ σD ra σM x1 x2 x3 ht ⟨a, b, f, v, l, cr, c, hS, hv, hv1, hC, hR⟩
  obtain ⟨o, e1, e2⟩ := seen_eq (σT := σT) (σR := σR) (σV := σV) (σQ := σQ) (σD := σD) (ra := ra) hS x1 x2 x3
  exact ⟨o, o, e1, e2, a, b, f, v, l, cr, c, hS, hv, by omega, hC, hR⟩
theorem keep_t {σT σT' σR : St2} {σV : St2 × (Nat → Nat)} {σQ : Nat → (St2 × Int64)} {σD : St2} {σM : St2 × (Nat → Int64)} {l l' cr c : Nat} (h : Rest σT σR σV σQ σD σM l cr c) {σ' : St2} (ht : TapeI σT' σ' l') (h0 : ∀ i, i ≠ 14 → σ' 0 i = σM.1 0 i) (hr : ∀ j, j ≠ 0 → j ≠ 14 → σ' j = σM.1 j) : Rest σT' σR σV σQ σD (σ', σM.2) l' cr c := by
  obtain ⟨h1, h2, h3, h4, h5, h6⟩ := h
  exact ⟨ht, ReignI_fr h2 (h0 22 (by omega)) (hr 25 (by omega) (by omega)) (hr 26 (by omega) (by omega)), Rec_fr h3 (h0 26 (by omega)) (fun j a _ => hr j (by omega) (by omega)), Flt_fr h4 (h0 20 (by omega)) (h0 21 (by omega)), fun j a b => (hr j (by omega) (by omega)).trans (h5 j a b), fun n hn => (congrFun (hr 10 (by omega) (by omega)) n).trans (h6 n hn)⟩
theorem st_feed {N : Nat} (hN : 12002 ≤ N) : Step_feed N InvS := by
  rintro aQ t σS σT σR σV σQ σD ra σM x1 x2 x3 x4 x5 ht ⟨a, b, f, v, l, cr, c, hS, hv, hv1, hC, hR⟩
  obtain ⟨o, σT', σ', l', e1, e2, e3, e4, e5⟩ := feed_eq (N := N) (by omega) (σS := σS) (σR := σR) (σV := σV) (σQ := σQ) (σD := σD) (ra := ra) hR.1 x1 x2 x3 x4 x5
  exact ⟨_, _, e1, e2, a, b, f, v, l', cr, c, Sky_fr hS (fun i hi => e4 i (by omega)) (fun j a b => e5 j (by omega) (by omega)), hv, by omega, hC, keep_t hR e3 e4 e5⟩
theorem st_end (N : Nat) : Step_end N InvS := by
  rintro aQ t σS σT σR σV σQ σD ra σM x1 ht ⟨a, b, f, v, l, cr, c, hS, hv, hv1, hC, hR⟩
  obtain ⟨o, σT', σ', l', e1, e2, e3, e4, e5⟩ := end_eq (σS := σS) (σR := σR) (σV := σV) (σQ := σQ) (σD := σD) (ra := ra) hR.1 x1
  exact ⟨_, _, e1, e2, a, b, f, v, l', cr, c, Sky_fr hS (fun i hi => e4 i (by omega)) (fun j a b => e5 j (by omega)), hv, by omega, hC, keep_t hR e3 e4 (fun j a _ => e5 j a)⟩
theorem st_reign {N : Nat} (hN : 12002 ≤ N) : Step_reign N InvS := by
  rintro aQ t σS σT σR σV σQ σD ra σM x1 x2 ht ⟨a, b, f, v, l, cr, c, hS, hv, hv1, hC, h1, h2, h3, h4, h5, h6⟩
  obtain ⟨o, σT', σR', σ', g', c', e1, e2, e3, e4, e5, e6⟩ := reign_eq hN (σS := σS) (σV := σV) (σQ := σQ) (σD := σD) (ra := ra) h1 h2 x1 x2
  exact ⟨_, _, e1, e2, a, b, f, v, 0, c', c, Sky_fr hS (fun i hi => e5 i (by omega) (by omega)) (fun j a b => e6 j (by omega) (by omega) (by omega)), hv, by omega, hC, e3, e4, Rec_fr h3 (e5 26 (by omega) (by omega)) (fun j a b => e6 j (by omega) (by omega) (by omega)), Flt_fr h4 (e5 20 (by omega) (by omega)) (e5 21 (by omega) (by omega)), fun j a b => (e6 j (by omega) (by omega) (by omega)).trans (h5 j a b), by show ∀ n, n < 12 → σ' 10 n = _; rw [e6 10 (by omega) (by omega) (by omega)]; exact h6⟩
theorem st_record {N : Nat} (hN : 12002 ≤ N) : Step_record N InvS := by
  rintro aQ t σS σT σR σV σQ σD ra σM x1 ht ⟨a, b, f, v, l, cr, c, hS, hv, hv1, hC, h1, h2, h3, h4, h5, h6⟩
  obtain ⟨o, σT', σV', σQ', σD', ra', σ', c', e1, e2, e3, e4, e5, e6, e7, e8, e9⟩ := record_eq hN aQ (σS := σS) (ra := ra) h1 h2 h5 h3 h4 x1
  refine ⟨_, _, e1, e2, a, b, f, v, 0, cr, c', Sky_fr hS (fun i hi => e6 i (by omega)) (fun j a b => e8 j (by omega) (by omega) (by omega) (by omega) (by omega) (by omega)), hv, by omega, ?_, e3, ReignI_fr h2 e7 (e8 25 (by omega) (by omega) (by omega) (by omega) (by omega) (by omega)) (e8 26 (by omega) (by omega) (by omega) (by omega) (by omega) (by omega)), e4, e5, fun j a b => (e8 j (by omega) (by omega) (by omega) (by omega) (by omega) (by omega)).trans (h5 j a b), ?_⟩
  · intro i hi
    rcases e9 i hi with ⟨g1, g2⟩ | g
    · show AcC (σQ' (σV'.2 i)) v a b f
      rw [g2]
      exact hC i g1
    · exact ⟨0, g, by omega, by omega, fun g => by omega⟩
  · show ∀ n, n < 12 → σ' 10 n = _
    rw [e8 10 (by omega) (by omega) (by omega) (by omega) (by omega) (by omega)]
    exact h6
theorem st_means {N : Nat} (hN : 12002 ≤ N) : Step_means N InvS := by
  rintro aQ t σS σT σR σV σQ σD ra σM x1 x2 ht ⟨a, b, f, v, l, cr, c, hS, hv, hv1, hC, hR⟩
  obtain ⟨o, σS', σ', e1, e2, e3, e4, e5⟩ := means_eq hN (σT := σT) (σR := σR) (σD := σD) (ra := ra) hS hR.2.2.1 hR.2.2.2.2.2 x1 x2
  exact ⟨_, _, e1, e2, a, b, f, v, l, cr, c, e3, e5.trans hv, by omega, hC, keep_e hR e4⟩
theorem st_meant {N : Nat} (hN : 12002 ≤ N) : Step_meant N InvS := by
  rintro aQ t σS σT σR σV σQ σD ra σM x1 x2 x3 ht ⟨a, b, f, v, l, cr, c, hS, hv, hv1, hC, hR⟩
  obtain ⟨o, σS', σ', e1, e2, e3, e4, e5⟩ := meant_eq hN (σT := σT) (σR := σR) (σD := σD) (ra := ra) hS hR.2.2.1 hR.2.2.2.2.2 x1 x2 x3
  exact ⟨_, _, e1, e2, a, b, f, v, l, cr, c, e3, e5.trans hv, by omega, hC, keep_e hR e4⟩
theorem st_slips {N : Nat} (hN : 12002 ≤ N) : Step_slips N InvS := by
  rintro aQ t σS σT σR σV σQ σD ra σM x1 x2 ht ⟨a, b, f, v, l, cr, c, hS, hv, hv1, hC, hR⟩
  obtain ⟨o, σS', σ', e1, e2, e3, e4, e5⟩ := slips_eq hN (σT := σT) (σR := σR) (σD := σD) (ra := ra) hS hR.2.2.1 hR.2.2.2.2.2 x1 x2
  exact ⟨_, _, e1, e2, a, b, f, v, l, cr, c, e3, e5.trans hv, by omega, hC, keep_e hR e4⟩
theorem Rest_q {σT σR : St2} {σV : St2 × (Nat → Nat)} {σQ' σQ : Nat → (St2 × Int64)} {σD : St2} {σM : St2 × (Nat → Int64)} {l cr c : Nat} (h : Rest σT σR σV σQ σD σM l cr c) (hq : QSame σQ' σQ) : Rest σT σR σV σQ' σD σM l cr c := ⟨h.1, h.2.1, Rec_q h.2.2.1 hq, h.2.2.2⟩
theorem st_lets {N : Nat} (hN : 12002 ≤ N) : Step_lets N InvS := by
  rintro aQ t σS σT σR σV σQ σD ra σM x1 ht ⟨a, b, f, v, l, cr, c, hS, hv, hv1, hC, hR⟩
  obtain ⟨o, σS', σ', σQ', e1, e2, e3, e4, e5, e6, e7⟩ := lets_eq hN (σT := σT) (σR := σR) (σD := σD) (ra := ra) hS hR.2.2.1 hv (by omega) hC hR.2.2.2.2.2 x1
  exact ⟨_, _, e1, e2, a, b, f, v, l, cr, c, e3, e5.trans hv, by omega, e7, Rest_q (keep_e hR e4) e6⟩
theorem st_slow {N : Nat} (hN : 12002 ≤ N) : Step_slow N InvS := by
  rintro aQ t σS σT σR σV σQ σD ra σM x1 ht ⟨a, b, f, v, l, cr, c, hS, hv, hv1, hC, hR⟩
  obtain ⟨o, σS', σ', σQ', e1, e2, e3, e4, e5, e6, e7⟩ := slow_eq hN (σT := σT) (σR := σR) (σD := σD) (ra := ra) hS hR.2.2.1 hv (by omega) hC hR.2.2.2.2.2 x1
  exact ⟨_, _, e1, e2, a, b, f, v, l, cr, c, e3, e5.trans hv, by omega, e7, Rest_q (keep_e hR e4) e6⟩
theorem st_drop {N : Nat} (hN : 12002 ≤ N) : Step_drop N InvS := by
  rintro aQ t σS σT σR σV σQ σD ra σM x1 ht ⟨a, b, f, v, l, cr, c, hS, hv, hv1, hC, h1, h2, h3, h4, h5, h6⟩
  obtain ⟨o, σV', σ', c', e1, e2, e3, e4, e5, e6⟩ := drop_eq hN (σS := σS) (σT := σT) (σR := σR) (σD := σD) (ra := ra) h3 x1
  refine ⟨_, _, e1, e2, rfl, a, b, f, v, l, cr, c', Sky_fr hS (fun i hi => e4 i (by omega)) (fun j a b => e5 j (by omega) (by omega)), hv, by omega, ?_, Tape_fr h1 (e4 14 (by omega)) (e5 14 (by omega) (by omega)), ReignI_fr h2 (e4 22 (by omega)) (e5 25 (by omega) (by omega)) (e5 26 (by omega) (by omega)), e3, Flt_fr h4 (e4 20 (by omega)) (e4 21 (by omega)), fun j a b => (e5 j (by omega) (by omega)).trans (h5 j a b), ?_⟩
  · intro i hi
    obtain ⟨k, k1, k2⟩ := e6 i hi
    show AcC (σQ (σV'.2 i)) v a b f
    rw [k2]
    exact hC k k1
  · show ∀ n, n < 12 → σ' 10 n = _
    rw [e5 10 (by omega) (by omega)]
    exact h6
theorem st_none : ∀ (t : Nat) (σS σT σR : St2) (σV : St2 × (Nat → Nat)) (σQ : Nat → (St2 × Int64)) (σD : St2) (σM : St2 × (Nat → Int64)), InvS t σS σT σR σV σQ σD σM → InvS (t + 1) σS σT σR σV σQ σD σM := by
  rintro t σS σT σR σV σQ σD σM ⟨a, b, f, v, l, cr, c, hS, hv, hv1, hC, hR⟩
  exact ⟨a, b, f, v, l, cr, c, hS, hv, by omega, hC, hR⟩
theorem inv0 : InvS 0 s0S z0 z0 (z0, fun i => i) (fun _ => (z0, 0)) s0D m0 := by
  refine ⟨9000, 0, 400, 1, 0, 0, 0, ?_, by decide, by omega, fun i hi => absurd hi (Nat.not_lt_zero _), ?_, ?_, ?_, ?_, ?_, ?_⟩
  · refine ⟨by omega, by omega, by omega, by decide, by decide, by decide, by decide, by decide, by decide, Or.inl (by decide), Or.inl (by decide), by decide⟩
  · exact ⟨by omega, by decide, by decide, fun i hi => absurd hi (Nat.not_lt_zero _)⟩
  · exact ⟨by omega, by decide, by decide, fun i hi => absurd hi (Nat.not_lt_zero _)⟩
  · exact ⟨by omega, by decide, by decide, fun i hi => hi, fun i j _ _ g => g, fun i hi => absurd hi (Nat.not_lt_zero _)⟩
  · exact ⟨by decide, Or.inl (by decide)⟩
  · exact fun j _ _ => rfl
  · decide
