def InvP (t : Nat) (σS σT σR : St2) (σV : St2 × (Nat → Nat)) (σQ : Nat → (St2 × Int64)) (σD : St2) (σM : St2 × (Nat → Int64)) : Prop := InvS t σS σT σR σV σQ σD σM ∧ (t = 0 → σD 0 9 = σM.1 0 20)
theorem sp_tables {N : Nat} (hN : 12002 ≤ N) : Step_tables N InvP := by
  rintro aQ t σS σT σR σV σQ σD ra σM x1 x2 x3 ht ⟨h, -⟩
  obtain ⟨oh, om, e1, e2, e3, e4⟩ := st_tables N aQ t σS σT σR σV σQ σD ra σM x1 x2 x3 ht h
  exact ⟨oh, om, e1, e2, e3, e4, fun g => absurd g (Nat.succ_ne_zero _)⟩
theorem sp_moon {N : Nat} (hN : 12002 ≤ N) : Step_moon N InvP := by
  rintro aQ t σS σT σR σV σQ σD ra σM x1 x2 ht ⟨h, -⟩
  obtain ⟨oh, om, e1, e2, e3, e4⟩ := st_moon N aQ t σS σT σR σV σQ σD ra σM x1 x2 ht h
  exact ⟨oh, om, e1, e2, e3, e4, fun g => absurd g (Nat.succ_ne_zero _)⟩
theorem sp_next {N : Nat} (hN : 12002 ≤ N) : Step_next N InvP := by
  rintro aQ t σS σT σR σV σQ σD ra σM x1 x2 x3 ht ⟨h, -⟩
  obtain ⟨oh, om, e1, e2, e3, e4⟩ := st_next hN aQ t σS σT σR σV σQ σD ra σM x1 x2 x3 ht h
  exact ⟨oh, om, e1, e2, e3, e4, fun g => absurd g (Nat.succ_ne_zero _)⟩
theorem sp_round {N : Nat} (hN : 12002 ≤ N) : Step_round N InvP := by
  rintro aQ t σS σT σR σV σQ σD ra σM x1 x2 ht ⟨h, -⟩
  obtain ⟨oh, om, e1, e2, e3, e4⟩ := st_round hN aQ t σS σT σR σV σQ σD ra σM x1 x2 ht h
  exact ⟨oh, om, e1, e2, e3, e4, fun g => absurd g (Nat.succ_ne_zero _)⟩
theorem sp_many {N : Nat} (hN : 12002 ≤ N) : Step_many N InvP := by
  rintro aQ t σS σT σR σV σQ σD ra σM x1 x2 x3 ht ⟨h, -⟩
  obtain ⟨oh, om, e1, e2, e3, e4⟩ := st_many hN aQ t σS σT σR σV σQ σD ra σM x1 x2 x3 ht h
  exact ⟨oh, om, e1, e2, e3, e4, fun g => absurd g (Nat.succ_ne_zero _)⟩
theorem sp_date {N : Nat} (hN : 12002 ≤ N) : Step_date N InvP := by
  rintro aQ t σS σT σR σV σQ σD ra σM x1 x2 x3 ht ⟨h, -⟩
  obtain ⟨oh, om, e1, e2, e3, e4⟩ := st_date hN aQ t σS σT σR σV σQ σD ra σM x1 x2 x3 ht h
  exact ⟨oh, om, e1, e2, e3, e4, fun g => absurd g (Nat.succ_ne_zero _)⟩
theorem sp_day {N : Nat} (hN : 12002 ≤ N) : Step_day N InvP := by
  rintro aQ t σS σT σR σV σQ σD ra σM x1 x2 x3 x4 ht ⟨h, -⟩
  obtain ⟨oh, om, e1, e2, e3, e4⟩ := st_day hN aQ t σS σT σR σV σQ σD ra σM x1 x2 x3 x4 ht h
  exact ⟨oh, om, e1, e2, e3, e4, fun g => absurd g (Nat.succ_ne_zero _)⟩
theorem sp_seen {N : Nat} (hN : 12002 ≤ N) : Step_seen N InvP := by
  rintro aQ t σS σT σR σV σQ σD ra σM x1 x2 x3 ht ⟨h, -⟩
  obtain ⟨oh, om, e1, e2, e3, e4⟩ := st_seen N aQ t σS σT σR σV σQ σD ra σM x1 x2 x3 ht h
  exact ⟨oh, om, e1, e2, e3, e4, fun g => absurd g (Nat.succ_ne_zero _)⟩
theorem sp_feed {N : Nat} (hN : 12002 ≤ N) : Step_feed N InvP := by
  rintro aQ t σS σT σR σV σQ σD ra σM x1 x2 x3 x4 x5 ht ⟨h, -⟩
  obtain ⟨oh, om, e1, e2, e3, e4⟩ := st_feed hN aQ t σS σT σR σV σQ σD ra σM x1 x2 x3 x4 x5 ht h
  exact ⟨oh, om, e1, e2, e3, e4, fun g => absurd g (Nat.succ_ne_zero _)⟩
theorem sp_end {N : Nat} (hN : 12002 ≤ N) : Step_end N InvP := by
  rintro aQ t σS σT σR σV σQ σD ra σM x1 ht ⟨h, -⟩
  obtain ⟨oh, om, e1, e2, e3, e4⟩ := st_end N aQ t σS σT σR σV σQ σD ra σM x1 ht h
  exact ⟨oh, om, e1, e2, e3, e4, fun g => absurd g (Nat.succ_ne_zero _)⟩
theorem sp_reign {N : Nat} (hN : 12002 ≤ N) : Step_reign N InvP := by
  rintro aQ t σS σT σR σV σQ σD ra σM x1 x2 ht ⟨h, -⟩
  obtain ⟨oh, om, e1, e2, e3, e4⟩ := st_reign hN aQ t σS σT σR σV σQ σD ra σM x1 x2 ht h
  exact ⟨oh, om, e1, e2, e3, e4, fun g => absurd g (Nat.succ_ne_zero _)⟩
theorem sp_record {N : Nat} (hN : 12002 ≤ N) : Step_record N InvP := by
  rintro aQ t σS σT σR σV σQ σD ra σM x1 ht ⟨h, -⟩
  obtain ⟨oh, om, e1, e2, e3, e4⟩ := st_record hN aQ t σS σT σR σV σQ σD ra σM x1 ht h
  exact ⟨oh, om, e1, e2, e3, e4, fun g => absurd g (Nat.succ_ne_zero _)⟩
theorem sp_fault (N : Nat) : Step_fault N InvP := by
  rintro aQ t σS σT σR σV σQ σD ra σM x1 ht ⟨h, h0⟩
  obtain ⟨a, b, f, v, l, cr, c, q1, q2, q3, q4, q5⟩ := h
  exact ⟨_, _, rfl, rfl, fault_eq ⟨h0 (by omega), q5.2.2.2.1.1⟩ x1, st_none _ _ _ _ _ _ _ _ ⟨a, b, f, v, l, cr, c, q1, q2, q3, q4, q5⟩, fun g => absurd g (Nat.succ_ne_zero _)⟩
theorem sp_means {N : Nat} (hN : 12002 ≤ N) : Step_means N InvP := by
  rintro aQ t σS σT σR σV σQ σD ra σM x1 x2 ht ⟨h, -⟩
  obtain ⟨oh, om, e1, e2, e3, e4⟩ := st_means hN aQ t σS σT σR σV σQ σD ra σM x1 x2 ht h
  exact ⟨oh, om, e1, e2, e3, e4, fun g => absurd g (Nat.succ_ne_zero _)⟩
theorem sp_meant {N : Nat} (hN : 12002 ≤ N) : Step_meant N InvP := by
  rintro aQ t σS σT σR σV σQ σD ra σM x1 x2 x3 ht ⟨h, -⟩
  obtain ⟨oh, om, e1, e2, e3, e4⟩ := st_meant hN aQ t σS σT σR σV σQ σD ra σM x1 x2 x3 ht h
  exact ⟨oh, om, e1, e2, e3, e4, fun g => absurd g (Nat.succ_ne_zero _)⟩
theorem sp_slips {N : Nat} (hN : 12002 ≤ N) : Step_slips N InvP := by
  rintro aQ t σS σT σR σV σQ σD ra σM x1 x2 ht ⟨h, -⟩
  obtain ⟨oh, om, e1, e2, e3, e4⟩ := st_slips hN aQ t σS σT σR σV σQ σD ra σM x1 x2 ht h
  exact ⟨oh, om, e1, e2, e3, e4, fun g => absurd g (Nat.succ_ne_zero _)⟩
theorem sp_lets {N : Nat} (hN : 12002 ≤ N) : Step_lets N InvP := by
  rintro aQ t σS σT σR σV σQ σD ra σM x1 ht ⟨h, -⟩
  obtain ⟨oh, om, e1, e2, e3, e4⟩ := st_lets hN aQ t σS σT σR σV σQ σD ra σM x1 ht h
  exact ⟨oh, om, e1, e2, e3, e4, fun g => absurd g (Nat.succ_ne_zero _)⟩
theorem sp_slow {N : Nat} (hN : 12002 ≤ N) : Step_slow N InvP := by
  rintro aQ t σS σT σR σV σQ σD ra σM x1 ht ⟨h, -⟩
  obtain ⟨oh, om, e1, e2, e3, e4⟩ := st_slow hN aQ t σS σT σR σV σQ σD ra σM x1 ht h
  exact ⟨oh, om, e1, e2, e3, e4, fun g => absurd g (Nat.succ_ne_zero _)⟩
theorem sp_drop {N : Nat} (hN : 12002 ≤ N) : Step_drop N InvP := by
  rintro aQ t σS σT σR σV σQ σD ra σM x1 ht ⟨h, -⟩
  obtain ⟨oh, om, e1, e2, e3, e4⟩ := st_drop hN aQ t σS σT σR σV σQ σD ra σM x1 ht h
  exact ⟨oh, om, e1, e2, e3, e4, fun g => absurd g (Nat.succ_ne_zero _)⟩
theorem steps : Steps 12002 InvP := ⟨sp_tables (Nat.le_refl _), sp_moon (Nat.le_refl _), sp_next (Nat.le_refl _), sp_round (Nat.le_refl _), sp_many (Nat.le_refl _), sp_date (Nat.le_refl _), sp_day (Nat.le_refl _), sp_seen (Nat.le_refl _), sp_feed (Nat.le_refl _), sp_end (Nat.le_refl _), sp_reign (Nat.le_refl _), sp_record (Nat.le_refl _), sp_fault _, sp_means (Nat.le_refl _), sp_meant (Nat.le_refl _), sp_slips (Nat.le_refl _), sp_lets (Nat.le_refl _), sp_slow (Nat.le_refl _), sp_drop (Nat.le_refl _), fun t _ _ _ _ _ _ _ h => ⟨st_none t _ _ _ _ _ _ _ h.1, fun g => absurd g (Nat.succ_ne_zero _)⟩⟩
theorem inv0p : InvP 0 s0S z0 z0 (z0, fun i => i) (fun _ => (z0, 0)) s0D m0 := ⟨inv0, fun _ => by decide⟩
/-- YOUR PART: from the entry, for every script of at most 6 ints, the law comes to its end with true -/
theorem whole_start {p : Program} {e : Env} {s : State} {m : MethodId} {below : List Frame} {meth : Method} {c : Code} (l : Launch) {b L : Nat} {xs : Nat → Int32} (hL : L ≤ 6) (C0 : lw_At p s m meth c b L xs) : W p l e room_1 s m #[Value.ref b] below meth c s.heap [] 0 0 (lw_Z below #[Value.ref b] s) (entryFrame m ([Value.ref b] : List Value).toArray 4) := start_of l steps inv0p hL C0
set_option maxHeartbeats 4000000 in
theorem lw_walk (l : Launch) (b : Addr) (xs : List Int32) : MetFree l x (headSpec (Jvm.Cond.code x code maxLocals ret :: tables_1) room_1) (lw_P b xs) (fun _ _ _ _ _ => True) lw_Q := by
  refine MetFree.of_bodyS (code := code) (maxLocals := maxLocals) (ret := ret) (by decide) ?_ ?_
  · intro args s m h hn
    obtain ⟨meth, c, h1, h2, h3, h4, h5, h6, -, -⟩ := Cond.code_spec hn (atoms_spec (ws := Jvm.Cond.code x code maxLocals ret :: tables_1) h _ List.mem_cons_self)
    exact ⟨meth, c, h1, h2, h3, h4, h5, h6⟩
  · intro p e s m args below meth c s₁ B hml0 hP _
    obtain ⟨rfl, hx, hbd, hgv⟩ := hP
    obtain ⟨scr, harrAt, hlist, hof, hsmall⟩ := hx
    obtain ⟨hcb, hkn, -, -⟩ := State.arrayAt?_spec harrAt
    have hown : s.vm.findClass R_law = some m.cls := findClass_of_methodNamed B.named
    have hts0 : ∀ c ∈ (Jvm.Cond.code x code maxLocals ret :: tables_1), c.before #[Value.ref b] s = true := atoms_spec (ws := Jvm.Cond.code x code maxLocals ret :: tables_1) B.pre
    have hts : ∀ w ∈ lw_tbl, w.before #[Value.ref b] s = true := k2_hts_sels lw_privs (fun w hw => hts0 w (List.mem_cons_of_mem _ hw)) lw_privs_ok
    have hml : c.maxLocals = 4 := B.maxLocals_eq (hts0 _ List.mem_cons_self)
    have X₀ : Stand p l e room_1 s m #[Value.ref b] below meth c s₁ [] 0 0 := Stand.of_body B
    have hh0 : s₁.heap = s.heap := by rw [B.state]; rfl
    have hsz : scr.slots.size = xs.length := by rw [← Array.length_toList, hlist, List.length_map]
    have hval : ∀ j : Nat, j < xs.length → scr.slots[j]? = some (.int (xs.getD j 0)) := fun j hj => by
      rw [← Array.getElem?_toList, hlist]
      simp [hj]
    have hbl : b < s.heap.size := (Array.getElem?_eq_some_iff.mp hcb).1
    have hX : va_X b xs.length (fun j => xs.getD j 0) s s.heap := ⟨scr, hcb, hof, hkn, hsz, hval⟩
    have K : W p l e room_1 s m #[Value.ref b] below meth c s₁.heap [] 0 0 (lw_Z below #[Value.ref b] s) (entryFrame m ([Value.ref b] : List Value).toArray 4) := by
      rw [hh0]
      exact whole_start l hbd ⟨B.exec, B.bytes, B.returns, hml, hown, hts, hX, hbl, B.notSynchronized, hgv⟩
    obtain ⟨t, a1, o, b1, b2, b3⟩ := K s₁ rfl X₀
    exact ⟨t, o, a1, b1, b2, b3⟩
theorem lw_pre_spec {args : Array Value} {s : State} (h : (Jvm.Cond.and given_1 narrow_1).before args s = true) (hr : rest_1_c.before args s = true) : ∃ (b : Addr) (xs : List Int32), lw_P b xs args s := by
  have hs := flat_of_before _ h
  have hq := flat_of_before _ hr
  have hc : (Cond.count 1).before args s = true := hs _ (by decide +kernel)
  have harr : (Cond.arrayOf (.arg 0) .int).before args s = true := hs _ (by decide +kernel)
  have hle : (Cond.le (.length (.arg 0)) (.int 6)).before args s = true := hs _ (by decide +kernel)
  have hlen : (Cond.isInt (.length (.arg 0))).before args s = true := hq _ (by decide +kernel)
  have hall : (Cond.all (.arg 0) (.isInt (.elem (.arg 0) (.index 0)))).before args s = true := hq _ (by decide +kernel)
  obtain ⟨b, xs, hb, hx⟩ := State.ints_of_pre rfl harr hlen hall
  have hsm : xs.length < 2 ^ 31 := hx.choose_spec.2.2.2
  have hev : (Term.length (.arg 0)).eval args s none [] s = some (.int xs.length.toInt32) := hx.length_eval hb
  have hv := Cond.le_ints hev (show (Term.int 6).eval args s none [] s = some (.int 6) from rfl)
  have hd : xs.length.toInt32 ≤ 6 := by
    simpa [Cond.before, Cond.holds, hv] using hle
  have hN : xs.length ≤ 6 := (Int32.ofNat_le_ofNat hsm (by decide)).mp (show Int32.ofNat xs.length ≤ Int32.ofNat 6 from hd)
  exact ⟨b, xs, Cond.one_arg hc (show args[0]? = some (.ref b) from hb), hx, hN, h⟩
theorem lw_comes (l : Launch) : Comes l x (Jvm.Cond.code x code maxLocals ret :: tables_1) room_1 (fun tb e args s => Calls_1 tb e args s ∧ rest_1 tb e args s ∧ Pre_1 tb e args s)
    (fun _ _ args s o t => lw_Q args s o t) := by
  intro p e ha hc hk s m args below hf hfit hheap happ hpre
  obtain ⟨b, xs, hP⟩ := lw_pre_spec hpre.2.2 hpre.2.1
  obtain ⟨k, o, h1, h2, h3, hQ⟩ := lw_walk l b xs p e ha hc hk s m args below hf ((Spec.applies_iff_loose hf).mp happ).1 hP trivial
  exact ⟨k, o, h1, h2, h3, hQ⟩
theorem lw_frame {s t : State} {o : Outcome} {args : Array Value} (h : Framed s o t [] 600000 7302250) :
    Framed s o t (fieldLocs frame_1_writes args s ++ arrayLocs frame_1_arrays args s ++ staticLocs frame_1_statics s) 600000 7302250 := h
theorem lw_limb (L : Cond) (hL : ∀ (args : Array Value) (s t : State), L.after args s (.returned (some (.int 1))) t = true) :
    ArmFor flags0 classFile x code maxLocals ret World_1 tables_1 room_1 Calls_1 rest_1 Pre_1
      (fun tb e a s o t => postC L tb e a s o t ∧ Framed s o t (fieldLocs frame_1_writes a s ++ arrayLocs frame_1_arrays a s ++ staticLocs frame_1_statics s) 600000 7302250) := by
  intro l _ _ _ p e ha hc hk s m args below hf hfit hheap happ hpre
  obtain ⟨k, o, h1, h2, h3, rfl, hF⟩ := lw_comes l p e ha hc hk s m args below hf hfit hheap happ hpre
  exact ⟨k, _, h1, h2, h3, hL args s _, lw_frame hF⟩
theorem i_vc : Claimed_1_1 ∧ Claimed_1_2 := ⟨lw_limb limb_1_1 (fun args s t => by simp [limb_1_1, Cond.after, Cond.holds, Cond.value]), lw_limb limb_1_2 (fun args s t => Cond.after_iff.mpr (by
  first | (rw [show limb_1_2 = Cond.eq .result (.int 1) from rfl, Cond.eq_ints (x := 1) (y := 1) rfl rfl]; simp; done) | (simp [limb_1_2, Cond.value, Term.eval]; done)))⟩
