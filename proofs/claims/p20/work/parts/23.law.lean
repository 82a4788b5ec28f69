def R_law : String := "EclipseHouseLaw"
def lw_P (b : Addr) (xs : List Int32) (args : Array Value) (s : State) : Prop := args = #[.ref b] ∧ s.IntsAt b xs ∧ xs.length ≤ 3072 ∧ (Jvm.Cond.and given_1 narrow_1).before args s = true
def lw_Q (_ : Array Value) (s : State) (o : Outcome) (t : State) : Prop := o = .returned (some (.int 1)) ∧ Framed s o t [] 600000 7302250
def lw_Z (below : List Frame) (a : Array Value) (s : State) : State → Prop := fun t => ∃ o, t.status = .running ∧ Ended t below o ∧ lw_Q a s o t
/-- the law's own end, with 1 on the stack, nothing written that was there before, its room as the claim has it -/
theorem lw_ret {p : Program} {l : Launch} {e : Env} {s : State} {m : MethodId} {below : List Frame} {meth : Method} {c : Code} {b : Nat} (hx : p.tables.exec = Jvm.exec) (hb : c.code = code) (hr : meth.sig.returnType = ret) (hlocks : meth.locks = false) {pc : Nat} {H : Heap} {ls : Array Slot} (hdg : decode code pc = .ok (.ireturn, 1)) : W p l e room_1 s m #[Value.ref b] below meth c H [] 600000 7302250 (lw_Z below #[Value.ref b] s) (F0 m pc ls [.int 1]) := by
  intro T hT X
  obtain ⟨fs, hret, hrun, hended, hW, hframe⟩ := X.leave (v := some (.int 1)) (hlocks := hlocks) (fun h => by rw [hr] at h; cases h)
  have hmeth' : T.vm.method? m = some meth := X.method'
  refine ⟨T.setFrames fs, ?_, .returned (some (.int 1)), hrun, hended, rfl, ⟨_, rfl⟩, hW, hframe⟩
  jvm_step X.here [X.here.top, hx, hb, hdg, hmeth', hr, ret, narrow_b1]
  (try refine ⟨rfl, ?_⟩); (try refine ⟨rfl, ?_⟩)
  first | (intro acts; rw [hret _ acts rfl rfl rfl]) | rw [hret _ _ rfl rfl rfl]
  exact Steps.refl _
/-- what holds at the law's entry: the machine, the code, the tables' words (any of lw_tbl by 'hts w (by decide +kernel)'), the script of L ints xs at the cell b, what the Statement gives of the start (any of its parts by flat_of_before) -/
def lw_At (p : Program) (s : State) (m : MethodId) (meth : Method) (c : Code) (b L : Nat) (xs : Nat → Int32) : Prop :=
  p.tables.exec = Jvm.exec ∧ c.code = code ∧ meth.sig.returnType = ret ∧ c.maxLocals = 4 ∧ s.vm.findClass R_law = some m.cls ∧ (∀ w ∈ lw_tbl, w.before #[Value.ref b] s = true) ∧ va_X b L xs s s.heap ∧ b < s.heap.size ∧ meth.locks = false ∧ (Jvm.Cond.and given_1 narrow_1).before #[Value.ref b] s = true
theorem law_end {p : Program} {l : Launch} {e : Env} {s : State} {m : MethodId} {below : List Frame} {meth : Method} {c : Code} {b : Nat} {D : va_G} {w : va_W} {pc : Nat} {lv : List (Nat × Value)} (F : Fx p s m #[Value.ref b] meth c code R_law 4 ret) (d : decode code pc = .ok (.ireturn, 1)) : J p l e room_1 s m #[Value.ref b] below meth c 4 (hW D (fun q => s.heap.size ≤ q) s w) 61 42210 (lw_Z below #[Value.ref b] s) pc lv [.int 1] := by
  intro H locs ls hH hl
  refine va_forget (fun q hq => hH.2.2.2.2 q hq) ?_
  refine W.widen (k := 600000) (n := 7302250) (by decide) (by decide) ?_
  exact lw_ret F.1 F.2.1 F.2.2.1 F.2.2.2.2.2.2 d
def Step_tables (N : Nat) (Inv : Nat → St2 → St2 → St2 → St2 × (Nat → Nat) → (Nat → (St2 × Int64)) → St2 → St2 × (Nat → Int64) → Prop) : Prop := ∀ (aQ : Nat → Nat → Nat) (t : Nat) (σS σT σR : St2) (σV : St2 × (Nat → Nat)) (σQ : Nat → (St2 × Int64)) (σD : St2) (ra : Value) (σM : St2 × (Nat → Int64)) (x1 x2 x3 : Int32), t < 512 → Inv t σS σT σR σV σQ σD σM → ∃ (oh : Bool × St2) (om : Bool × (St2 × (Nat → Int64))), f_X7_tables σS σT σR σV σQ σD ra x1 x2 x3 = oh ∧ f_X8_tables σM x1 x2 x3 = om ∧ Inv (t + 1) oh.2 σT σR σV σQ σD om.2
def Step_moon (N : Nat) (Inv : Nat → St2 → St2 → St2 → St2 × (Nat → Nat) → (Nat → (St2 × Int64)) → St2 → St2 × (Nat → Int64) → Prop) : Prop := ∀ (aQ : Nat → Nat → Nat) (t : Nat) (σS σT σR : St2) (σV : St2 × (Nat → Nat)) (σQ : Nat → (St2 × Int64)) (σD : St2) (ra : Value) (σM : St2 × (Nat → Int64)) (x1 x2 : Int32), t < 512 → Inv t σS σT σR σV σQ σD σM → ∃ (oh : Int32) (om : Int32), f_X7_moon σS σT σR σV σQ σD ra x1 x2 = some oh ∧ f_X8_moon σM x1 x2 = some om ∧ Inv (t + 1) σS σT σR σV σQ σD σM
def Step_next (N : Nat) (Inv : Nat → St2 → St2 → St2 → St2 × (Nat → Nat) → (Nat → (St2 × Int64)) → St2 → St2 × (Nat → Int64) → Prop) : Prop := ∀ (aQ : Nat → Nat → Nat) (t : Nat) (σS σT σR : St2) (σV : St2 × (Nat → Nat)) (σQ : Nat → (St2 × Int64)) (σD : St2) (ra : Value) (σM : St2 × (Nat → Int64)) (x1 x2 x3 : Int32), t < 512 → Inv t σS σT σR σV σQ σD σM → ∃ (oh : Int32 × St2) (om : Int32 × (St2 × (Nat → Int64))), f_X7_next N σS σT σR σV σQ σD ra x1 x2 x3 = some oh ∧ f_X8_next N σM x1 x2 x3 = some om ∧ Inv (t + 1) oh.2 σT σR σV σQ σD om.2
def Step_round (N : Nat) (Inv : Nat → St2 → St2 → St2 → St2 × (Nat → Nat) → (Nat → (St2 × Int64)) → St2 → St2 × (Nat → Int64) → Prop) : Prop := ∀ (aQ : Nat → Nat → Nat) (t : Nat) (σS σT σR : St2) (σV : St2 × (Nat → Nat)) (σQ : Nat → (St2 × Int64)) (σD : St2) (ra : Value) (σM : St2 × (Nat → Int64)) (x1 x2 : Int32), t < 512 → Inv t σS σT σR σV σQ σD σM → ∃ (oh : Int32) (om : Int32), f_X7_round N σS σT σR σV σQ σD ra x1 x2 = some oh ∧ f_X8_round N σM x1 x2 = some om ∧ Inv (t + 1) σS σT σR σV σQ σD σM
def Step_many (N : Nat) (Inv : Nat → St2 → St2 → St2 → St2 × (Nat → Nat) → (Nat → (St2 × Int64)) → St2 → St2 × (Nat → Int64) → Prop) : Prop := ∀ (aQ : Nat → Nat → Nat) (t : Nat) (σS σT σR : St2) (σV : St2 × (Nat → Nat)) (σQ : Nat → (St2 × Int64)) (σD : St2) (ra : Value) (σM : St2 × (Nat → Int64)) (x1 x2 x3 : Int32), t < 512 → Inv t σS σT σR σV σQ σD σM → ∃ (oh : Int32 × St2) (om : Int32 × (St2 × (Nat → Int64))), f_X7_many N σS σT σR σV σQ σD ra x1 x2 x3 = some oh ∧ f_X8_many N σM x1 x2 x3 = some om ∧ Inv (t + 1) oh.2 σT σR σV σQ σD om.2
def Step_date (N : Nat) (Inv : Nat → St2 → St2 → St2 → St2 × (Nat → Nat) → (Nat → (St2 × Int64)) → St2 → St2 × (Nat → Int64) → Prop) : Prop := ∀ (aQ : Nat → Nat → Nat) (t : Nat) (σS σT σR : St2) (σV : St2 × (Nat → Nat)) (σQ : Nat → (St2 × Int64)) (σD : St2) (ra : Value) (σM : St2 × (Nat → Int64)) (x1 x2 x3 : Int32), t < 512 → Inv t σS σT σR σV σQ σD σM → ∃ (oh : Int32) (om : Int32 × (St2 × (Nat → Int64))), f_X7_date N σS σT σR σV σQ σD ra x1 x2 x3 = some oh ∧ f_X8_date N σM x1 x2 x3 = some om ∧ Inv (t + 1) σS σT σR σV σQ σD om.2
def Step_day (N : Nat) (Inv : Nat → St2 → St2 → St2 → St2 × (Nat → Nat) → (Nat → (St2 × Int64)) → St2 → St2 × (Nat → Int64) → Prop) : Prop := ∀ (aQ : Nat → Nat → Nat) (t : Nat) (σS σT σR : St2) (σV : St2 × (Nat → Nat)) (σQ : Nat → (St2 × Int64)) (σD : St2) (ra : Value) (σM : St2 × (Nat → Int64)) (x1 x2 x3 x4 : Int32), t < 512 → Inv t σS σT σR σV σQ σD σM → ∃ (oh : Int32) (om : Int32), f_X7_day N σS σT σR σV σQ σD ra x1 x2 x3 x4 = some oh ∧ f_X8_day N σM x1 x2 x3 x4 = some om ∧ Inv (t + 1) σS σT σR σV σQ σD σM
def Step_seen (N : Nat) (Inv : Nat → St2 → St2 → St2 → St2 × (Nat → Nat) → (Nat → (St2 × Int64)) → St2 → St2 × (Nat → Int64) → Prop) : Prop := ∀ (aQ : Nat → Nat → Nat) (t : Nat) (σS σT σR : St2) (σV : St2 × (Nat → Nat)) (σQ : Nat → (St2 × Int64)) (σD : St2) (ra : Value) (σM : St2 × (Nat → Int64)) (x1 x2 x3 : Int32), t < 512 → Inv t σS σT σR σV σQ σD σM → ∃ (oh : Int32) (om : Int32), f_X7_seen σS σT σR σV σQ σD ra x1 x2 x3 = some oh ∧ f_X8_seen σM x1 x2 x3 = some om ∧ Inv (t + 1) σS σT σR σV σQ σD σM
def Step_feed (N : Nat) (Inv : Nat → St2 → St2 → St2 → St2 × (Nat → Nat) → (Nat → (St2 × Int64)) → St2 → St2 × (Nat → Int64) → Prop) : Prop := ∀ (aQ : Nat → Nat → Nat) (t : Nat) (σS σT σR : St2) (σV : St2 × (Nat → Nat)) (σQ : Nat → (St2 × Int64)) (σD : St2) (ra : Value) (σM : St2 × (Nat → Int64)) (x1 x2 x3 x4 x5 : Int32), t < 512 → Inv t σS σT σR σV σQ σD σM → ∃ (oh : Int32 × St2) (om : Int32 × (St2 × (Nat → Int64))), f_X7_feed N σS σT σR σV σQ σD ra x1 x2 x3 x4 x5 = some oh ∧ f_X8_feed N σM x1 x2 x3 x4 x5 = some om ∧ Inv (t + 1) σS oh.2 σR σV σQ σD om.2
def Step_end (N : Nat) (Inv : Nat → St2 → St2 → St2 → St2 × (Nat → Nat) → (Nat → (St2 × Int64)) → St2 → St2 × (Nat → Int64) → Prop) : Prop := ∀ (aQ : Nat → Nat → Nat) (t : Nat) (σS σT σR : St2) (σV : St2 × (Nat → Nat)) (σQ : Nat → (St2 × Int64)) (σD : St2) (ra : Value) (σM : St2 × (Nat → Int64)) (x1 : Int32), t < 512 → Inv t σS σT σR σV σQ σD σM → ∃ (oh : Bool × St2) (om : Bool × (St2 × (Nat → Int64))), f_X7_end σS σT σR σV σQ σD ra x1 = oh ∧ f_X8_end σM x1 = om ∧ Inv (t + 1) σS oh.2 σR σV σQ σD om.2
def Step_reign (N : Nat) (Inv : Nat → St2 → St2 → St2 → St2 × (Nat → Nat) → (Nat → (St2 × Int64)) → St2 → St2 × (Nat → Int64) → Prop) : Prop := ∀ (aQ : Nat → Nat → Nat) (t : Nat) (σS σT σR : St2) (σV : St2 × (Nat → Nat)) (σQ : Nat → (St2 × Int64)) (σD : St2) (ra : Value) (σM : St2 × (Nat → Int64)) (x1 x2 : Int32), t < 512 → Inv t σS σT σR σV σQ σD σM → ∃ (oh : Int32 × St2 × St2) (om : Int32 × (St2 × (Nat → Int64))), f_X7_reign N σS σT σR σV σQ σD ra x1 x2 = some oh ∧ f_X8_reign N σM x1 x2 = some om ∧ Inv (t + 1) σS oh.2.1 oh.2.2 σV σQ σD om.2
def Step_record (N : Nat) (Inv : Nat → St2 → St2 → St2 → St2 × (Nat → Nat) → (Nat → (St2 × Int64)) → St2 → St2 × (Nat → Int64) → Prop) : Prop := ∀ (aQ : Nat → Nat → Nat) (t : Nat) (σS σT σR : St2) (σV : St2 × (Nat → Nat)) (σQ : Nat → (St2 × Int64)) (σD : St2) (ra : Value) (σM : St2 × (Nat → Int64)) (x1 : Int32), t < 512 → Inv t σS σT σR σV σQ σD σM → ∃ (oh : Int32 × St2 × (St2 × (Nat → Nat)) × (Nat → (St2 × Int64)) × St2 × Value) (om : Int32 × (St2 × (Nat → Int64))), f_X7_record aQ N σS σT σR σV σQ σD ra x1 = some oh ∧ f_X8_record N σM x1 = some om ∧ Inv (t + 1) σS oh.2.1 σR oh.2.2.1 oh.2.2.2.1 oh.2.2.2.2.1 om.2
def Step_fault (N : Nat) (Inv : Nat → St2 → St2 → St2 → St2 × (Nat → Nat) → (Nat → (St2 × Int64)) → St2 → St2 × (Nat → Int64) → Prop) : Prop := ∀ (aQ : Nat → Nat → Nat) (t : Nat) (σS σT σR : St2) (σV : St2 × (Nat → Nat)) (σQ : Nat → (St2 × Int64)) (σD : St2) (ra : Value) (σM : St2 × (Nat → Int64)) (x1 : Int32), t < 512 → Inv t σS σT σR σV σQ σD σM → ∃ (oh : Int32) (om : Int32), f_X7_fault σS σT σR σV σQ σD ra x1 = oh ∧ f_X8_fault σM x1 = om ∧ Inv (t + 1) σS σT σR σV σQ σD σM
def Step_means (N : Nat) (Inv : Nat → St2 → St2 → St2 → St2 × (Nat → Nat) → (Nat → (St2 × Int64)) → St2 → St2 × (Nat → Int64) → Prop) : Prop := ∀ (aQ : Nat → Nat → Nat) (t : Nat) (σS σT σR : St2) (σV : St2 × (Nat → Nat)) (σQ : Nat → (St2 × Int64)) (σD : St2) (ra : Value) (σM : St2 × (Nat → Int64)) (x1 x2 : Int32), t < 512 → Inv t σS σT σR σV σQ σD σM → ∃ (oh : Int32 × St2) (om : Int32 × (St2 × (Nat → Int64))), f_X7_means N σS σT σR σV σQ σD ra x1 x2 = some oh ∧ f_X8_means N σM x1 x2 = some om ∧ Inv (t + 1) oh.2 σT σR σV σQ σD om.2
def Step_meant (N : Nat) (Inv : Nat → St2 → St2 → St2 → St2 × (Nat → Nat) → (Nat → (St2 × Int64)) → St2 → St2 × (Nat → Int64) → Prop) : Prop := ∀ (aQ : Nat → Nat → Nat) (t : Nat) (σS σT σR : St2) (σV : St2 × (Nat → Nat)) (σQ : Nat → (St2 × Int64)) (σD : St2) (ra : Value) (σM : St2 × (Nat → Int64)) (x1 x2 x3 : Int32), t < 512 → Inv t σS σT σR σV σQ σD σM → ∃ (oh : Int32 × St2) (om : Int32 × (St2 × (Nat → Int64))), f_X7_meant N σS σT σR σV σQ σD ra x1 x2 x3 = some oh ∧ f_X8_meant N σM x1 x2 x3 = some om ∧ Inv (t + 1) oh.2 σT σR σV σQ σD om.2
def Step_slips (N : Nat) (Inv : Nat → St2 → St2 → St2 → St2 × (Nat → Nat) → (Nat → (St2 × Int64)) → St2 → St2 × (Nat → Int64) → Prop) : Prop := ∀ (aQ : Nat → Nat → Nat) (t : Nat) (σS σT σR : St2) (σV : St2 × (Nat → Nat)) (σQ : Nat → (St2 × Int64)) (σD : St2) (ra : Value) (σM : St2 × (Nat → Int64)) (x1 x2 : Int32), t < 512 → Inv t σS σT σR σV σQ σD σM → ∃ (oh : Int32 × St2) (om : Int32 × (St2 × (Nat → Int64))), f_X7_slips N σS σT σR σV σQ σD ra x1 x2 = some oh ∧ f_X8_slips N σM x1 x2 = some om ∧ Inv (t + 1) oh.2 σT σR σV σQ σD om.2
def Step_lets (N : Nat) (Inv : Nat → St2 → St2 → St2 → St2 × (Nat → Nat) → (Nat → (St2 × Int64)) → St2 → St2 × (Nat → Int64) → Prop) : Prop := ∀ (aQ : Nat → Nat → Nat) (t : Nat) (σS σT σR : St2) (σV : St2 × (Nat → Nat)) (σQ : Nat → (St2 × Int64)) (σD : St2) (ra : Value) (σM : St2 × (Nat → Int64)) (x1 : Int32), t < 512 → Inv t σS σT σR σV σQ σD σM → ∃ (oh : Int32 × St2 × (Nat → (St2 × Int64))) (om : Int32 × (St2 × (Nat → Int64))), f_X7_lets N σS σT σR σV σQ σD ra x1 = some oh ∧ f_X8_lets N σM x1 = some om ∧ Inv (t + 1) oh.2.1 σT σR σV oh.2.2 σD om.2
def Step_slow (N : Nat) (Inv : Nat → St2 → St2 → St2 → St2 × (Nat → Nat) → (Nat → (St2 × Int64)) → St2 → St2 × (Nat → Int64) → Prop) : Prop := ∀ (aQ : Nat → Nat → Nat) (t : Nat) (σS σT σR : St2) (σV : St2 × (Nat → Nat)) (σQ : Nat → (St2 × Int64)) (σD : St2) (ra : Value) (σM : St2 × (Nat → Int64)) (x1 : Int32), t < 512 → Inv t σS σT σR σV σQ σD σM → ∃ (oh : Int32 × St2 × (Nat → (St2 × Int64))) (om : Int32 × (St2 × (Nat → Int64))), f_X7_slow N σS σT σR σV σQ σD ra x1 = some oh ∧ f_X8_slow N σM x1 = some om ∧ Inv (t + 1) oh.2.1 σT σR σV oh.2.2 σD om.2
def Step_drop (N : Nat) (Inv : Nat → St2 → St2 → St2 → St2 × (Nat → Nat) → (Nat → (St2 × Int64)) → St2 → St2 × (Nat → Int64) → Prop) : Prop := ∀ (aQ : Nat → Nat → Nat) (t : Nat) (σS σT σR : St2) (σV : St2 × (Nat → Nat)) (σQ : Nat → (St2 × Int64)) (σD : St2) (ra : Value) (σM : St2 × (Nat → Int64)) (x1 : Int32), t < 512 → Inv t σS σT σR σV σQ σD σM → ∃ (oh : Int32 × (St2 × (Nat → Nat))) (om : Int32 × (St2 × (Nat → Int64))), f_X7_drop N σS σT σR σV σQ σD ra x1 = some oh ∧ f_X8_drop N σM x1 = some om ∧ oh.1 = om.1 ∧ Inv (t + 1) σS σT σR oh.2 σQ σD om.2
def Steps (N : Nat) (Inv : Nat → St2 → St2 → St2 → St2 × (Nat → Nat) → (Nat → (St2 × Int64)) → St2 → St2 × (Nat → Int64) → Prop) : Prop := Step_tables N Inv ∧ Step_moon N Inv ∧ Step_next N Inv ∧ Step_round N Inv ∧ Step_many N Inv ∧ Step_date N Inv ∧ Step_day N Inv ∧ Step_seen N Inv ∧ Step_feed N Inv ∧ Step_end N Inv ∧ Step_reign N Inv ∧ Step_record N Inv ∧ Step_fault N Inv ∧ Step_means N Inv ∧ Step_meant N Inv ∧ Step_slips N Inv ∧ Step_lets N Inv ∧ Step_slow N Inv ∧ Step_drop N Inv ∧ (∀ (t : Nat) (σS σT σR : St2) (σV : St2 × (Nat → Nat)) (σQ : Nat → (St2 × Int64)) (σD : St2) (σM : St2 × (Nat → Int64)), Inv t σS σT σR σV σQ σD σM → Inv (t + 1) σS σT σR σV σQ σD σM)
section LAWR
variable {p : Program} {l : Launch} {e : Env} {R : Room} {s : State} {m : MethodId} {args : Array Value} {below : List Frame} {meth : Method} {c : Code}
variable {cc : ByteArray} {own : String} {nL : Nat} {ret : Option FieldType} {Q : State → Prop} {ce sl : Nat}
variable {pc : Nat} {lv : List (Nat × Value)} {st : List Value} {D : va_G} {A : Nat → Prop} {w : va_W}
theorem jl_ld (F : Fx p s m args meth c cc own nL ret) {b L k : Nat} {xs : Nat → Int32} {x : Int32} (hX : va_X b L xs s s.heap) (hbl : b < s.heap.size) (hbA : ¬ A b) (hL : L < 2 ^ 31) (hx : x = nI k) (hk : k < L) (d : decode cc pc = .ok (.iaload, 1)) (kk : J p l e R s m args below meth c nL (hW D A s w) ce sl Q (pc + 1) lv (.int (xs k) :: st)) : J p l e R s m args below meth c nL (hW D A s w) ce sl Q pc lv (.int x :: .ref b :: st) := by
  subst hx
  intro H locs ls hH hl
  refine va_sld F.1 F.2.1 hX hbl hbA hH.2.2 (vp_in_nI hk hL) d ?_
  rw [nI_clamp (by omega)]
  exact kk H locs ls hH hl
theorem jl_len (F : Fx p s m args meth c cc own nL ret) {b L : Nat} {xs : Nat → Int32} (hX : va_X b L xs s s.heap) (hbl : b < s.heap.size) (hbA : ¬ A b) (d : decode cc pc = .ok (.arraylength, 1)) (kk : J p l e R s m args below meth c nL (hW D A s w) ce sl Q (pc + 1) lv (.int (nI L) :: st)) : J p l e R s m args below meth c nL (hW D A s w) ce sl Q pc lv (.ref b :: st) :=
  fun H locs ls hH hl => va_slen F.1 F.2.1 hX hbl hbA hH.2.2 d (kk H locs ls hH hl)
end LAWR
theorem law_more {L t : Nat} (hL : L ≤ 3072) (ht : 6 * t ≤ 3072 + 6) (h : ¬ nI L - 6 < nI (6 * t)) : 6 * t + 6 ≤ L := by
  have e1 : (nI L - nI 6).toInt = (L : Int) - (6 : Nat) := pk_sub_toInt (by omega) (by omega)
  have e2 : (nI (6 * t)).toInt = ((6 * t : Nat) : Int) := nI_toInt (by omega)
  have h2 : ¬ (nI L - nI 6).toInt < (nI (6 * t)).toInt := fun z => h (Int32.lt_iff_toInt_lt.mpr z)
  rw [e1, e2] at h2
  omega
set_option maxHeartbeats 4000000 in
set_option maxRecDepth 100000 in
theorem law_loop {p : Program} {l : Launch} {e : Env} {s : State} {m : MethodId} {below : List Frame} {meth : Method} {c : Code} {D : va_G} {cy : Nat → ClassId} {g : Gs} {b L : Nat} {xs : Nat → Int32} {N : Nat} {Inv : Nat → St2 → St2 → St2 → St2 × (Nat → Nat) → (Nat → (St2 × Int64)) → St2 → St2 × (Nat → Int64) → Prop} {aH aS aT aR aV aD aM : Nat → Nat} {aQ : Nat → Nat → Nat} (hI : Steps N Inv) (hL : L ≤ 3072) (F : Fx p s m #[Value.ref b] meth c code R_law 4 ret) (hK : va_K D vwCl (tys cy) s) (hS : St g (fun q => s.heap.size ≤ q) s s.heap) (hX : va_X b L xs s s.heap) (hbl : b < s.heap.size) :
    ∀ (n t : Nat) (σS σT σR : St2) (σV : St2 × (Nat → Nat)) (σQ : Nat → (St2 × Int64)) (σD : St2) (ra : Value) (σM : St2 × (Nat → Int64)), 6 * t ≤ 3072 + 6 → L + 6 ≤ 6 * t + 6 * n → Inv t σS σT σR σV σQ σD σM → J p l e room_1 s m #[Value.ref b] below meth c 4 (hW D (fun q => s.heap.size ≤ q) s (wHs aH aS aT aR aV aD aQ cy σS σT σR σV σQ σD ra ++ wM aM cy σM)) 61 42210 (lw_Z below #[Value.ref b] s) 18 [(0, .ref b), (1, .ref (aH 0)), (2, .ref (aM 0)), (3, .int (nI (6 * t)))] [] := by
  have hA : ∀ q : Nat, s.heap.size ≤ q → (fun q : Nat => s.heap.size ≤ q) q := fun _ h => h
  have hbA : ¬ (fun q : Nat => s.heap.size ≤ q) b := Nat.not_le.mpr hbl
  have hL31 : L < 2 ^ 31 := by omega
  have hce : 61 ≤ room_1.cells ∧ 42210 ≤ room_1.slots := ⟨Nat.le_of_ble_eq_true rfl, Nat.le_of_ble_eq_true rfl⟩
  intro n
  induction n with
  | zero =>
    intro t σS σT σR σV σQ σD ra σM h6 hn hInv
    refine j_iload_n (pc := 18) F 3 dL_law_18 rfl rfl ?_
    refine j_aload_n (pc := 19) F 0 dL_law_19 rfl rfl ?_
    refine jl_len (pc := 20) F hX hbl hbA dL_law_20 ?_
    refine j_bipush (pc := 21) F (v := 6) dL_law_21 rfl ?_
    refine j_isub (pc := 23) F dL_law_23 ?_
    refine j_icmp_gt (pc := 24) (tgt := 807) F dL_law_24 rfl (fun _ => ?_) (fun h => ?_)
    · refine j_iconst (pc := 807) F (v := 1) dL_law_807 rfl ?_
      exact law_end F dL_law_808
    · have := law_more hL h6 h
      omega
  | succ n ih =>
    intro t σS σT σR σV σQ σD ra σM h6 hn hInv
    refine j_iload_n (pc := 18) F 3 dL_law_18 rfl rfl ?_
    refine j_aload_n (pc := 19) F 0 dL_law_19 rfl rfl ?_
    refine jl_len (pc := 20) F hX hbl hbA dL_law_20 ?_
    refine j_bipush (pc := 21) F (v := 6) dL_law_21 rfl ?_
    refine j_isub (pc := 23) F dL_law_23 ?_
    refine j_icmp_gt (pc := 24) (tgt := 807) F dL_law_24 rfl (fun _ => ?_) (fun h => ?_)
    · refine j_iconst (pc := 807) F (v := 1) dL_law_807 rfl ?_
      exact law_end F dL_law_808
    have hlt := law_more hL h6 h
    have ht : t < 512 := by omega
    have nx : ∀ (σS σT σR : St2) (σV : St2 × (Nat → Nat)) (σQ : Nat → (St2 × Int64)) (σD : St2) (ra : Value) (σM : St2 × (Nat → Int64)), Inv (t + 1) σS σT σR σV σQ σD σM → J p l e room_1 s m #[Value.ref b] below meth c 4 (hW D (fun q => s.heap.size ≤ q) s (wHs aH aS aT aR aV aD aQ cy σS σT σR σV σQ σD ra ++ wM aM cy σM)) 61 42210 (lw_Z below #[Value.ref b] s) 801 [(0, .ref b), (1, .ref (aH 0)), (2, .ref (aM 0)), (3, .int (nI (6 * t)))] [] := by
      intro σS σT σR σV σQ σD ra σM hInv
      refine j_iinc (pc := 801) (v := nI (6 * (t + 1))) (lv' := [(3, .int (nI (6 * (t + 1)))), (0, .ref b), (1, .ref (aH 0)), (2, .ref (aM 0))]) F 3 dL_law_801 rfl (nI_add (6 * t) 6) (by decide) rfl ?_
      refine j_goto (pc := 804) (tgt := 18) F dL_law_804 rfl ?_
      refine j_sub [1, 2, 3, 0] rfl ?_
      exact ih (t + 1) σS σT σR σV σQ σD ra σM (by omega) (by omega) hInv
    refine j_aload_n (pc := 27) F 0 dL_law_27 rfl rfl ?_
    refine j_iload_n (pc := 28) F 3 dL_law_28 rfl rfl ?_
    refine jl_ld (pc := 29) F hX hbl hbA hL31 rfl (by omega) dL_law_29 ?_
    refine j_bipush (pc := 30) F (v := 31) dL_law_30 rfl ?_
    refine j_iand (pc := 32) F dL_law_32 ?_
    generalize xs (6 * t) &&& 31 = op
    by_cases c_0 : op = 0
    · refine j_tabIn (pc := 33) (tgt := 124) F 0 dL_law_33 c_0 (by decide) (by decide) rfl rfl ?_
      obtain ⟨oh, om, eh, em, hInv⟩ := hI.1 aQ t σS σT σR σV σQ σD ra σM (xs (6 * t + 1)) (xs (6 * t + 2)) (xs (6 * t + 3)) ht hInv
      refine j_aload_n (pc := 124) F 1 dL_law_124 rfl rfl ?_
      refine j_aload_n (pc := 125) F 0 dL_law_125 rfl rfl ?_
      refine j_iload_n (pc := 126) F 3 dL_law_126 rfl rfl ?_
      refine j_iconst (pc := 127) F (v := 1) dL_law_127 rfl ?_
      refine j_iadd (pc := 128) F dL_law_128 ?_
      refine jl_ld (pc := 129) F hX hbl hbA hL31 (nI_add (6 * t) 1) (by omega) dL_law_129 ?_
      refine j_aload_n (pc := 130) F 0 dL_law_130 rfl rfl ?_
      refine j_iload_n (pc := 131) F 3 dL_law_131 rfl rfl ?_
      refine j_iconst (pc := 132) F (v := 2) dL_law_132 rfl ?_
      refine j_iadd (pc := 133) F dL_law_133 ?_
      refine jl_ld (pc := 134) F hX hbl hbA hL31 (nI_add (6 * t) 2) (by omega) dL_law_134 ?_
      refine j_aload_n (pc := 135) F 0 dL_law_135 rfl rfl ?_
      refine j_iload_n (pc := 136) F 3 dL_law_136 rfl rfl ?_
      refine j_iconst (pc := 137) F (v := 3) dL_law_137 rfl ?_
      refine j_iadd (pc := 138) F dL_law_138 ?_
      refine jl_ld (pc := 139) F hX hbl hbA hL31 (nI_add (6 * t) 3) (by omega) dL_law_139 ?_
      refine j_callWp (pc := 140) (st := []) (st1 := [.int (bI oh.1)]) (w' := wHs aH aS aT aR aV aD aQ cy oh.2 σT σR σV σQ σD ra ++ wM aM cy σM) F hK hS hA (List.Perm.refl _) (List.Perm.refl _) (c_X7_tables (l := l) (D := D) (cy := cy) (g := g) (aH := aH) (aS := aS) (aT := aT) (aR := aR) (aV := aV) (aD := aD) (aQ := aQ) eh) tm_242 cf_X7_tables (Nat.le_of_ble_eq_true rfl) (Nat.le_of_ble_eq_true rfl) hce 0 rfl rfl rfl rfl rfl (Nat.le_of_ble_eq_true rfl) rfl dL_law_140 ?_
      refine j_pop (pc := 143) F dL_law_143 rfl ?_
      refine j_aload_n (pc := 144) F 2 dL_law_144 rfl rfl ?_
      refine j_aload_n (pc := 145) F 0 dL_law_145 rfl rfl ?_
      refine j_iload_n (pc := 146) F 3 dL_law_146 rfl rfl ?_
      refine j_iconst (pc := 147) F (v := 1) dL_law_147 rfl ?_
      refine j_iadd (pc := 148) F dL_law_148 ?_
      refine jl_ld (pc := 149) F hX hbl hbA hL31 (nI_add (6 * t) 1) (by omega) dL_law_149 ?_
      refine j_aload_n (pc := 150) F 0 dL_law_150 rfl rfl ?_
      refine j_iload_n (pc := 151) F 3 dL_law_151 rfl rfl ?_
      refine j_iconst (pc := 152) F (v := 2) dL_law_152 rfl ?_
      refine j_iadd (pc := 153) F dL_law_153 ?_
      refine jl_ld (pc := 154) F hX hbl hbA hL31 (nI_add (6 * t) 2) (by omega) dL_law_154 ?_
      refine j_aload_n (pc := 155) F 0 dL_law_155 rfl rfl ?_
      refine j_iload_n (pc := 156) F 3 dL_law_156 rfl rfl ?_
      refine j_iconst (pc := 157) F (v := 3) dL_law_157 rfl ?_
      refine j_iadd (pc := 158) F dL_law_158 ?_
      refine jl_ld (pc := 159) F hX hbl hbA hL31 (nI_add (6 * t) 3) (by omega) dL_law_159 ?_
      refine j_callWp (pc := 160) (st := []) (st1 := [.int (bI om.1)]) (w' := wHs aH aS aT aR aV aD aQ cy oh.2 σT σR σV σQ σD ra ++ wM aM cy om.2) F hK hS hA List.perm_append_comm List.perm_append_comm (c_X8_tables (l := l) (D := D) (cy := cy) (g := g) (aM := aM) em) tm_968 cf_X8_tables (Nat.le_of_ble_eq_true rfl) (Nat.le_of_ble_eq_true rfl) hce 0 rfl rfl rfl rfl rfl (Nat.le_of_ble_eq_true rfl) rfl dL_law_160 ?_
      refine j_pop (pc := 163) F dL_law_163 rfl ?_
      refine j_goto (pc := 164) (tgt := 801) F dL_law_164 rfl ?_
      exact nx oh.2 σT σR σV σQ σD ra om.2 hInv
    by_cases c_1 : op = 1
    · refine j_tabIn (pc := 33) (tgt := 167) F 1 dL_law_33 c_1 (by decide) (by decide) rfl rfl ?_
      obtain ⟨oh, om, eh, em, hInv⟩ := hI.2.1 aQ t σS σT σR σV σQ σD ra σM (xs (6 * t + 1)) (xs (6 * t + 2)) ht hInv
      refine j_aload_n (pc := 167) F 1 dL_law_167 rfl rfl ?_
      refine j_aload_n (pc := 168) F 0 dL_law_168 rfl rfl ?_
      refine j_iload_n (pc := 169) F 3 dL_law_169 rfl rfl ?_
      refine j_iconst (pc := 170) F (v := 1) dL_law_170 rfl ?_
      refine j_iadd (pc := 171) F dL_law_171 ?_
      refine jl_ld (pc := 172) F hX hbl hbA hL31 (nI_add (6 * t) 1) (by omega) dL_law_172 ?_
      refine j_aload_n (pc := 173) F 0 dL_law_173 rfl rfl ?_
      refine j_iload_n (pc := 174) F 3 dL_law_174 rfl rfl ?_
      refine j_iconst (pc := 175) F (v := 2) dL_law_175 rfl ?_
      refine j_iadd (pc := 176) F dL_law_176 ?_
      refine jl_ld (pc := 177) F hX hbl hbA hL31 (nI_add (6 * t) 2) (by omega) dL_law_177 ?_
      refine j_callRV (pc := 178) (st := []) (st1 := [.int oh]) F hK (hpW hS (hp_perm (List.Perm.refl _))) (c_X7_moon (l := l) (D := D) (cy := cy) (g := g) (aH := aH) (aS := aS) (aT := aT) (aR := aR) (aV := aV) (aD := aD) (aQ := aQ) eh) tm_254 cf_X7_moon (Nat.le_of_ble_eq_true rfl) (Nat.le_of_ble_eq_true rfl) hce 0 rfl rfl rfl rfl rfl (Nat.le_of_ble_eq_true rfl) rfl dL_law_178 ?_
      refine j_pop (pc := 181) F dL_law_181 rfl ?_
      refine j_aload_n (pc := 182) F 2 dL_law_182 rfl rfl ?_
      refine j_aload_n (pc := 183) F 0 dL_law_183 rfl rfl ?_
      refine j_iload_n (pc := 184) F 3 dL_law_184 rfl rfl ?_
      refine j_iconst (pc := 185) F (v := 1) dL_law_185 rfl ?_
      refine j_iadd (pc := 186) F dL_law_186 ?_
      refine jl_ld (pc := 187) F hX hbl hbA hL31 (nI_add (6 * t) 1) (by omega) dL_law_187 ?_
      refine j_aload_n (pc := 188) F 0 dL_law_188 rfl rfl ?_
      refine j_iload_n (pc := 189) F 3 dL_law_189 rfl rfl ?_
      refine j_iconst (pc := 190) F (v := 2) dL_law_190 rfl ?_
      refine j_iadd (pc := 191) F dL_law_191 ?_
      refine jl_ld (pc := 192) F hX hbl hbA hL31 (nI_add (6 * t) 2) (by omega) dL_law_192 ?_
      refine j_callRV (pc := 193) (st := []) (st1 := [.int om]) F hK (hpW hS (hp_perm List.perm_append_comm)) (c_X8_moon (l := l) (D := D) (cy := cy) (g := g) (aM := aM) em) tm_976 cf_X8_moon (Nat.le_of_ble_eq_true rfl) (Nat.le_of_ble_eq_true rfl) hce 0 rfl rfl rfl rfl rfl (Nat.le_of_ble_eq_true rfl) rfl dL_law_193 ?_
      refine j_pop (pc := 196) F dL_law_196 rfl ?_
      refine j_goto (pc := 197) (tgt := 801) F dL_law_197 rfl ?_
      exact nx σS σT σR σV σQ σD ra σM hInv
    by_cases c_2 : op = 2
    · refine j_tabIn (pc := 33) (tgt := 200) F 2 dL_law_33 c_2 (by decide) (by decide) rfl rfl ?_
      obtain ⟨oh, om, eh, em, hInv⟩ := hI.2.2.1 aQ t σS σT σR σV σQ σD ra σM (xs (6 * t + 1)) (xs (6 * t + 2)) (xs (6 * t + 3)) ht hInv
      refine j_aload_n (pc := 200) F 1 dL_law_200 rfl rfl ?_
      refine j_aload_n (pc := 201) F 0 dL_law_201 rfl rfl ?_
      refine j_iload_n (pc := 202) F 3 dL_law_202 rfl rfl ?_
      refine j_iconst (pc := 203) F (v := 1) dL_law_203 rfl ?_
      refine j_iadd (pc := 204) F dL_law_204 ?_
      refine jl_ld (pc := 205) F hX hbl hbA hL31 (nI_add (6 * t) 1) (by omega) dL_law_205 ?_
      refine j_aload_n (pc := 206) F 0 dL_law_206 rfl rfl ?_
      refine j_iload_n (pc := 207) F 3 dL_law_207 rfl rfl ?_
      refine j_iconst (pc := 208) F (v := 2) dL_law_208 rfl ?_
      refine j_iadd (pc := 209) F dL_law_209 ?_
      refine jl_ld (pc := 210) F hX hbl hbA hL31 (nI_add (6 * t) 2) (by omega) dL_law_210 ?_
      refine j_aload_n (pc := 211) F 0 dL_law_211 rfl rfl ?_
      refine j_iload_n (pc := 212) F 3 dL_law_212 rfl rfl ?_
      refine j_iconst (pc := 213) F (v := 3) dL_law_213 rfl ?_
      refine j_iadd (pc := 214) F dL_law_214 ?_
      refine jl_ld (pc := 215) F hX hbl hbA hL31 (nI_add (6 * t) 3) (by omega) dL_law_215 ?_
      refine j_callWp (pc := 216) (st := []) (st1 := [.int oh.1]) (w' := wHs aH aS aT aR aV aD aQ cy oh.2 σT σR σV σQ σD ra ++ wM aM cy σM) F hK hS hA (List.Perm.refl _) (List.Perm.refl _) (c_X7_next (l := l) (D := D) (cy := cy) (g := g) (aH := aH) (aS := aS) (aT := aT) (aR := aR) (aV := aV) (aD := aD) (aQ := aQ) eh) tm_310 cf_X7_next (Nat.le_of_ble_eq_true rfl) (Nat.le_of_ble_eq_true rfl) hce 0 rfl rfl rfl rfl rfl (Nat.le_of_ble_eq_true rfl) rfl dL_law_216 ?_
      refine j_pop (pc := 219) F dL_law_219 rfl ?_
      refine j_aload_n (pc := 220) F 2 dL_law_220 rfl rfl ?_
      refine j_aload_n (pc := 221) F 0 dL_law_221 rfl rfl ?_
      refine j_iload_n (pc := 222) F 3 dL_law_222 rfl rfl ?_
      refine j_iconst (pc := 223) F (v := 1) dL_law_223 rfl ?_
      refine j_iadd (pc := 224) F dL_law_224 ?_
      refine jl_ld (pc := 225) F hX hbl hbA hL31 (nI_add (6 * t) 1) (by omega) dL_law_225 ?_
      refine j_aload_n (pc := 226) F 0 dL_law_226 rfl rfl ?_
      refine j_iload_n (pc := 227) F 3 dL_law_227 rfl rfl ?_
      refine j_iconst (pc := 228) F (v := 2) dL_law_228 rfl ?_
      refine j_iadd (pc := 229) F dL_law_229 ?_
      refine jl_ld (pc := 230) F hX hbl hbA hL31 (nI_add (6 * t) 2) (by omega) dL_law_230 ?_
      refine j_aload_n (pc := 231) F 0 dL_law_231 rfl rfl ?_
      refine j_iload_n (pc := 232) F 3 dL_law_232 rfl rfl ?_
      refine j_iconst (pc := 233) F (v := 3) dL_law_233 rfl ?_
      refine j_iadd (pc := 234) F dL_law_234 ?_
      refine jl_ld (pc := 235) F hX hbl hbA hL31 (nI_add (6 * t) 3) (by omega) dL_law_235 ?_
      refine j_callWp (pc := 236) (st := []) (st1 := [.int om.1]) (w' := wHs aH aS aT aR aV aD aQ cy oh.2 σT σR σV σQ σD ra ++ wM aM cy om.2) F hK hS hA List.perm_append_comm List.perm_append_comm (c_X8_next (l := l) (D := D) (cy := cy) (g := g) (aM := aM) em) tm_1024 cf_X8_next (Nat.le_of_ble_eq_true rfl) (Nat.le_of_ble_eq_true rfl) hce 0 rfl rfl rfl rfl rfl (Nat.le_of_ble_eq_true rfl) rfl dL_law_236 ?_
      refine j_pop (pc := 239) F dL_law_239 rfl ?_
      refine j_goto (pc := 240) (tgt := 801) F dL_law_240 rfl ?_
      exact nx oh.2 σT σR σV σQ σD ra om.2 hInv
    by_cases c_3 : op = 3
    · refine j_tabIn (pc := 33) (tgt := 243) F 3 dL_law_33 c_3 (by decide) (by decide) rfl rfl ?_
      obtain ⟨oh, om, eh, em, hInv⟩ := hI.2.2.2.1 aQ t σS σT σR σV σQ σD ra σM (xs (6 * t + 1)) (xs (6 * t + 2)) ht hInv
      refine j_aload_n (pc := 243) F 1 dL_law_243 rfl rfl ?_
      refine j_aload_n (pc := 244) F 0 dL_law_244 rfl rfl ?_
      refine j_iload_n (pc := 245) F 3 dL_law_245 rfl rfl ?_
      refine j_iconst (pc := 246) F (v := 1) dL_law_246 rfl ?_
      refine j_iadd (pc := 247) F dL_law_247 ?_
      refine jl_ld (pc := 248) F hX hbl hbA hL31 (nI_add (6 * t) 1) (by omega) dL_law_248 ?_
      refine j_aload_n (pc := 249) F 0 dL_law_249 rfl rfl ?_
      refine j_iload_n (pc := 250) F 3 dL_law_250 rfl rfl ?_
      refine j_iconst (pc := 251) F (v := 2) dL_law_251 rfl ?_
      refine j_iadd (pc := 252) F dL_law_252 ?_
      refine jl_ld (pc := 253) F hX hbl hbA hL31 (nI_add (6 * t) 2) (by omega) dL_law_253 ?_
      refine j_callRV (pc := 254) (st := []) (st1 := [.int oh]) F hK (hpW hS (hp_perm (List.Perm.refl _))) (c_X7_round (l := l) (D := D) (cy := cy) (g := g) (aH := aH) (aS := aS) (aT := aT) (aR := aR) (aV := aV) (aD := aD) (aQ := aQ) eh) tm_328 cf_X7_round (Nat.le_of_ble_eq_true rfl) (Nat.le_of_ble_eq_true rfl) hce 0 rfl rfl rfl rfl rfl (Nat.le_of_ble_eq_true rfl) rfl dL_law_254 ?_
      refine j_pop (pc := 257) F dL_law_257 rfl ?_
      refine j_aload_n (pc := 258) F 2 dL_law_258 rfl rfl ?_
      refine j_aload_n (pc := 259) F 0 dL_law_259 rfl rfl ?_
      refine j_iload_n (pc := 260) F 3 dL_law_260 rfl rfl ?_
      refine j_iconst (pc := 261) F (v := 1) dL_law_261 rfl ?_
      refine j_iadd (pc := 262) F dL_law_262 ?_
      refine jl_ld (pc := 263) F hX hbl hbA hL31 (nI_add (6 * t) 1) (by omega) dL_law_263 ?_
      refine j_aload_n (pc := 264) F 0 dL_law_264 rfl rfl ?_
      refine j_iload_n (pc := 265) F 3 dL_law_265 rfl rfl ?_
      refine j_iconst (pc := 266) F (v := 2) dL_law_266 rfl ?_
      refine j_iadd (pc := 267) F dL_law_267 ?_
      refine jl_ld (pc := 268) F hX hbl hbA hL31 (nI_add (6 * t) 2) (by omega) dL_law_268 ?_
      refine j_callRV (pc := 269) (st := []) (st1 := [.int om]) F hK (hpW hS (hp_perm List.perm_append_comm)) (c_X8_round (l := l) (D := D) (cy := cy) (g := g) (aM := aM) em) tm_1036 cf_X8_round (Nat.le_of_ble_eq_true rfl) (Nat.le_of_ble_eq_true rfl) hce 0 rfl rfl rfl rfl rfl (Nat.le_of_ble_eq_true rfl) rfl dL_law_269 ?_
      refine j_pop (pc := 272) F dL_law_272 rfl ?_
      refine j_goto (pc := 273) (tgt := 801) F dL_law_273 rfl ?_
      exact nx σS σT σR σV σQ σD ra σM hInv
    by_cases c_4 : op = 4
    · refine j_tabIn (pc := 33) (tgt := 276) F 4 dL_law_33 c_4 (by decide) (by decide) rfl rfl ?_
      obtain ⟨oh, om, eh, em, hInv⟩ := hI.2.2.2.2.1 aQ t σS σT σR σV σQ σD ra σM (xs (6 * t + 1)) (xs (6 * t + 2)) (xs (6 * t + 3)) ht hInv
      refine j_aload_n (pc := 276) F 1 dL_law_276 rfl rfl ?_
      refine j_aload_n (pc := 277) F 0 dL_law_277 rfl rfl ?_
      refine j_iload_n (pc := 278) F 3 dL_law_278 rfl rfl ?_
      refine j_iconst (pc := 279) F (v := 1) dL_law_279 rfl ?_
      refine j_iadd (pc := 280) F dL_law_280 ?_
      refine jl_ld (pc := 281) F hX hbl hbA hL31 (nI_add (6 * t) 1) (by omega) dL_law_281 ?_
      refine j_aload_n (pc := 282) F 0 dL_law_282 rfl rfl ?_
      refine j_iload_n (pc := 283) F 3 dL_law_283 rfl rfl ?_
      refine j_iconst (pc := 284) F (v := 2) dL_law_284 rfl ?_
      refine j_iadd (pc := 285) F dL_law_285 ?_
      refine jl_ld (pc := 286) F hX hbl hbA hL31 (nI_add (6 * t) 2) (by omega) dL_law_286 ?_
      refine j_aload_n (pc := 287) F 0 dL_law_287 rfl rfl ?_
      refine j_iload_n (pc := 288) F 3 dL_law_288 rfl rfl ?_
      refine j_iconst (pc := 289) F (v := 3) dL_law_289 rfl ?_
      refine j_iadd (pc := 290) F dL_law_290 ?_
      refine jl_ld (pc := 291) F hX hbl hbA hL31 (nI_add (6 * t) 3) (by omega) dL_law_291 ?_
      refine j_callWp (pc := 292) (st := []) (st1 := [.int oh.1]) (w' := wHs aH aS aT aR aV aD aQ cy oh.2 σT σR σV σQ σD ra ++ wM aM cy σM) F hK hS hA (List.Perm.refl _) (List.Perm.refl _) (c_X7_many (l := l) (D := D) (cy := cy) (g := g) (aH := aH) (aS := aS) (aT := aT) (aR := aR) (aV := aV) (aD := aD) (aQ := aQ) eh) tm_340 cf_X7_many (Nat.le_of_ble_eq_true rfl) (Nat.le_of_ble_eq_true rfl) hce 0 rfl rfl rfl rfl rfl (Nat.le_of_ble_eq_true rfl) rfl dL_law_292 ?_
      refine j_pop (pc := 295) F dL_law_295 rfl ?_
      refine j_aload_n (pc := 296) F 2 dL_law_296 rfl rfl ?_
      refine j_aload_n (pc := 297) F 0 dL_law_297 rfl rfl ?_
      refine j_iload_n (pc := 298) F 3 dL_law_298 rfl rfl ?_
      refine j_iconst (pc := 299) F (v := 1) dL_law_299 rfl ?_
      refine j_iadd (pc := 300) F dL_law_300 ?_
      refine jl_ld (pc := 301) F hX hbl hbA hL31 (nI_add (6 * t) 1) (by omega) dL_law_301 ?_
      refine j_aload_n (pc := 302) F 0 dL_law_302 rfl rfl ?_
      refine j_iload_n (pc := 303) F 3 dL_law_303 rfl rfl ?_
      refine j_iconst (pc := 304) F (v := 2) dL_law_304 rfl ?_
      refine j_iadd (pc := 305) F dL_law_305 ?_
      refine jl_ld (pc := 306) F hX hbl hbA hL31 (nI_add (6 * t) 2) (by omega) dL_law_306 ?_
      refine j_aload_n (pc := 307) F 0 dL_law_307 rfl rfl ?_
      refine j_iload_n (pc := 308) F 3 dL_law_308 rfl rfl ?_
      refine j_iconst (pc := 309) F (v := 3) dL_law_309 rfl ?_
      refine j_iadd (pc := 310) F dL_law_310 ?_
      refine jl_ld (pc := 311) F hX hbl hbA hL31 (nI_add (6 * t) 3) (by omega) dL_law_311 ?_
      refine j_callWp (pc := 312) (st := []) (st1 := [.int om.1]) (w' := wHs aH aS aT aR aV aD aQ cy oh.2 σT σR σV σQ σD ra ++ wM aM cy om.2) F hK hS hA List.perm_append_comm List.perm_append_comm (c_X8_many (l := l) (D := D) (cy := cy) (g := g) (aM := aM) em) tm_1032 cf_X8_many (Nat.le_of_ble_eq_true rfl) (Nat.le_of_ble_eq_true rfl) hce 0 rfl rfl rfl rfl rfl (Nat.le_of_ble_eq_true rfl) rfl dL_law_312 ?_
      refine j_pop (pc := 315) F dL_law_315 rfl ?_
      refine j_goto (pc := 316) (tgt := 801) F dL_law_316 rfl ?_
      exact nx oh.2 σT σR σV σQ σD ra om.2 hInv
    by_cases c_5 : op = 5
    · refine j_tabIn (pc := 33) (tgt := 319) F 5 dL_law_33 c_5 (by decide) (by decide) rfl rfl ?_
      obtain ⟨oh, om, eh, em, hInv⟩ := hI.2.2.2.2.2.1 aQ t σS σT σR σV σQ σD ra σM (xs (6 * t + 1)) (xs (6 * t + 2)) (xs (6 * t + 3)) ht hInv
      refine j_aload_n (pc := 319) F 1 dL_law_319 rfl rfl ?_
      refine j_aload_n (pc := 320) F 0 dL_law_320 rfl rfl ?_
      refine j_iload_n (pc := 321) F 3 dL_law_321 rfl rfl ?_
      refine j_iconst (pc := 322) F (v := 1) dL_law_322 rfl ?_
      refine j_iadd (pc := 323) F dL_law_323 ?_
      refine jl_ld (pc := 324) F hX hbl hbA hL31 (nI_add (6 * t) 1) (by omega) dL_law_324 ?_
      refine j_aload_n (pc := 325) F 0 dL_law_325 rfl rfl ?_
      refine j_iload_n (pc := 326) F 3 dL_law_326 rfl rfl ?_
      refine j_iconst (pc := 327) F (v := 2) dL_law_327 rfl ?_
      refine j_iadd (pc := 328) F dL_law_328 ?_
      refine jl_ld (pc := 329) F hX hbl hbA hL31 (nI_add (6 * t) 2) (by omega) dL_law_329 ?_
      refine j_aload_n (pc := 330) F 0 dL_law_330 rfl rfl ?_
      refine j_iload_n (pc := 331) F 3 dL_law_331 rfl rfl ?_
      refine j_iconst (pc := 332) F (v := 3) dL_law_332 rfl ?_
      refine j_iadd (pc := 333) F dL_law_333 ?_
      refine jl_ld (pc := 334) F hX hbl hbA hL31 (nI_add (6 * t) 3) (by omega) dL_law_334 ?_
      refine j_callRV (pc := 335) (st := []) (st1 := [.int oh]) F hK (hpW hS (hp_perm (List.Perm.refl _))) (c_X7_date (l := l) (D := D) (cy := cy) (g := g) (aH := aH) (aS := aS) (aT := aT) (aR := aR) (aV := aV) (aD := aD) (aQ := aQ) eh) tm_348 cf_X7_date (Nat.le_of_ble_eq_true rfl) (Nat.le_of_ble_eq_true rfl) hce 0 rfl rfl rfl rfl rfl (Nat.le_of_ble_eq_true rfl) rfl dL_law_335 ?_
      refine j_pop (pc := 338) F dL_law_338 rfl ?_
      refine j_aload_n (pc := 339) F 2 dL_law_339 rfl rfl ?_
      refine j_aload_n (pc := 340) F 0 dL_law_340 rfl rfl ?_
      refine j_iload_n (pc := 341) F 3 dL_law_341 rfl rfl ?_
      refine j_iconst (pc := 342) F (v := 1) dL_law_342 rfl ?_
      refine j_iadd (pc := 343) F dL_law_343 ?_
      refine jl_ld (pc := 344) F hX hbl hbA hL31 (nI_add (6 * t) 1) (by omega) dL_law_344 ?_
      refine j_aload_n (pc := 345) F 0 dL_law_345 rfl rfl ?_
      refine j_iload_n (pc := 346) F 3 dL_law_346 rfl rfl ?_
      refine j_iconst (pc := 347) F (v := 2) dL_law_347 rfl ?_
      refine j_iadd (pc := 348) F dL_law_348 ?_
      refine jl_ld (pc := 349) F hX hbl hbA hL31 (nI_add (6 * t) 2) (by omega) dL_law_349 ?_
      refine j_aload_n (pc := 350) F 0 dL_law_350 rfl rfl ?_
      refine j_iload_n (pc := 351) F 3 dL_law_351 rfl rfl ?_
      refine j_iconst (pc := 352) F (v := 3) dL_law_352 rfl ?_
      refine j_iadd (pc := 353) F dL_law_353 ?_
      refine jl_ld (pc := 354) F hX hbl hbA hL31 (nI_add (6 * t) 3) (by omega) dL_law_354 ?_
      refine j_callWp (pc := 355) (st := []) (st1 := [.int om.1]) (w' := wHs aH aS aT aR aV aD aQ cy σS σT σR σV σQ σD ra ++ wM aM cy om.2) F hK hS hA List.perm_append_comm List.perm_append_comm (c_X8_date (l := l) (D := D) (cy := cy) (g := g) (aM := aM) em) tm_1040 cf_X8_date (Nat.le_of_ble_eq_true rfl) (Nat.le_of_ble_eq_true rfl) hce 0 rfl rfl rfl rfl rfl (Nat.le_of_ble_eq_true rfl) rfl dL_law_355 ?_
      refine j_pop (pc := 358) F dL_law_358 rfl ?_
      refine j_goto (pc := 359) (tgt := 801) F dL_law_359 rfl ?_
      exact nx σS σT σR σV σQ σD ra om.2 hInv
    by_cases c_6 : op = 6
    · refine j_tabIn (pc := 33) (tgt := 362) F 6 dL_law_33 c_6 (by decide) (by decide) rfl rfl ?_
      obtain ⟨oh, om, eh, em, hInv⟩ := hI.2.2.2.2.2.2.1 aQ t σS σT σR σV σQ σD ra σM (xs (6 * t + 1)) (xs (6 * t + 2)) (xs (6 * t + 3)) (xs (6 * t + 4)) ht hInv
      refine j_aload_n (pc := 362) F 1 dL_law_362 rfl rfl ?_
      refine j_aload_n (pc := 363) F 0 dL_law_363 rfl rfl ?_
      refine j_iload_n (pc := 364) F 3 dL_law_364 rfl rfl ?_
      refine j_iconst (pc := 365) F (v := 1) dL_law_365 rfl ?_
      refine j_iadd (pc := 366) F dL_law_366 ?_
      refine jl_ld (pc := 367) F hX hbl hbA hL31 (nI_add (6 * t) 1) (by omega) dL_law_367 ?_
      refine j_aload_n (pc := 368) F 0 dL_law_368 rfl rfl ?_
      refine j_iload_n (pc := 369) F 3 dL_law_369 rfl rfl ?_
      refine j_iconst (pc := 370) F (v := 2) dL_law_370 rfl ?_
      refine j_iadd (pc := 371) F dL_law_371 ?_
      refine jl_ld (pc := 372) F hX hbl hbA hL31 (nI_add (6 * t) 2) (by omega) dL_law_372 ?_
      refine j_aload_n (pc := 373) F 0 dL_law_373 rfl rfl ?_
      refine j_iload_n (pc := 374) F 3 dL_law_374 rfl rfl ?_
      refine j_iconst (pc := 375) F (v := 3) dL_law_375 rfl ?_
      refine j_iadd (pc := 376) F dL_law_376 ?_
      refine jl_ld (pc := 377) F hX hbl hbA hL31 (nI_add (6 * t) 3) (by omega) dL_law_377 ?_
      refine j_aload_n (pc := 378) F 0 dL_law_378 rfl rfl ?_
      refine j_iload_n (pc := 379) F 3 dL_law_379 rfl rfl ?_
      refine j_iconst (pc := 380) F (v := 4) dL_law_380 rfl ?_
      refine j_iadd (pc := 381) F dL_law_381 ?_
      refine jl_ld (pc := 382) F hX hbl hbA hL31 (nI_add (6 * t) 4) (by omega) dL_law_382 ?_
      refine j_callRV (pc := 383) (st := []) (st1 := [.int oh]) F hK (hpW hS (hp_perm (List.Perm.refl _))) (c_X7_day (l := l) (D := D) (cy := cy) (g := g) (aH := aH) (aS := aS) (aT := aT) (aR := aR) (aV := aV) (aD := aD) (aQ := aQ) eh) tm_379 cf_X7_day (Nat.le_of_ble_eq_true rfl) (Nat.le_of_ble_eq_true rfl) hce 0 rfl rfl rfl rfl rfl (Nat.le_of_ble_eq_true rfl) rfl dL_law_383 ?_
      refine j_pop (pc := 386) F dL_law_386 rfl ?_
      refine j_aload_n (pc := 387) F 2 dL_law_387 rfl rfl ?_
      refine j_aload_n (pc := 388) F 0 dL_law_388 rfl rfl ?_
      refine j_iload_n (pc := 389) F 3 dL_law_389 rfl rfl ?_
      refine j_iconst (pc := 390) F (v := 1) dL_law_390 rfl ?_
      refine j_iadd (pc := 391) F dL_law_391 ?_
      refine jl_ld (pc := 392) F hX hbl hbA hL31 (nI_add (6 * t) 1) (by omega) dL_law_392 ?_
      refine j_aload_n (pc := 393) F 0 dL_law_393 rfl rfl ?_
      refine j_iload_n (pc := 394) F 3 dL_law_394 rfl rfl ?_
      refine j_iconst (pc := 395) F (v := 2) dL_law_395 rfl ?_
      refine j_iadd (pc := 396) F dL_law_396 ?_
      refine jl_ld (pc := 397) F hX hbl hbA hL31 (nI_add (6 * t) 2) (by omega) dL_law_397 ?_
      refine j_aload_n (pc := 398) F 0 dL_law_398 rfl rfl ?_
      refine j_iload_n (pc := 399) F 3 dL_law_399 rfl rfl ?_
      refine j_iconst (pc := 400) F (v := 3) dL_law_400 rfl ?_
      refine j_iadd (pc := 401) F dL_law_401 ?_
      refine jl_ld (pc := 402) F hX hbl hbA hL31 (nI_add (6 * t) 3) (by omega) dL_law_402 ?_
      refine j_aload_n (pc := 403) F 0 dL_law_403 rfl rfl ?_
      refine j_iload_n (pc := 404) F 3 dL_law_404 rfl rfl ?_
      refine j_iconst (pc := 405) F (v := 4) dL_law_405 rfl ?_
      refine j_iadd (pc := 406) F dL_law_406 ?_
      refine jl_ld (pc := 407) F hX hbl hbA hL31 (nI_add (6 * t) 4) (by omega) dL_law_407 ?_
      refine j_callRV (pc := 408) (st := []) (st1 := [.int om]) F hK (hpW hS (hp_perm List.perm_append_comm)) (c_X8_day (l := l) (D := D) (cy := cy) (g := g) (aM := aM) em) tm_1059 cf_X8_day (Nat.le_of_ble_eq_true rfl) (Nat.le_of_ble_eq_true rfl) hce 0 rfl rfl rfl rfl rfl (Nat.le_of_ble_eq_true rfl) rfl dL_law_408 ?_
      refine j_pop (pc := 411) F dL_law_411 rfl ?_
      refine j_goto (pc := 412) (tgt := 801) F dL_law_412 rfl ?_
      exact nx σS σT σR σV σQ σD ra σM hInv
    by_cases c_7 : op = 7
    · refine j_tabIn (pc := 33) (tgt := 415) F 7 dL_law_33 c_7 (by decide) (by decide) rfl rfl ?_
      obtain ⟨oh, om, eh, em, hInv⟩ := hI.2.2.2.2.2.2.2.1 aQ t σS σT σR σV σQ σD ra σM (xs (6 * t + 1)) (xs (6 * t + 2)) (xs (6 * t + 3)) ht hInv
      refine j_aload_n (pc := 415) F 1 dL_law_415 rfl rfl ?_
      refine j_aload_n (pc := 416) F 0 dL_law_416 rfl rfl ?_
      refine j_iload_n (pc := 417) F 3 dL_law_417 rfl rfl ?_
      refine j_iconst (pc := 418) F (v := 1) dL_law_418 rfl ?_
      refine j_iadd (pc := 419) F dL_law_419 ?_
      refine jl_ld (pc := 420) F hX hbl hbA hL31 (nI_add (6 * t) 1) (by omega) dL_law_420 ?_
      refine j_aload_n (pc := 421) F 0 dL_law_421 rfl rfl ?_
      refine j_iload_n (pc := 422) F 3 dL_law_422 rfl rfl ?_
      refine j_iconst (pc := 423) F (v := 2) dL_law_423 rfl ?_
      refine j_iadd (pc := 424) F dL_law_424 ?_
      refine jl_ld (pc := 425) F hX hbl hbA hL31 (nI_add (6 * t) 2) (by omega) dL_law_425 ?_
      refine j_aload_n (pc := 426) F 0 dL_law_426 rfl rfl ?_
      refine j_iload_n (pc := 427) F 3 dL_law_427 rfl rfl ?_
      refine j_iconst (pc := 428) F (v := 3) dL_law_428 rfl ?_
      refine j_iadd (pc := 429) F dL_law_429 ?_
      refine jl_ld (pc := 430) F hX hbl hbA hL31 (nI_add (6 * t) 3) (by omega) dL_law_430 ?_
      refine j_callRV (pc := 431) (st := []) (st1 := [.int oh]) F hK (hpW hS (hp_perm (List.Perm.refl _))) (c_X7_seen (l := l) (D := D) (cy := cy) (g := g) (aH := aH) (aS := aS) (aT := aT) (aR := aR) (aV := aV) (aD := aD) (aQ := aQ) eh) tm_386 cf_X7_seen (Nat.le_of_ble_eq_true rfl) (Nat.le_of_ble_eq_true rfl) hce 0 rfl rfl rfl rfl rfl (Nat.le_of_ble_eq_true rfl) rfl dL_law_431 ?_
      refine j_pop (pc := 434) F dL_law_434 rfl ?_
      refine j_aload_n (pc := 435) F 2 dL_law_435 rfl rfl ?_
      refine j_aload_n (pc := 436) F 0 dL_law_436 rfl rfl ?_
      refine j_iload_n (pc := 437) F 3 dL_law_437 rfl rfl ?_
      refine j_iconst (pc := 438) F (v := 1) dL_law_438 rfl ?_
      refine j_iadd (pc := 439) F dL_law_439 ?_
      refine jl_ld (pc := 440) F hX hbl hbA hL31 (nI_add (6 * t) 1) (by omega) dL_law_440 ?_
      refine j_aload_n (pc := 441) F 0 dL_law_441 rfl rfl ?_
      refine j_iload_n (pc := 442) F 3 dL_law_442 rfl rfl ?_
      refine j_iconst (pc := 443) F (v := 2) dL_law_443 rfl ?_
      refine j_iadd (pc := 444) F dL_law_444 ?_
      refine jl_ld (pc := 445) F hX hbl hbA hL31 (nI_add (6 * t) 2) (by omega) dL_law_445 ?_
      refine j_aload_n (pc := 446) F 0 dL_law_446 rfl rfl ?_
      refine j_iload_n (pc := 447) F 3 dL_law_447 rfl rfl ?_
      refine j_iconst (pc := 448) F (v := 3) dL_law_448 rfl ?_
      refine j_iadd (pc := 449) F dL_law_449 ?_
      refine jl_ld (pc := 450) F hX hbl hbA hL31 (nI_add (6 * t) 3) (by omega) dL_law_450 ?_
      refine j_callRV (pc := 451) (st := []) (st1 := [.int om]) F hK (hpW hS (hp_perm List.perm_append_comm)) (c_X8_seen (l := l) (D := D) (cy := cy) (g := g) (aM := aM) em) tm_1063 cf_X8_seen (Nat.le_of_ble_eq_true rfl) (Nat.le_of_ble_eq_true rfl) hce 0 rfl rfl rfl rfl rfl (Nat.le_of_ble_eq_true rfl) rfl dL_law_451 ?_
      refine j_pop (pc := 454) F dL_law_454 rfl ?_
      refine j_goto (pc := 455) (tgt := 801) F dL_law_455 rfl ?_
      exact nx σS σT σR σV σQ σD ra σM hInv
    by_cases c_8 : op = 8
    · refine j_tabIn (pc := 33) (tgt := 458) F 8 dL_law_33 c_8 (by decide) (by decide) rfl rfl ?_
      obtain ⟨oh, om, eh, em, hInv⟩ := hI.2.2.2.2.2.2.2.2.1 aQ t σS σT σR σV σQ σD ra σM (xs (6 * t + 1)) (xs (6 * t + 2)) (xs (6 * t + 3)) (xs (6 * t + 4)) (xs (6 * t + 5)) ht hInv
      refine j_aload_n (pc := 458) F 1 dL_law_458 rfl rfl ?_
      refine j_aload_n (pc := 459) F 0 dL_law_459 rfl rfl ?_
      refine j_iload_n (pc := 460) F 3 dL_law_460 rfl rfl ?_
      refine j_iconst (pc := 461) F (v := 1) dL_law_461 rfl ?_
      refine j_iadd (pc := 462) F dL_law_462 ?_
      refine jl_ld (pc := 463) F hX hbl hbA hL31 (nI_add (6 * t) 1) (by omega) dL_law_463 ?_
      refine j_aload_n (pc := 464) F 0 dL_law_464 rfl rfl ?_
      refine j_iload_n (pc := 465) F 3 dL_law_465 rfl rfl ?_
      refine j_iconst (pc := 466) F (v := 2) dL_law_466 rfl ?_
      refine j_iadd (pc := 467) F dL_law_467 ?_
      refine jl_ld (pc := 468) F hX hbl hbA hL31 (nI_add (6 * t) 2) (by omega) dL_law_468 ?_
      refine j_aload_n (pc := 469) F 0 dL_law_469 rfl rfl ?_
      refine j_iload_n (pc := 470) F 3 dL_law_470 rfl rfl ?_
      refine j_iconst (pc := 471) F (v := 3) dL_law_471 rfl ?_
      refine j_iadd (pc := 472) F dL_law_472 ?_
      refine jl_ld (pc := 473) F hX hbl hbA hL31 (nI_add (6 * t) 3) (by omega) dL_law_473 ?_
      refine j_aload_n (pc := 474) F 0 dL_law_474 rfl rfl ?_
      refine j_iload_n (pc := 475) F 3 dL_law_475 rfl rfl ?_
      refine j_iconst (pc := 476) F (v := 4) dL_law_476 rfl ?_
      refine j_iadd (pc := 477) F dL_law_477 ?_
      refine jl_ld (pc := 478) F hX hbl hbA hL31 (nI_add (6 * t) 4) (by omega) dL_law_478 ?_
      refine j_aload_n (pc := 479) F 0 dL_law_479 rfl rfl ?_
      refine j_iload_n (pc := 480) F 3 dL_law_480 rfl rfl ?_
      refine j_iconst (pc := 481) F (v := 5) dL_law_481 rfl ?_
      refine j_iadd (pc := 482) F dL_law_482 ?_
      refine jl_ld (pc := 483) F hX hbl hbA hL31 (nI_add (6 * t) 5) (by omega) dL_law_483 ?_
      refine j_callWp (pc := 484) (st := []) (st1 := [.int oh.1]) (w' := wHs aH aS aT aR aV aD aQ cy σS oh.2 σR σV σQ σD ra ++ wM aM cy σM) F hK hS hA (List.Perm.refl _) (List.Perm.refl _) (c_X7_feed (l := l) (D := D) (cy := cy) (g := g) (aH := aH) (aS := aS) (aT := aT) (aR := aR) (aV := aV) (aD := aD) (aQ := aQ) eh) tm_401 cf_X7_feed (Nat.le_of_ble_eq_true rfl) (Nat.le_of_ble_eq_true rfl) hce 0 rfl rfl rfl rfl rfl (Nat.le_of_ble_eq_true rfl) rfl dL_law_484 ?_
      refine j_pop (pc := 487) F dL_law_487 rfl ?_
      refine j_aload_n (pc := 488) F 2 dL_law_488 rfl rfl ?_
      refine j_aload_n (pc := 489) F 0 dL_law_489 rfl rfl ?_
      refine j_iload_n (pc := 490) F 3 dL_law_490 rfl rfl ?_
      refine j_iconst (pc := 491) F (v := 1) dL_law_491 rfl ?_
      refine j_iadd (pc := 492) F dL_law_492 ?_
      refine jl_ld (pc := 493) F hX hbl hbA hL31 (nI_add (6 * t) 1) (by omega) dL_law_493 ?_
      refine j_aload_n (pc := 494) F 0 dL_law_494 rfl rfl ?_
      refine j_iload_n (pc := 495) F 3 dL_law_495 rfl rfl ?_
      refine j_iconst (pc := 496) F (v := 2) dL_law_496 rfl ?_
      refine j_iadd (pc := 497) F dL_law_497 ?_
      refine jl_ld (pc := 498) F hX hbl hbA hL31 (nI_add (6 * t) 2) (by omega) dL_law_498 ?_
      refine j_aload_n (pc := 499) F 0 dL_law_499 rfl rfl ?_
      refine j_iload_n (pc := 500) F 3 dL_law_500 rfl rfl ?_
      refine j_iconst (pc := 501) F (v := 3) dL_law_501 rfl ?_
      refine j_iadd (pc := 502) F dL_law_502 ?_
      refine jl_ld (pc := 503) F hX hbl hbA hL31 (nI_add (6 * t) 3) (by omega) dL_law_503 ?_
      refine j_aload_n (pc := 504) F 0 dL_law_504 rfl rfl ?_
      refine j_iload_n (pc := 505) F 3 dL_law_505 rfl rfl ?_
      refine j_iconst (pc := 506) F (v := 4) dL_law_506 rfl ?_
      refine j_iadd (pc := 507) F dL_law_507 ?_
      refine jl_ld (pc := 508) F hX hbl hbA hL31 (nI_add (6 * t) 4) (by omega) dL_law_508 ?_
      refine j_aload_n (pc := 509) F 0 dL_law_509 rfl rfl ?_
      refine j_iload_n (pc := 510) F 3 dL_law_510 rfl rfl ?_
      refine j_iconst (pc := 511) F (v := 5) dL_law_511 rfl ?_
      refine j_iadd (pc := 512) F dL_law_512 ?_
      refine jl_ld (pc := 513) F hX hbl hbA hL31 (nI_add (6 * t) 5) (by omega) dL_law_513 ?_
      refine j_callWp (pc := 514) (st := []) (st1 := [.int om.1]) (w' := wHs aH aS aT aR aV aD aQ cy σS oh.2 σR σV σQ σD ra ++ wM aM cy om.2) F hK hS hA List.perm_append_comm List.perm_append_comm (c_X8_feed (l := l) (D := D) (cy := cy) (g := g) (aM := aM) em) tm_1072 cf_X8_feed (Nat.le_of_ble_eq_true rfl) (Nat.le_of_ble_eq_true rfl) hce 0 rfl rfl rfl rfl rfl (Nat.le_of_ble_eq_true rfl) rfl dL_law_514 ?_
      refine j_pop (pc := 517) F dL_law_517 rfl ?_
      refine j_goto (pc := 518) (tgt := 801) F dL_law_518 rfl ?_
      exact nx σS oh.2 σR σV σQ σD ra om.2 hInv
    by_cases c_9 : op = 9
    · refine j_tabIn (pc := 33) (tgt := 521) F 9 dL_law_33 c_9 (by decide) (by decide) rfl rfl ?_
      obtain ⟨oh, om, eh, em, hInv⟩ := hI.2.2.2.2.2.2.2.2.2.1 aQ t σS σT σR σV σQ σD ra σM (xs (6 * t + 1)) ht hInv
      refine j_aload_n (pc := 521) F 1 dL_law_521 rfl rfl ?_
      refine j_aload_n (pc := 522) F 0 dL_law_522 rfl rfl ?_
      refine j_iload_n (pc := 523) F 3 dL_law_523 rfl rfl ?_
      refine j_iconst (pc := 524) F (v := 1) dL_law_524 rfl ?_
      refine j_iadd (pc := 525) F dL_law_525 ?_
      refine jl_ld (pc := 526) F hX hbl hbA hL31 (nI_add (6 * t) 1) (by omega) dL_law_526 ?_
      refine j_callWp (pc := 527) (st := []) (st1 := [.int (bI oh.1)]) (w' := wHs aH aS aT aR aV aD aQ cy σS oh.2 σR σV σQ σD ra ++ wM aM cy σM) F hK hS hA (List.Perm.refl _) (List.Perm.refl _) (c_X7_end (l := l) (D := D) (cy := cy) (g := g) (aH := aH) (aS := aS) (aT := aT) (aR := aR) (aV := aV) (aD := aD) (aQ := aQ) eh) tm_417 cf_X7_end (Nat.le_of_ble_eq_true rfl) (Nat.le_of_ble_eq_true rfl) hce 0 rfl rfl rfl rfl rfl (Nat.le_of_ble_eq_true rfl) rfl dL_law_527 ?_
      refine j_pop (pc := 530) F dL_law_530 rfl ?_
      refine j_aload_n (pc := 531) F 2 dL_law_531 rfl rfl ?_
      refine j_aload_n (pc := 532) F 0 dL_law_532 rfl rfl ?_
      refine j_iload_n (pc := 533) F 3 dL_law_533 rfl rfl ?_
      refine j_iconst (pc := 534) F (v := 1) dL_law_534 rfl ?_
      refine j_iadd (pc := 535) F dL_law_535 ?_
      refine jl_ld (pc := 536) F hX hbl hbA hL31 (nI_add (6 * t) 1) (by omega) dL_law_536 ?_
      refine j_callWp (pc := 537) (st := []) (st1 := [.int (bI om.1)]) (w' := wHs aH aS aT aR aV aD aQ cy σS oh.2 σR σV σQ σD ra ++ wM aM cy om.2) F hK hS hA List.perm_append_comm List.perm_append_comm (c_X8_end (l := l) (D := D) (cy := cy) (g := g) (aM := aM) em) tm_1076 cf_X8_end (Nat.le_of_ble_eq_true rfl) (Nat.le_of_ble_eq_true rfl) hce 0 rfl rfl rfl rfl rfl (Nat.le_of_ble_eq_true rfl) rfl dL_law_537 ?_
      refine j_pop (pc := 540) F dL_law_540 rfl ?_
      refine j_goto (pc := 541) (tgt := 801) F dL_law_541 rfl ?_
      exact nx σS oh.2 σR σV σQ σD ra om.2 hInv
    by_cases c_10 : op = 10
    · refine j_tabIn (pc := 33) (tgt := 544) F 10 dL_law_33 c_10 (by decide) (by decide) rfl rfl ?_
      obtain ⟨oh, om, eh, em, hInv⟩ := hI.2.2.2.2.2.2.2.2.2.2.1 aQ t σS σT σR σV σQ σD ra σM (xs (6 * t + 1)) (xs (6 * t + 2)) ht hInv
      refine j_aload_n (pc := 544) F 1 dL_law_544 rfl rfl ?_
      refine j_aload_n (pc := 545) F 0 dL_law_545 rfl rfl ?_
      refine j_iload_n (pc := 546) F 3 dL_law_546 rfl rfl ?_
      refine j_iconst (pc := 547) F (v := 1) dL_law_547 rfl ?_
      refine j_iadd (pc := 548) F dL_law_548 ?_
      refine jl_ld (pc := 549) F hX hbl hbA hL31 (nI_add (6 * t) 1) (by omega) dL_law_549 ?_
      refine j_aload_n (pc := 550) F 0 dL_law_550 rfl rfl ?_
      refine j_iload_n (pc := 551) F 3 dL_law_551 rfl rfl ?_
      refine j_iconst (pc := 552) F (v := 2) dL_law_552 rfl ?_
      refine j_iadd (pc := 553) F dL_law_553 ?_
      refine jl_ld (pc := 554) F hX hbl hbA hL31 (nI_add (6 * t) 2) (by omega) dL_law_554 ?_
      refine j_callWp (pc := 555) (st := []) (st1 := [.int oh.1]) (w' := wHs aH aS aT aR aV aD aQ cy σS oh.2.1 oh.2.2 σV σQ σD ra ++ wM aM cy σM) F hK hS hA (List.Perm.refl _) (List.Perm.refl _) (c_X7_reign (l := l) (D := D) (cy := cy) (g := g) (aH := aH) (aS := aS) (aT := aT) (aR := aR) (aV := aV) (aD := aD) (aQ := aQ) eh) tm_425 cf_X7_reign (Nat.le_of_ble_eq_true rfl) (Nat.le_of_ble_eq_true rfl) hce 0 rfl rfl rfl rfl rfl (Nat.le_of_ble_eq_true rfl) rfl dL_law_555 ?_
      refine j_pop (pc := 558) F dL_law_558 rfl ?_
      refine j_aload_n (pc := 559) F 2 dL_law_559 rfl rfl ?_
      refine j_aload_n (pc := 560) F 0 dL_law_560 rfl rfl ?_
      refine j_iload_n (pc := 561) F 3 dL_law_561 rfl rfl ?_
      refine j_iconst (pc := 562) F (v := 1) dL_law_562 rfl ?_
      refine j_iadd (pc := 563) F dL_law_563 ?_
      refine jl_ld (pc := 564) F hX hbl hbA hL31 (nI_add (6 * t) 1) (by omega) dL_law_564 ?_
      refine j_aload_n (pc := 565) F 0 dL_law_565 rfl rfl ?_
      refine j_iload_n (pc := 566) F 3 dL_law_566 rfl rfl ?_
      refine j_iconst (pc := 567) F (v := 2) dL_law_567 rfl ?_
      refine j_iadd (pc := 568) F dL_law_568 ?_
      refine jl_ld (pc := 569) F hX hbl hbA hL31 (nI_add (6 * t) 2) (by omega) dL_law_569 ?_
      refine j_callWp (pc := 570) (st := []) (st1 := [.int om.1]) (w' := wHs aH aS aT aR aV aD aQ cy σS oh.2.1 oh.2.2 σV σQ σD ra ++ wM aM cy om.2) F hK hS hA List.perm_append_comm List.perm_append_comm (c_X8_reign (l := l) (D := D) (cy := cy) (g := g) (aM := aM) em) tm_1080 cf_X8_reign (Nat.le_of_ble_eq_true rfl) (Nat.le_of_ble_eq_true rfl) hce 0 rfl rfl rfl rfl rfl (Nat.le_of_ble_eq_true rfl) rfl dL_law_570 ?_
      refine j_pop (pc := 573) F dL_law_573 rfl ?_
      refine j_goto (pc := 574) (tgt := 801) F dL_law_574 rfl ?_
      exact nx σS oh.2.1 oh.2.2 σV σQ σD ra om.2 hInv
    by_cases c_11 : op = 11
    · refine j_tabIn (pc := 33) (tgt := 577) F 11 dL_law_33 c_11 (by decide) (by decide) rfl rfl ?_
      obtain ⟨oh, om, eh, em, hInv⟩ := hI.2.2.2.2.2.2.2.2.2.2.2.1 aQ t σS σT σR σV σQ σD ra σM (xs (6 * t + 1)) ht hInv
      refine j_aload_n (pc := 577) F 1 dL_law_577 rfl rfl ?_
      refine j_aload_n (pc := 578) F 0 dL_law_578 rfl rfl ?_
      refine j_iload_n (pc := 579) F 3 dL_law_579 rfl rfl ?_
      refine j_iconst (pc := 580) F (v := 1) dL_law_580 rfl ?_
      refine j_iadd (pc := 581) F dL_law_581 ?_
      refine jl_ld (pc := 582) F hX hbl hbA hL31 (nI_add (6 * t) 1) (by omega) dL_law_582 ?_
      refine j_callWp (pc := 583) (st := []) (st1 := [.int oh.1]) (w' := wHs aH aS aT aR aV aD aQ cy σS oh.2.1 σR oh.2.2.1 oh.2.2.2.1 oh.2.2.2.2.1 oh.2.2.2.2.2 ++ wM aM cy σM) F hK hS hA (List.Perm.refl _) (List.Perm.refl _) (c_X7_record (l := l) (D := D) (cy := cy) (g := g) (aH := aH) (aS := aS) (aT := aT) (aR := aR) (aV := aV) (aD := aD) (aQ := aQ) eh) tm_453 cf_X7_record (Nat.le_of_ble_eq_true rfl) (Nat.le_of_ble_eq_true rfl) hce 0 rfl rfl rfl rfl rfl (Nat.le_of_ble_eq_true rfl) rfl dL_law_583 ?_
      refine j_pop (pc := 586) F dL_law_586 rfl ?_
      refine j_aload_n (pc := 587) F 2 dL_law_587 rfl rfl ?_
      refine j_aload_n (pc := 588) F 0 dL_law_588 rfl rfl ?_
      refine j_iload_n (pc := 589) F 3 dL_law_589 rfl rfl ?_
      refine j_iconst (pc := 590) F (v := 1) dL_law_590 rfl ?_
      refine j_iadd (pc := 591) F dL_law_591 ?_
      refine jl_ld (pc := 592) F hX hbl hbA hL31 (nI_add (6 * t) 1) (by omega) dL_law_592 ?_
      refine j_callWp (pc := 593) (st := []) (st1 := [.int om.1]) (w' := wHs aH aS aT aR aV aD aQ cy σS oh.2.1 σR oh.2.2.1 oh.2.2.2.1 oh.2.2.2.2.1 oh.2.2.2.2.2 ++ wM aM cy om.2) F hK hS hA List.perm_append_comm List.perm_append_comm (c_X8_record (l := l) (D := D) (cy := cy) (g := g) (aM := aM) em) tm_1097 cf_X8_record (Nat.le_of_ble_eq_true rfl) (Nat.le_of_ble_eq_true rfl) hce 0 rfl rfl rfl rfl rfl (Nat.le_of_ble_eq_true rfl) rfl dL_law_593 ?_
      refine j_pop (pc := 596) F dL_law_596 rfl ?_
      refine j_goto (pc := 597) (tgt := 801) F dL_law_597 rfl ?_
      exact nx σS oh.2.1 σR oh.2.2.1 oh.2.2.2.1 oh.2.2.2.2.1 oh.2.2.2.2.2 om.2 hInv
    by_cases c_12 : op = 12
    · refine j_tabIn (pc := 33) (tgt := 600) F 12 dL_law_33 c_12 (by decide) (by decide) rfl rfl ?_
      obtain ⟨oh, om, eh, em, hInv⟩ := hI.2.2.2.2.2.2.2.2.2.2.2.2.1 aQ t σS σT σR σV σQ σD ra σM (xs (6 * t + 1)) ht hInv
      refine j_aload_n (pc := 600) F 1 dL_law_600 rfl rfl ?_
      refine j_aload_n (pc := 601) F 0 dL_law_601 rfl rfl ?_
      refine j_iload_n (pc := 602) F 3 dL_law_602 rfl rfl ?_
      refine j_iconst (pc := 603) F (v := 1) dL_law_603 rfl ?_
      refine j_iadd (pc := 604) F dL_law_604 ?_
      refine jl_ld (pc := 605) F hX hbl hbA hL31 (nI_add (6 * t) 1) (by omega) dL_law_605 ?_
      refine j_callRV (pc := 606) (st := []) (st1 := [.int oh]) F hK (hpW hS (hp_perm (List.Perm.refl _))) (c_X7_fault (l := l) (D := D) (cy := cy) (g := g) (aH := aH) (aS := aS) (aT := aT) (aR := aR) (aV := aV) (aD := aD) (aQ := aQ) eh) tm_650 cf_X7_fault (Nat.le_of_ble_eq_true rfl) (Nat.le_of_ble_eq_true rfl) hce 0 rfl rfl rfl rfl rfl (Nat.le_of_ble_eq_true rfl) rfl dL_law_606 ?_
      refine j_pop (pc := 609) F dL_law_609 rfl ?_
      refine j_aload_n (pc := 610) F 2 dL_law_610 rfl rfl ?_
      refine j_aload_n (pc := 611) F 0 dL_law_611 rfl rfl ?_
      refine j_iload_n (pc := 612) F 3 dL_law_612 rfl rfl ?_
      refine j_iconst (pc := 613) F (v := 1) dL_law_613 rfl ?_
      refine j_iadd (pc := 614) F dL_law_614 ?_
      refine jl_ld (pc := 615) F hX hbl hbA hL31 (nI_add (6 * t) 1) (by omega) dL_law_615 ?_
      refine j_callRV (pc := 616) (st := []) (st1 := [.int om]) F hK (hpW hS (hp_perm List.perm_append_comm)) (c_X8_fault (l := l) (D := D) (cy := cy) (g := g) (aM := aM) em) tm_1140 cf_X8_fault (Nat.le_of_ble_eq_true rfl) (Nat.le_of_ble_eq_true rfl) hce 0 rfl rfl rfl rfl rfl (Nat.le_of_ble_eq_true rfl) rfl dL_law_616 ?_
      refine j_pop (pc := 619) F dL_law_619 rfl ?_
      refine j_goto (pc := 620) (tgt := 801) F dL_law_620 rfl ?_
      exact nx σS σT σR σV σQ σD ra σM hInv
    by_cases c_13 : op = 13
    · refine j_tabIn (pc := 33) (tgt := 623) F 13 dL_law_33 c_13 (by decide) (by decide) rfl rfl ?_
      obtain ⟨oh, om, eh, em, hInv⟩ := hI.2.2.2.2.2.2.2.2.2.2.2.2.2.1 aQ t σS σT σR σV σQ σD ra σM (xs (6 * t + 1)) (xs (6 * t + 2)) ht hInv
      refine j_aload_n (pc := 623) F 1 dL_law_623 rfl rfl ?_
      refine j_aload_n (pc := 624) F 0 dL_law_624 rfl rfl ?_
      refine j_iload_n (pc := 625) F 3 dL_law_625 rfl rfl ?_
      refine j_iconst (pc := 626) F (v := 1) dL_law_626 rfl ?_
      refine j_iadd (pc := 627) F dL_law_627 ?_
      refine jl_ld (pc := 628) F hX hbl hbA hL31 (nI_add (6 * t) 1) (by omega) dL_law_628 ?_
      refine j_aload_n (pc := 629) F 0 dL_law_629 rfl rfl ?_
      refine j_iload_n (pc := 630) F 3 dL_law_630 rfl rfl ?_
      refine j_iconst (pc := 631) F (v := 2) dL_law_631 rfl ?_
      refine j_iadd (pc := 632) F dL_law_632 ?_
      refine jl_ld (pc := 633) F hX hbl hbA hL31 (nI_add (6 * t) 2) (by omega) dL_law_633 ?_
      refine j_callWp (pc := 634) (st := []) (st1 := [.int oh.1]) (w' := wHs aH aS aT aR aV aD aQ cy oh.2 σT σR σV σQ σD ra ++ wM aM cy σM) F hK hS hA (List.Perm.refl _) (List.Perm.refl _) (c_X7_means (l := l) (D := D) (cy := cy) (g := g) (aH := aH) (aS := aS) (aT := aT) (aR := aR) (aV := aV) (aD := aD) (aQ := aQ) eh) tm_662 cf_X7_means (Nat.le_of_ble_eq_true rfl) (Nat.le_of_ble_eq_true rfl) hce 0 rfl rfl rfl rfl rfl (Nat.le_of_ble_eq_true rfl) rfl dL_law_634 ?_
      refine j_pop (pc := 637) F dL_law_637 rfl ?_
      refine j_aload_n (pc := 638) F 2 dL_law_638 rfl rfl ?_
      refine j_aload_n (pc := 639) F 0 dL_law_639 rfl rfl ?_
      refine j_iload_n (pc := 640) F 3 dL_law_640 rfl rfl ?_
      refine j_iconst (pc := 641) F (v := 1) dL_law_641 rfl ?_
      refine j_iadd (pc := 642) F dL_law_642 ?_
      refine jl_ld (pc := 643) F hX hbl hbA hL31 (nI_add (6 * t) 1) (by omega) dL_law_643 ?_
      refine j_aload_n (pc := 644) F 0 dL_law_644 rfl rfl ?_
      refine j_iload_n (pc := 645) F 3 dL_law_645 rfl rfl ?_
      refine j_iconst (pc := 646) F (v := 2) dL_law_646 rfl ?_
      refine j_iadd (pc := 647) F dL_law_647 ?_
      refine jl_ld (pc := 648) F hX hbl hbA hL31 (nI_add (6 * t) 2) (by omega) dL_law_648 ?_
      refine j_callWp (pc := 649) (st := []) (st1 := [.int om.1]) (w' := wHs aH aS aT aR aV aD aQ cy oh.2 σT σR σV σQ σD ra ++ wM aM cy om.2) F hK hS hA List.perm_append_comm List.perm_append_comm (c_X8_means (l := l) (D := D) (cy := cy) (g := g) (aM := aM) em) tm_1144 cf_X8_means (Nat.le_of_ble_eq_true rfl) (Nat.le_of_ble_eq_true rfl) hce 0 rfl rfl rfl rfl rfl (Nat.le_of_ble_eq_true rfl) rfl dL_law_649 ?_
      refine j_pop (pc := 652) F dL_law_652 rfl ?_
      refine j_goto (pc := 653) (tgt := 801) F dL_law_653 rfl ?_
      exact nx oh.2 σT σR σV σQ σD ra om.2 hInv
    by_cases c_14 : op = 14
    · refine j_tabIn (pc := 33) (tgt := 656) F 14 dL_law_33 c_14 (by decide) (by decide) rfl rfl ?_
      obtain ⟨oh, om, eh, em, hInv⟩ := hI.2.2.2.2.2.2.2.2.2.2.2.2.2.2.1 aQ t σS σT σR σV σQ σD ra σM (xs (6 * t + 1)) (xs (6 * t + 2)) (xs (6 * t + 3)) ht hInv
      refine j_aload_n (pc := 656) F 1 dL_law_656 rfl rfl ?_
      refine j_aload_n (pc := 657) F 0 dL_law_657 rfl rfl ?_
      refine j_iload_n (pc := 658) F 3 dL_law_658 rfl rfl ?_
      refine j_iconst (pc := 659) F (v := 1) dL_law_659 rfl ?_
      refine j_iadd (pc := 660) F dL_law_660 ?_
      refine jl_ld (pc := 661) F hX hbl hbA hL31 (nI_add (6 * t) 1) (by omega) dL_law_661 ?_
      refine j_aload_n (pc := 662) F 0 dL_law_662 rfl rfl ?_
      refine j_iload_n (pc := 663) F 3 dL_law_663 rfl rfl ?_
      refine j_iconst (pc := 664) F (v := 2) dL_law_664 rfl ?_
      refine j_iadd (pc := 665) F dL_law_665 ?_
      refine jl_ld (pc := 666) F hX hbl hbA hL31 (nI_add (6 * t) 2) (by omega) dL_law_666 ?_
      refine j_aload_n (pc := 667) F 0 dL_law_667 rfl rfl ?_
      refine j_iload_n (pc := 668) F 3 dL_law_668 rfl rfl ?_
      refine j_iconst (pc := 669) F (v := 3) dL_law_669 rfl ?_
      refine j_iadd (pc := 670) F dL_law_670 ?_
      refine jl_ld (pc := 671) F hX hbl hbA hL31 (nI_add (6 * t) 3) (by omega) dL_law_671 ?_
      refine j_callWp (pc := 672) (st := []) (st1 := [.int oh.1]) (w' := wHs aH aS aT aR aV aD aQ cy oh.2 σT σR σV σQ σD ra ++ wM aM cy σM) F hK hS hA (List.Perm.refl _) (List.Perm.refl _) (c_X7_meant (l := l) (D := D) (cy := cy) (g := g) (aH := aH) (aS := aS) (aT := aT) (aR := aR) (aV := aV) (aD := aD) (aQ := aQ) eh) tm_732 cf_X7_meant (Nat.le_of_ble_eq_true rfl) (Nat.le_of_ble_eq_true rfl) hce 0 rfl rfl rfl rfl rfl (Nat.le_of_ble_eq_true rfl) rfl dL_law_672 ?_
      refine j_pop (pc := 675) F dL_law_675 rfl ?_
      refine j_aload_n (pc := 676) F 2 dL_law_676 rfl rfl ?_
      refine j_aload_n (pc := 677) F 0 dL_law_677 rfl rfl ?_
      refine j_iload_n (pc := 678) F 3 dL_law_678 rfl rfl ?_
      refine j_iconst (pc := 679) F (v := 1) dL_law_679 rfl ?_
      refine j_iadd (pc := 680) F dL_law_680 ?_
      refine jl_ld (pc := 681) F hX hbl hbA hL31 (nI_add (6 * t) 1) (by omega) dL_law_681 ?_
      refine j_aload_n (pc := 682) F 0 dL_law_682 rfl rfl ?_
      refine j_iload_n (pc := 683) F 3 dL_law_683 rfl rfl ?_
      refine j_iconst (pc := 684) F (v := 2) dL_law_684 rfl ?_
      refine j_iadd (pc := 685) F dL_law_685 ?_
      refine jl_ld (pc := 686) F hX hbl hbA hL31 (nI_add (6 * t) 2) (by omega) dL_law_686 ?_
      refine j_aload_n (pc := 687) F 0 dL_law_687 rfl rfl ?_
      refine j_iload_n (pc := 688) F 3 dL_law_688 rfl rfl ?_
      refine j_iconst (pc := 689) F (v := 3) dL_law_689 rfl ?_
      refine j_iadd (pc := 690) F dL_law_690 ?_
      refine jl_ld (pc := 691) F hX hbl hbA hL31 (nI_add (6 * t) 3) (by omega) dL_law_691 ?_
      refine j_callWp (pc := 692) (st := []) (st1 := [.int om.1]) (w' := wHs aH aS aT aR aV aD aQ cy oh.2 σT σR σV σQ σD ra ++ wM aM cy om.2) F hK hS hA List.perm_append_comm List.perm_append_comm (c_X8_meant (l := l) (D := D) (cy := cy) (g := g) (aM := aM) em) tm_1160 cf_X8_meant (Nat.le_of_ble_eq_true rfl) (Nat.le_of_ble_eq_true rfl) hce 0 rfl rfl rfl rfl rfl (Nat.le_of_ble_eq_true rfl) rfl dL_law_692 ?_
      refine j_pop (pc := 695) F dL_law_695 rfl ?_
      refine j_goto (pc := 696) (tgt := 801) F dL_law_696 rfl ?_
      exact nx oh.2 σT σR σV σQ σD ra om.2 hInv
    by_cases c_15 : op = 15
    · refine j_tabIn (pc := 33) (tgt := 699) F 15 dL_law_33 c_15 (by decide) (by decide) rfl rfl ?_
      obtain ⟨oh, om, eh, em, hInv⟩ := hI.2.2.2.2.2.2.2.2.2.2.2.2.2.2.2.1 aQ t σS σT σR σV σQ σD ra σM (xs (6 * t + 1)) (xs (6 * t + 2)) ht hInv
      refine j_aload_n (pc := 699) F 1 dL_law_699 rfl rfl ?_
      refine j_aload_n (pc := 700) F 0 dL_law_700 rfl rfl ?_
      refine j_iload_n (pc := 701) F 3 dL_law_701 rfl rfl ?_
      refine j_iconst (pc := 702) F (v := 1) dL_law_702 rfl ?_
      refine j_iadd (pc := 703) F dL_law_703 ?_
      refine jl_ld (pc := 704) F hX hbl hbA hL31 (nI_add (6 * t) 1) (by omega) dL_law_704 ?_
      refine j_aload_n (pc := 705) F 0 dL_law_705 rfl rfl ?_
      refine j_iload_n (pc := 706) F 3 dL_law_706 rfl rfl ?_
      refine j_iconst (pc := 707) F (v := 2) dL_law_707 rfl ?_
      refine j_iadd (pc := 708) F dL_law_708 ?_
      refine jl_ld (pc := 709) F hX hbl hbA hL31 (nI_add (6 * t) 2) (by omega) dL_law_709 ?_
      refine j_callWp (pc := 710) (st := []) (st1 := [.int oh.1]) (w' := wHs aH aS aT aR aV aD aQ cy oh.2 σT σR σV σQ σD ra ++ wM aM cy σM) F hK hS hA (List.Perm.refl _) (List.Perm.refl _) (c_X7_slips (l := l) (D := D) (cy := cy) (g := g) (aH := aH) (aS := aS) (aT := aT) (aR := aR) (aV := aV) (aD := aD) (aQ := aQ) eh) tm_741 cf_X7_slips (Nat.le_of_ble_eq_true rfl) (Nat.le_of_ble_eq_true rfl) hce 0 rfl rfl rfl rfl rfl (Nat.le_of_ble_eq_true rfl) rfl dL_law_710 ?_
      refine j_pop (pc := 713) F dL_law_713 rfl ?_
      refine j_aload_n (pc := 714) F 2 dL_law_714 rfl rfl ?_
      refine j_aload_n (pc := 715) F 0 dL_law_715 rfl rfl ?_
      refine j_iload_n (pc := 716) F 3 dL_law_716 rfl rfl ?_
      refine j_iconst (pc := 717) F (v := 1) dL_law_717 rfl ?_
      refine j_iadd (pc := 718) F dL_law_718 ?_
      refine jl_ld (pc := 719) F hX hbl hbA hL31 (nI_add (6 * t) 1) (by omega) dL_law_719 ?_
      refine j_aload_n (pc := 720) F 0 dL_law_720 rfl rfl ?_
      refine j_iload_n (pc := 721) F 3 dL_law_721 rfl rfl ?_
      refine j_iconst (pc := 722) F (v := 2) dL_law_722 rfl ?_
      refine j_iadd (pc := 723) F dL_law_723 ?_
      refine jl_ld (pc := 724) F hX hbl hbA hL31 (nI_add (6 * t) 2) (by omega) dL_law_724 ?_
      refine j_callWp (pc := 725) (st := []) (st1 := [.int om.1]) (w' := wHs aH aS aT aR aV aD aQ cy oh.2 σT σR σV σQ σD ra ++ wM aM cy om.2) F hK hS hA List.perm_append_comm List.perm_append_comm (c_X8_slips (l := l) (D := D) (cy := cy) (g := g) (aM := aM) em) tm_1164 cf_X8_slips (Nat.le_of_ble_eq_true rfl) (Nat.le_of_ble_eq_true rfl) hce 0 rfl rfl rfl rfl rfl (Nat.le_of_ble_eq_true rfl) rfl dL_law_725 ?_
      refine j_pop (pc := 728) F dL_law_728 rfl ?_
      refine j_goto (pc := 729) (tgt := 801) F dL_law_729 rfl ?_
      exact nx oh.2 σT σR σV σQ σD ra om.2 hInv
    by_cases c_16 : op = 16
    · refine j_tabIn (pc := 33) (tgt := 732) F 16 dL_law_33 c_16 (by decide) (by decide) rfl rfl ?_
      obtain ⟨oh, om, eh, em, hInv⟩ := hI.2.2.2.2.2.2.2.2.2.2.2.2.2.2.2.2.1 aQ t σS σT σR σV σQ σD ra σM (xs (6 * t + 1)) ht hInv
      refine j_aload_n (pc := 732) F 1 dL_law_732 rfl rfl ?_
      refine j_aload_n (pc := 733) F 0 dL_law_733 rfl rfl ?_
      refine j_iload_n (pc := 734) F 3 dL_law_734 rfl rfl ?_
      refine j_iconst (pc := 735) F (v := 1) dL_law_735 rfl ?_
      refine j_iadd (pc := 736) F dL_law_736 ?_
      refine jl_ld (pc := 737) F hX hbl hbA hL31 (nI_add (6 * t) 1) (by omega) dL_law_737 ?_
      refine j_callWp (pc := 738) (st := []) (st1 := [.int oh.1]) (w' := wHs aH aS aT aR aV aD aQ cy oh.2.1 σT σR σV oh.2.2 σD ra ++ wM aM cy σM) F hK hS hA (List.Perm.refl _) (List.Perm.refl _) (c_X7_lets (l := l) (D := D) (cy := cy) (g := g) (aH := aH) (aS := aS) (aT := aT) (aR := aR) (aV := aV) (aD := aD) (aQ := aQ) eh) tm_750 cf_X7_lets (Nat.le_of_ble_eq_true rfl) (Nat.le_of_ble_eq_true rfl) hce 0 rfl rfl rfl rfl rfl (Nat.le_of_ble_eq_true rfl) rfl dL_law_738 ?_
      refine j_pop (pc := 741) F dL_law_741 rfl ?_
      refine j_aload_n (pc := 742) F 2 dL_law_742 rfl rfl ?_
      refine j_aload_n (pc := 743) F 0 dL_law_743 rfl rfl ?_
      refine j_iload_n (pc := 744) F 3 dL_law_744 rfl rfl ?_
      refine j_iconst (pc := 745) F (v := 1) dL_law_745 rfl ?_
      refine j_iadd (pc := 746) F dL_law_746 ?_
      refine jl_ld (pc := 747) F hX hbl hbA hL31 (nI_add (6 * t) 1) (by omega) dL_law_747 ?_
      refine j_callWp (pc := 748) (st := []) (st1 := [.int om.1]) (w' := wHs aH aS aT aR aV aD aQ cy oh.2.1 σT σR σV oh.2.2 σD ra ++ wM aM cy om.2) F hK hS hA List.perm_append_comm List.perm_append_comm (c_X8_lets (l := l) (D := D) (cy := cy) (g := g) (aM := aM) em) tm_1168 cf_X8_lets (Nat.le_of_ble_eq_true rfl) (Nat.le_of_ble_eq_true rfl) hce 0 rfl rfl rfl rfl rfl (Nat.le_of_ble_eq_true rfl) rfl dL_law_748 ?_
      refine j_pop (pc := 751) F dL_law_751 rfl ?_
      refine j_goto (pc := 752) (tgt := 801) F dL_law_752 rfl ?_
      exact nx oh.2.1 σT σR σV oh.2.2 σD ra om.2 hInv
    by_cases c_17 : op = 17
    · refine j_tabIn (pc := 33) (tgt := 755) F 17 dL_law_33 c_17 (by decide) (by decide) rfl rfl ?_
      obtain ⟨oh, om, eh, em, hInv⟩ := hI.2.2.2.2.2.2.2.2.2.2.2.2.2.2.2.2.2.1 aQ t σS σT σR σV σQ σD ra σM (xs (6 * t + 1)) ht hInv
      refine j_aload_n (pc := 755) F 1 dL_law_755 rfl rfl ?_
      refine j_aload_n (pc := 756) F 0 dL_law_756 rfl rfl ?_
      refine j_iload_n (pc := 757) F 3 dL_law_757 rfl rfl ?_
      refine j_iconst (pc := 758) F (v := 1) dL_law_758 rfl ?_
      refine j_iadd (pc := 759) F dL_law_759 ?_
      refine jl_ld (pc := 760) F hX hbl hbA hL31 (nI_add (6 * t) 1) (by omega) dL_law_760 ?_
      refine j_callWp (pc := 761) (st := []) (st1 := [.int oh.1]) (w' := wHs aH aS aT aR aV aD aQ cy oh.2.1 σT σR σV oh.2.2 σD ra ++ wM aM cy σM) F hK hS hA (List.Perm.refl _) (List.Perm.refl _) (c_X7_slow (l := l) (D := D) (cy := cy) (g := g) (aH := aH) (aS := aS) (aT := aT) (aR := aR) (aV := aV) (aD := aD) (aQ := aQ) eh) tm_777 cf_X7_slow (Nat.le_of_ble_eq_true rfl) (Nat.le_of_ble_eq_true rfl) hce 0 rfl rfl rfl rfl rfl (Nat.le_of_ble_eq_true rfl) rfl dL_law_761 ?_
      refine j_pop (pc := 764) F dL_law_764 rfl ?_
      refine j_aload_n (pc := 765) F 2 dL_law_765 rfl rfl ?_
      refine j_aload_n (pc := 766) F 0 dL_law_766 rfl rfl ?_
      refine j_iload_n (pc := 767) F 3 dL_law_767 rfl rfl ?_
      refine j_iconst (pc := 768) F (v := 1) dL_law_768 rfl ?_
      refine j_iadd (pc := 769) F dL_law_769 ?_
      refine jl_ld (pc := 770) F hX hbl hbA hL31 (nI_add (6 * t) 1) (by omega) dL_law_770 ?_
      refine j_callWp (pc := 771) (st := []) (st1 := [.int om.1]) (w' := wHs aH aS aT aR aV aD aQ cy oh.2.1 σT σR σV oh.2.2 σD ra ++ wM aM cy om.2) F hK hS hA List.perm_append_comm List.perm_append_comm (c_X8_slow (l := l) (D := D) (cy := cy) (g := g) (aM := aM) em) tm_1176 cf_X8_slow (Nat.le_of_ble_eq_true rfl) (Nat.le_of_ble_eq_true rfl) hce 0 rfl rfl rfl rfl rfl (Nat.le_of_ble_eq_true rfl) rfl dL_law_771 ?_
      refine j_pop (pc := 774) F dL_law_774 rfl ?_
      refine j_goto (pc := 775) (tgt := 801) F dL_law_775 rfl ?_
      exact nx oh.2.1 σT σR σV oh.2.2 σD ra om.2 hInv
    by_cases c_18 : op = 18
    · refine j_tabIn (pc := 33) (tgt := 778) F 18 dL_law_33 c_18 (by decide) (by decide) rfl rfl ?_
      obtain ⟨oh, om, eh, em, ev, hInv⟩ := hI.2.2.2.2.2.2.2.2.2.2.2.2.2.2.2.2.2.2.1 aQ t σS σT σR σV σQ σD ra σM (xs (6 * t + 1)) ht hInv
      refine j_aload_n (pc := 778) F 1 dL_law_778 rfl rfl ?_
      refine j_aload_n (pc := 779) F 0 dL_law_779 rfl rfl ?_
      refine j_iload_n (pc := 780) F 3 dL_law_780 rfl rfl ?_
      refine j_iconst (pc := 781) F (v := 1) dL_law_781 rfl ?_
      refine j_iadd (pc := 782) F dL_law_782 ?_
      refine jl_ld (pc := 783) F hX hbl hbA hL31 (nI_add (6 * t) 1) (by omega) dL_law_783 ?_
      refine j_callWp (pc := 784) (st := []) (st1 := [.int oh.1]) (w' := wHs aH aS aT aR aV aD aQ cy σS σT σR oh.2 σQ σD ra ++ wM aM cy σM) F hK hS hA (List.Perm.refl _) (List.Perm.refl _) (c_X7_drop (l := l) (D := D) (cy := cy) (g := g) (aH := aH) (aS := aS) (aT := aT) (aR := aR) (aV := aV) (aD := aD) (aQ := aQ) eh) tm_801 cf_X7_drop (Nat.le_of_ble_eq_true rfl) (Nat.le_of_ble_eq_true rfl) hce 0 rfl rfl rfl rfl rfl (Nat.le_of_ble_eq_true rfl) rfl dL_law_784 ?_
      refine j_aload_n (pc := 787) F 2 dL_law_787 rfl rfl ?_
      refine j_aload_n (pc := 788) F 0 dL_law_788 rfl rfl ?_
      refine j_iload_n (pc := 789) F 3 dL_law_789 rfl rfl ?_
      refine j_iconst (pc := 790) F (v := 1) dL_law_790 rfl ?_
      refine j_iadd (pc := 791) F dL_law_791 ?_
      refine jl_ld (pc := 792) F hX hbl hbA hL31 (nI_add (6 * t) 1) (by omega) dL_law_792 ?_
      refine j_callWp (pc := 793) (st := [.int oh.1]) (st1 := [.int om.1, .int oh.1]) (w' := wHs aH aS aT aR aV aD aQ cy σS σT σR oh.2 σQ σD ra ++ wM aM cy om.2) F hK hS hA List.perm_append_comm List.perm_append_comm (c_X8_drop (l := l) (D := D) (cy := cy) (g := g) (aM := aM) em) tm_1180 cf_X8_drop (Nat.le_of_ble_eq_true rfl) (Nat.le_of_ble_eq_true rfl) hce 0 rfl rfl rfl rfl rfl (Nat.le_of_ble_eq_true rfl) rfl dL_law_793 ?_
      refine j_icmp_eq (pc := 796) (tgt := 801) F dL_law_796 rfl (fun _ => ?_) (fun h => absurd ev h)
      exact nx σS σT σR oh.2 σQ σD ra om.2 hInv
    refine j_tabOut (pc := 33) (n := 18) (tgt := 801) F dL_law_33 (by decide) (fun j hj => match j, hj with | 0, _ => c_0 | 1, _ => c_1 | 2, _ => c_2 | 3, _ => c_3 | 4, _ => c_4 | 5, _ => c_5 | 6, _ => c_6 | 7, _ => c_7 | 8, _ => c_8 | 9, _ => c_9 | 10, _ => c_10 | 11, _ => c_11 | 12, _ => c_12 | 13, _ => c_13 | 14, _ => c_14 | 15, _ => c_15 | 16, _ => c_16 | 17, _ => c_17 | 18, _ => c_18 | j + 19, hj => absurd hj (by omega)) rfl ?_
    exact nx σS σT σR σV σQ σD ra σM (hI.2.2.2.2.2.2.2.2.2.2.2.2.2.2.2.2.2.2.2 t σS σT σR σV σQ σD σM hInv)
