/-! REFERENCES: null, the accounts by their numbers, the house's own worlds -/
def flV (a : Nat → Nat) (σ : St2 × (Nat → Nat)) : List Value := [.ref (a 1), .int (σ.1 0 1)]
def wV (a : Nat → Nat) (aQ : Nat → Nat → Nat) (cy : Nat → ClassId) (σ : St2 × (Nat → Nat)) : va_W := [(a 0, .inr (1, flV a σ)), (a 1, .inl (cy 3, 8, .inr (.inr (.inr (.inr (fun i => some (aQ (σ.2 i) 0)))))))]
def wQ (aQ : Nat → Nat → Nat) (cy : Nat → ClassId) (σ : Nat → (St2 × Int64)) : va_W := wA (aQ 0) cy (σ 0) ++ (wA (aQ 1) cy (σ 1) ++ (wA (aQ 2) cy (σ 2) ++ (wA (aQ 3) cy (σ 3) ++ (wA (aQ 4) cy (σ 4) ++ (wA (aQ 5) cy (σ 5) ++ (wA (aQ 6) cy (σ 6) ++ wA (aQ 7) cy (σ 7)))))))
def wH (a aS aT aR aV aD : Nat → Nat) : va_W := [(a 0, .inr (6, [.ref (aS 0), .ref (aT 0), .ref (aR 0), .ref (aV 0), .ref (aD 0)]))]
/-- an account that may lack -/
def oc {β : Type} (o : Option Nat) (a : β) (f : Nat → β) : β := match o with
  | none => a
  | some j => f j
theorem oc_n {β : Type} {a x : β} {f : Nat → β} (h : oc none a f = x) : a = x := h
theorem oc_s {β : Type} {j : Nat} {a x : β} {f : Nat → β} (h : oc (some j) a f = x) : f j = x := h
theorem lt8 {j : Nat} (h : ¬ 8 ≤ j) : j = 0 ∨ j = 1 ∨ j = 2 ∨ j = 3 ∨ j = 4 ∨ j = 5 ∨ j = 6 ∨ j = 7 := by omega
theorem wVQ_at {aV : Nat → Nat} {aQ : Nat → Nat → Nat} {cy : Nat → ClassId} {σV : St2 × (Nat → Nat)} {σQ : Nat → (St2 × Int64)} {j : Nat} (h : ¬ 8 ≤ j) : (wV aV aQ cy σV ++ wQ aQ cy σQ)[2 + 2 * j]? = some (aQ j 0, .inr (0, flA (aQ j) (σQ j))) := by
  rcases lt8 h with rfl | rfl | rfl | rfl | rfl | rfl | rfl | rfl <;> rfl
section REFS
variable {p : Program} {l : Launch} {e : Env} {R : Room} {s : State} {m : MethodId} {args : Array Value} {below : List Frame} {meth : Method} {c : Code}
variable {cc : ByteArray} {own : String} {nL : Nat} {ret : Option FieldType} {HP : Heap → List Loc → Prop} {Q : State → Prop} {ce sl : Nat}
variable {pc : Nat} {lv lv' : List (Nat × Value)} {st st0 : List Value} {D : va_G} {cy : Nat → ClassId} {g : Gs} {A : Nat → Prop} {w w' wc wr : va_W}
theorem j_stk {st' : List Value} (h : st = st') (k : J p l e R s m args below meth c nL HP ce sl Q pc lv st') : J p l e R s m args below meth c nL HP ce sl Q pc lv st := h ▸ k
theorem j_null (F : Fx p s m args meth c cc own nL ret) (d : decode cc pc = .ok (.aconst_null, 1)) (k : J p l e R s m args below meth c nL HP ce sl Q (pc + 1) lv (.null :: st)) : J p l e R s m args below meth c nL HP ce sl Q pc lv st := fun H locs ls hH hl => lv_null F.1 F.2.1 d (k H locs ls hH hl)
theorem j_aload_nN (F : Fx p s m args meth c cc own nL ret) (q : Nat) {k : Fin 4} {i : Nat} (d : decode cc pc = .ok (.aload_n k, 1)) (hi : (k : Nat) = i) (hq : lv[q]? = some (i, .null)) (kk : J p l e R s m args below meth c nL HP ce sl Q (pc + 1) lv (.null :: st)) : J p l e R s m args below meth c nL HP ce sl Q pc lv st := fun H locs ls hH hl => lv_aload_nN F.1 F.2.1 d hi (lv_at hl q hq) (kk H locs ls hH hl)
theorem j_aloadN (F : Fx p s m args meth c cc own nL ret) (q : Nat) {i : Nat} (d : decode cc pc = .ok (.aload i, 2)) (hq : lv[q]? = some (i, .null)) (kk : J p l e R s m args below meth c nL HP ce sl Q (pc + 2) lv (.null :: st)) : J p l e R s m args below meth c nL HP ce sl Q pc lv st := fun H locs ls hH hl => lv_aloadN F.1 F.2.1 d (lv_at hl q hq) (kk H locs ls hH hl)
theorem j_astore_nN (F : Fx p s m args meth c cc own nL ret) {k : Fin 4} {i : Nat} (d : decode cc pc = .ok (.astore_n k, 1)) (hi : (k : Nat) = i) (hn : i < nL) (hl : (i, Value.null) :: lv.filter (fun q => !(q.1 == i) && !(q.1 + 1 == i && q.2.category == 2)) = lv') (kk : J p l e R s m args below meth c nL HP ce sl Q (pc + 1) lv' st) : J p l e R s m args below meth c nL HP ce sl Q pc lv (.null :: st) := fun H locs ls hH h => lv_astore_nN F.1 F.2.1 d hi h hn hl (fun ls h => kk H locs ls hH h)
theorem j_astoreN (F : Fx p s m args meth c cc own nL ret) {i : Nat} (d : decode cc pc = .ok (.astore i, 2)) (hn : i < nL) (hl : (i, Value.null) :: lv.filter (fun q => !(q.1 == i) && !(q.1 + 1 == i && q.2.category == 2)) = lv') (kk : J p l e R s m args below meth c nL HP ce sl Q (pc + 2) lv' st) : J p l e R s m args below meth c nL HP ce sl Q pc lv (.null :: st) := fun H locs ls hH h => lv_astoreN F.1 F.2.1 d h hn hl (fun ls h => kk H locs ls hH h)
theorem j_ifnonnull (F : Fx p s m args meth c cc own nL ret) {x : Nat} {off : Int} {tgt : Nat} (d : decode cc pc = .ok (.ifnonnull off, 3)) (ht : (pc : Int) + off = (tgt : Int)) (k : J p l e R s m args below meth c nL HP ce sl Q tgt lv st) : J p l e R s m args below meth c nL HP ce sl Q pc lv (.ref x :: st) := fun H locs ls hH hl => lv_ifnonnull F.1 F.2.1 d ht (k H locs ls hH hl)
theorem j_ifnull (F : Fx p s m args meth c cc own nL ret) {x : Nat} {off : Int} (d : decode cc pc = .ok (.ifnull off, 3)) (k : J p l e R s m args below meth c nL HP ce sl Q (pc + 3) lv st) : J p l e R s m args below meth c nL HP ce sl Q pc lv (.ref x :: st) := fun H locs ls hH hl => lv_ifnull F.1 F.2.1 d (k H locs ls hH hl)
theorem j_ifnullN (F : Fx p s m args meth c cc own nL ret) {off : Int} {tgt : Nat} (d : decode cc pc = .ok (.ifnull off, 3)) (ht : (pc : Int) + off = (tgt : Int)) (k : J p l e R s m args below meth c nL HP ce sl Q tgt lv st) : J p l e R s m args below meth c nL HP ce sl Q pc lv (.null :: st) := fun H locs ls hH hl => lv_ifnullN F.1 F.2.1 d ht (k H locs ls hH hl)
theorem j_ifnonnullN (F : Fx p s m args meth c cc own nL ret) {off : Int} (d : decode cc pc = .ok (.ifnonnull off, 3)) (k : J p l e R s m args below meth c nL HP ce sl Q (pc + 3) lv st) : J p l e R s m args below meth c nL HP ce sl Q pc lv (.null :: st) := fun H locs ls hH hl => lv_ifnonnullN F.1 F.2.1 d (k H locs ls hH hl)
theorem j_aretR {x : Value} {o : Option Nat} {f : Nat → Nat} (F : Fx p s m args meth c cc own nL (some (.object "EclipseHouse$Account"))) (d : decode cc pc = .ok (.areturn, 1)) (h : x = va_rf (o.map f)) : J p l e R s m args below meth c nL (hR s) 0 0 (MQ below (QR (some (va_rf (o.map f)))) args s 0 0 nA) pc lv [x] := by
  subst h
  intro H locs ls hH hl
  exact W.aret F.1 F.2.1 F.2.2.1 (Or.inl ⟨_, rfl⟩) (va_rf_or _) (fun t ht _ => ⟨rfl, by rw [ht]; exact hH.1⟩) (by rw [hH.2]; intro q h; cases h) d F.2.2.2.2.2.2
theorem jr_aald (F : Fx p s m args meth c cc own nL ret) (hK : va_K D vwCl (tys cy) s) (hP : va_P D vwCl w s.heap) {a n : Nat} {f : Nat → Option Nat} {i : Int32} {v : Value} (q0 : Nat) (he : w[q0]? = some (a, .inl (cy 3, n, .inr (.inr (.inr (.inr f)))))) (hin : ¬ (i < 0 ∨ n ≤ i.toNatClampNeg)) (hv : va_rf (f i.toNatClampNeg) = v) (d : decode cc pc = .ok (.aaload, 1)) (kk : J p l e R s m args below meth c nL (hR s) ce sl Q (pc + 1) lv (v :: st)) : J p l e R s m args below meth c nL (hR s) ce sl Q pc lv (.int i :: .ref a :: st) := by
  subst hv
  intro H locs ls hH hl
  have hP' : va_P D vwCl w H := by rw [hH.1]; exact hP
  exact va_aldq F.1 F.2.1 hK hP' q0 3 he rfl hin d (kk H locs ls hH hl)
theorem jw_aald (F : Fx p s m args meth c cc own nL ret) (hK : va_K D vwCl (tys cy) s) {a n : Nat} {f : Nat → Option Nat} {i : Int32} {v : Value} (q0 : Nat) (he : w[q0]? = some (a, .inl (cy 3, n, .inr (.inr (.inr (.inr f)))))) (hin : ¬ (i < 0 ∨ n ≤ i.toNatClampNeg)) (hv : va_rf (f i.toNatClampNeg) = v) (d : decode cc pc = .ok (.aaload, 1)) (kk : J p l e R s m args below meth c nL (hW D A s w) ce sl Q (pc + 1) lv (v :: st)) : J p l e R s m args below meth c nL (hW D A s w) ce sl Q pc lv (.int i :: .ref a :: st) := by
  subst hv
  intro H locs ls hH hl
  exact va_aldq F.1 F.2.1 hK hH.1 q0 3 he rfl hin d (kk H locs ls hH hl)
theorem pi_up (aQ : Nat → Nat → Nat) (π : Nat → Nat) (k j : Nat) : va_up (fun i => some (aQ (π i) 0)) k (some (aQ j 0)) = fun i => some (aQ (va_up π k j i) 0) := by
  funext i
  unfold va_up
  by_cases h : i = k
  · simp [h]
  · simp [h]
theorem jw_aastQ (F : Fx p s m args meth c cc own nL ret) (hK : va_K D vwCl (tys cy) s) {aV : Nat → Nat} {aQ : Nat → Nat → Nat} {σ : St2} {π : Nat → Nat} {σQ : Nat → (St2 × Int64)} {i : Int32} {j : Nat} (hj : ¬ 8 ≤ j) (hin : ¬ (i < 0 ∨ 8 ≤ i.toNatClampNeg)) (d : decode cc pc = .ok (.aastore, 1)) (kk : J p l e R s m args below meth c nL (hW D A s (wV aV aQ cy (σ, va_up π i.toNatClampNeg j) ++ wQ aQ cy σQ)) ce sl Q (pc + 1) lv st) : J p l e R s m args below meth c nL (hW D A s (wV aV aQ cy (σ, π) ++ wQ aQ cy σQ)) ce sl Q pc lv (.ref (aQ j 0) :: .int i :: .ref (aV 1) :: st) := by
  intro H locs ls hH hl
  refine va_astq F.1 F.2.1 hK hH.1 hH.2.1 hH.2.2 1 3 (2 + 2 * j) 0 (r := (RX0, TX0, 7)) rfl rfl (wVQ_at hj) rfl hin d (fun H1 locs1 h1 h2 h3 => kk H1 locs1 ls ⟨?_, ?_, h3⟩ hl)
  · have e : wV aV aQ cy (σ, va_up π i.toNatClampNeg j) ++ wQ aQ cy σQ = (wV aV aQ cy (σ, π) ++ wQ aQ cy σQ).set 1 (aV 1, .inl (cy 3, 8, .inr (.inr (.inr (.inr (va_up (fun i => some (aQ (π i) 0)) i.toNatClampNeg (some (aQ j 0)))))))) := by rw [pi_up]; rfl
    rw [e]; exact h1
  · have e : wV aV aQ cy (σ, va_up π i.toNatClampNeg j) ++ wQ aQ cy σQ = (wV aV aQ cy (σ, π) ++ wQ aQ cy σQ).set 1 (aV 1, .inl (cy 3, 8, .inr (.inr (.inr (.inr (va_up (fun i => some (aQ (π i) 0)) i.toNatClampNeg (some (aQ j 0)))))))) := by rw [pi_up]; rfl
    rw [e]; exact h2
theorem j_look (F : Fx p s m args meth c cc own nL ret) {dflt : Int} {ps : Array (Int × Int)} {len : Nat} {x : Int32} {off : Int} {tgt : Nat} (d : decode cc pc = .ok (.lookupswitch dflt ps, len)) (hp : (ps.toList.zip (ps.toList.drop 1)).all (fun (a, next) => a.1 < next.1) = true) (ho : Op.lookupswitch.offset ps.toList dflt x.toInt = off) (ht : (pc : Int) + off = (tgt : Int)) (k : J p l e R s m args below meth c nL HP ce sl Q tgt lv st) : J p l e R s m args below meth c nL HP ce sl Q pc lv (.int x :: st) := fun H locs ls hH hl => lv_lookup F.1 F.2.1 d hp ho ht (k H locs ls hH hl)
end REFS
