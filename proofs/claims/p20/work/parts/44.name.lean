/-! names: five bits a letter, and letters in base 27 -/
theorem iI_nat {n : Nat} (h : n < 2147483648) : (iI (n : Int)).toBitVec.toNat = n := by
  show (BitVec.ofInt 32 (n : Int)).toNat = n
  rw [BitVec.toNat_ofInt]
  omega
theorem shl5 {a v : Nat} (ha : a < 33554432) (hv : v < 32) : (iI (a : Int) <<< (5 &&& 31 : Int32)) ||| iI (v : Int) = iI ((32 * a + v : Nat) : Int) := by
  apply Int32.toBitVec_inj.mp
  apply BitVec.eq_of_toNat_eq
  rw [Int32.toBitVec_or, BitVec.toNat_or, iI_nat (n := v) (by omega), iI_nat (n := 32 * a + v) (by omega)]
  have e : (iI (a : Int) <<< (5 &&& 31 : Int32)).toBitVec.toNat = a <<< 5 := by
    rw [Int32.toBitVec_shiftLeft]
    show ((iI (a : Int)).toBitVec <<< (5#32)).toNat = _
    rw [BitVec.shiftLeft_eq', BitVec.toNat_shiftLeft, iI_nat (by omega)]
    show a <<< 5 % 2 ^ 32 = a <<< 5
    rw [Nat.shiftLeft_eq]
    omega
  rw [e, ← Nat.shiftLeft_add_eq_or_of_lt (show v < 2 ^ 5 by omega), Nat.shiftLeft_eq]
  omega
/-- a name's letters, the last one first, as one number -/
def en (b : Nat) : List Nat → Nat
  | [] => 0
  | v :: L => b * en b L + v
def letters (L : List Nat) : Prop := ∀ v, v ∈ L → 1 ≤ v ∧ v ≤ 26
theorem en_inj32 : ∀ (L M : List Nat), letters L → letters M → en 32 L = en 32 M → L = M
  | [], [], _, _, _ => rfl
  | [], w :: M, _, h, e => by
    have e' : 0 = 32 * en 32 M + w := e
    have := (h w (List.mem_cons_self ..)).1
    omega
  | v :: L, [], h, _, e => by
    have e' : 32 * en 32 L + v = 0 := e
    have := (h v (List.mem_cons_self ..)).1
    omega
  | v :: L, w :: M, h, g, e => by
    have e' : 32 * en 32 L + v = 32 * en 32 M + w := e
    have h1 := (h v (List.mem_cons_self ..)).2
    have h2 := (g w (List.mem_cons_self ..)).2
    have e1 : v = w := by omega
    have e2 : en 32 L = en 32 M := by omega
    rw [e1, en_inj32 L M (fun x hx => h x (List.mem_cons_of_mem _ hx)) (fun x hx => g x (List.mem_cons_of_mem _ hx)) e2]
theorem en_inj27 : ∀ (L M : List Nat), letters L → letters M → en 27 L = en 27 M → L = M
  | [], [], _, _, _ => rfl
  | [], w :: M, _, h, e => by
    have e' : 0 = 27 * en 27 M + w := e
    have := (h w (List.mem_cons_self ..)).1
    omega
  | v :: L, [], h, _, e => by
    have e' : 27 * en 27 L + v = 0 := e
    have := (h v (List.mem_cons_self ..)).1
    omega
  | v :: L, w :: M, h, g, e => by
    have e' : 27 * en 27 L + v = 27 * en 27 M + w := e
    have h1 := (h v (List.mem_cons_self ..)).2
    have h2 := (g w (List.mem_cons_self ..)).2
    have e1 : v = w := by omega
    have e2 : en 27 L = en 27 M := by omega
    rw [e1, en_inj27 L M (fun x hx => h x (List.mem_cons_of_mem _ hx)) (fun x hx => g x (List.mem_cons_of_mem _ hx)) e2]
