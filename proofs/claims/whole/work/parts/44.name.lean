/-! names: five bits a letter, and letters in base 27 -/
theorem iI_nat {n : Nat} (h : n < 2147483648) : (iI (n : Int)).toBitVec.toNat = n := by
  show (BitVec.ofInt 32 (n : Int)).toNat = n
  rw [BitVec.toNat_ofInt]
  omega
theorem shl5 {a v : Nat} (ha : a < 33554432) (hv : v < 32) : (iI (a : Int) <<< (5 &&& 31 : Int32)) ||| iI (v : Int) = iI ((32 * a + v : Nat) : Int) := by
  apply Int32.toBitVec_inj.mp
  apply BitVec.eq_of_toNat_eq
  rw [Int32.toBitVec_or, BitVec.toNat_or, iI_nat (n := v) (by omega), iI_nat (n := 32 * a + v) (by omega)]
  have e : (iI (a : Int) <<< (5 &&& 31 : Int32)).toBitVec.toNat = a <<< 5 := by
    rw [Int32.toBitVec_shiftLeft]
    show ((iI (a : Int)).toBitVec <<< (5#32)).toNat = _
    rw [BitVec.shiftLeft_eq', BitVec.toNat_shiftLeft, iI_nat (by omega)]
    show a <<< 5 % 2 ^ 32 = a <<< 5
    rw [Nat.shiftLeft_eq]
    omega
  rw [e, ← Nat.shiftLeft_add_eq_or_of_lt (show v < 2 ^ 5 by omega), Nat.shiftLeft_eq]
  omega
def enc (b : Nat) (L : List Nat) : Nat := L.foldl (fun x v => b * x + v) 0
theorem enc_app (b : Nat) (L : List Nat) (v : Nat) : enc b (L ++ [v]) = b * enc b L + v := by
  unfold enc
  rw [List.foldl_append]
  rfl
