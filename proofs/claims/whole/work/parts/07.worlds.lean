def wlen : Nat → Nat | 34 => 3 | 35 => 4 | 36 => 5 | 37 => 4 | 38 => 4 | 39 => 5 | 40 => 4 | 41 => 4 | 42 => 5 | 43 => 3 | 44 => 4 | 45 => 2 | 46 => 2 | 47 => 4 | 48 => 4 | _ => 5
def wS (a : Nat → Nat) (cy : Nat → ClassId) (σ : St2) : va_W := [(a 0, .inr (4, [.int (σ 0 0), .int (σ 0 1), .int (σ 0 2), .int (σ 0 3), .int (σ 0 4), .int (σ 0 5), .ref (a 7), .ref (a 8), .ref (a 9)])), (a 7, .inl (cy 0, 1800, .inl (σ 7))), (a 8, .inl (cy 0, 1800, .inl (σ 8))), (a 9, .inl (cy 0, 1800, .inl (σ 9)))]
def wT (a : Nat → Nat) (cy : Nat → ClassId) (σ : St2) : va_W := [(a 0, .inr (5, [.ref (a 1), .int (σ 0 1)])), (a 1, .inl (cy 0, 200, .inl (σ 1)))]
def wR (a : Nat → Nat) (cy : Nat → ClassId) (σ : St2) : va_W := [(a 0, .inr (3, [.ref (a 1), .ref (a 2), .ref (a 3), .int (σ 0 3)])), (a 1, .inl (cy 0, 12, .inl (σ 1))), (a 2, .inl (cy 0, 12, .inl (σ 2))), (a 3, .inl (cy 0, 12, .inl (σ 3)))]
def wA (a : Nat → Nat) (cy : Nat → ClassId) (σ : St2 × (Int64)) : va_W := [(a 0, .inr (0, [.int (σ.1 0 0), .int (σ.1 0 1), .int (σ.1 0 2), .int (σ.1 0 3), .ref (a 5), .long σ.2, .int (σ.1 0 6)])), (a 5, .inl (cy 0, 4, .inl (σ.1 5)))]
def wM (a : Nat → Nat) (cy : Nat → ClassId) (σ : St2 × (Nat → Int64)) : va_W := [(a 0, .inr (7, [.int (σ.1 0 0), .int (σ.1 0 1), .int (σ.1 0 2), .int (σ.1 0 3), .int (σ.1 0 4), .ref (a 6), .ref (a 7), .ref (a 8), .ref (a 9), .ref (a 10), .int (σ.1 0 10), .int (σ.1 0 11), .int (σ.1 0 12), .ref (a 14), .int (σ.1 0 14), .int (σ.1 0 15), .int (σ.1 0 16), .int (σ.1 0 17), .int (σ.1 0 18), .int (σ.1 0 19), .int (σ.1 0 20), .int (σ.1 0 21), .int (σ.1 0 22), .ref (a 24), .ref (a 25), .ref (a 26), .int (σ.1 0 26), .ref (a 28), .ref (a 29), .ref (a 30), .ref (a 31), .ref (a 32), .int (σ.1 0 32), .int (σ.1 0 33), .ref (a 35), .ref (a 36), .ref (a 37), .ref (a 38), .ref (a 39), .ref (a 40), .ref (a 41), .ref (a 42), .ref (a 43), .ref (a 44), .ref (a 45), .ref (a 46), .ref (a 47), .ref (a 48), .ref (a 49), .ref (a 50)])), (a 6, .inl (cy 0, 12001, .inl (σ.1 6))), (a 7, .inl (cy 0, 12001, .inl (σ.1 7))), (a 8, .inl (cy 0, 12001, .inl (σ.1 8))), (a 9, .inl (cy 0, 10, .inl (σ.1 9))), (a 10, .inl (cy 0, 12, .inl (σ.1 10))), (a 14, .inl (cy 0, 200, .inl (σ.1 14))), (a 24, .inl (cy 2, 12, .inr (.inl σ.2))), (a 25, .inl (cy 0, 12, .inl (σ.1 25))), (a 26, .inl (cy 0, 12, .inl (σ.1 26))), (a 28, .inl (cy 0, 9, .inl (σ.1 28))), (a 29, .inl (cy 0, 36, .inl (σ.1 29))), (a 30, .inl (cy 0, 9, .inl (σ.1 30))), (a 31, .inl (cy 0, 9, .inl (σ.1 31))), (a 32, .inl (cy 0, 9, .inl (σ.1 32))), (a 35, .inl (cy 1, wlen 34, .inl (σ.1 35))), (a 36, .inl (cy 1, wlen 35, .inl (σ.1 36))), (a 37, .inl (cy 1, wlen 36, .inl (σ.1 37))), (a 38, .inl (cy 1, wlen 37, .inl (σ.1 38))), (a 39, .inl (cy 1, wlen 38, .inl (σ.1 39))), (a 40, .inl (cy 1, wlen 39, .inl (σ.1 40))), (a 41, .inl (cy 1, wlen 40, .inl (σ.1 41))), (a 42, .inl (cy 1, wlen 41, .inl (σ.1 42))), (a 43, .inl (cy 1, wlen 42, .inl (σ.1 43))), (a 44, .inl (cy 1, wlen 43, .inl (σ.1 44))), (a 45, .inl (cy 1, wlen 44, .inl (σ.1 45))), (a 46, .inl (cy 1, wlen 45, .inl (σ.1 46))), (a 47, .inl (cy 1, wlen 46, .inl (σ.1 47))), (a 48, .inl (cy 1, wlen 47, .inl (σ.1 48))), (a 49, .inl (cy 1, wlen 48, .inl (σ.1 49))), (a 50, .inl (cy 1, wlen 49, .inl (σ.1 50)))]
theorem wM_at {kw : Nat} (hkw : 34 ≤ kw ∧ kw < 50) {a : Nat → Nat} {cy : Nat → ClassId} {σ : St2 × (Nat → Int64)} : (wM a cy σ)[kw - 19]? = some (a (kw + 1), .inl (cy 1, wlen kw, .inl (σ.1 (kw + 1)))) := by
  obtain ⟨h1, h2⟩ := hkw
  obtain ⟨j, rfl⟩ : ∃ j, kw = 34 + j := ⟨kw - 34, by omega⟩
  have hj : j < 16 := by omega
  match j, hj with
  | 0, _ => rfl
  | 1, _ => rfl
  | 2, _ => rfl
  | 3, _ => rfl
  | 4, _ => rfl
  | 5, _ => rfl
  | 6, _ => rfl
  | 7, _ => rfl
  | 8, _ => rfl
  | 9, _ => rfl
  | 10, _ => rfl
  | 11, _ => rfl
  | 12, _ => rfl
  | 13, _ => rfl
  | 14, _ => rfl
  | 15, _ => rfl
  | j + 16, h => exact absurd h (by omega)
