def wlen : Nat → Nat | 34 => 3 | 35 => 4 | 36 => 5 | 37 => 4 | 38 => 4 | 39 => 5 | 40 => 4 | 41 => 4 | 42 => 5 | 43 => 3 | 44 => 4 | 45 => 2 | 46 => 2 | 47 => 4 | 48 => 4 | _ => 5
def flS (a : Nat → Nat) (σ : St2) : List Value := [.int (σ 0 0), .int (σ 0 1), .int (σ 0 2), .int (σ 0 3), .int (σ 0 4), .int (σ 0 5), .ref (a 7), .ref (a 8), .ref (a 9)]
def wS (a : Nat → Nat) (cy : Nat → ClassId) (σ : St2) : va_W := [(a 0, .inr (4, flS a σ)), (a 7, .inl (cy 0, 1800, .inl (σ 7))), (a 8, .inl (cy 0, 1800, .inl (σ 8))), (a 9, .inl (cy 0, 1800, .inl (σ 9)))]
theorem wS_put_0 (a : Nat → Nat) (cy : Nat → ClassId) (σ : St2) (v : Int32) : (wS a cy σ).set 0 (a 0, .inr (4, (flS a σ).set 0 (.int v))) = wS a cy (up2 σ 0 0 v) := rfl
theorem wS_put_1 (a : Nat → Nat) (cy : Nat → ClassId) (σ : St2) (v : Int32) : (wS a cy σ).set 0 (a 0, .inr (4, (flS a σ).set 1 (.int v))) = wS a cy (up2 σ 0 1 v) := rfl
theorem wS_put_2 (a : Nat → Nat) (cy : Nat → ClassId) (σ : St2) (v : Int32) : (wS a cy σ).set 0 (a 0, .inr (4, (flS a σ).set 2 (.int v))) = wS a cy (up2 σ 0 2 v) := rfl
theorem wS_put_3 (a : Nat → Nat) (cy : Nat → ClassId) (σ : St2) (v : Int32) : (wS a cy σ).set 0 (a 0, .inr (4, (flS a σ).set 3 (.int v))) = wS a cy (up2 σ 0 3 v) := rfl
theorem wS_put_4 (a : Nat → Nat) (cy : Nat → ClassId) (σ : St2) (v : Int32) : (wS a cy σ).set 0 (a 0, .inr (4, (flS a σ).set 4 (.int v))) = wS a cy (up2 σ 0 4 v) := rfl
theorem wS_put_5 (a : Nat → Nat) (cy : Nat → ClassId) (σ : St2) (v : Int32) : (wS a cy σ).set 0 (a 0, .inr (4, (flS a σ).set 5 (.int v))) = wS a cy (up2 σ 0 5 v) := rfl
theorem wS_row_7 (a : Nat → Nat) (cy : Nat → ClassId) (σ : St2) (i : Nat) (v : Int32) : (wS a cy σ).set 1 (a 7, .inl (cy 0, 1800, .inl (upd (σ 7) i v))) = wS a cy (up2 σ 7 i v) := rfl
theorem wS_row_8 (a : Nat → Nat) (cy : Nat → ClassId) (σ : St2) (i : Nat) (v : Int32) : (wS a cy σ).set 2 (a 8, .inl (cy 0, 1800, .inl (upd (σ 8) i v))) = wS a cy (up2 σ 8 i v) := rfl
theorem wS_row_9 (a : Nat → Nat) (cy : Nat → ClassId) (σ : St2) (i : Nat) (v : Int32) : (wS a cy σ).set 3 (a 9, .inl (cy 0, 1800, .inl (upd (σ 9) i v))) = wS a cy (up2 σ 9 i v) := rfl
def flT (a : Nat → Nat) (σ : St2) : List Value := [.ref (a 1), .int (σ 0 1)]
def wT (a : Nat → Nat) (cy : Nat → ClassId) (σ : St2) : va_W := [(a 0, .inr (5, flT a σ)), (a 1, .inl (cy 0, 200, .inl (σ 1)))]
theorem wT_put_1 (a : Nat → Nat) (cy : Nat → ClassId) (σ : St2) (v : Int32) : (wT a cy σ).set 0 (a 0, .inr (5, (flT a σ).set 1 (.int v))) = wT a cy (up2 σ 0 1 v) := rfl
theorem wT_row_1 (a : Nat → Nat) (cy : Nat → ClassId) (σ : St2) (i : Nat) (v : Int32) : (wT a cy σ).set 1 (a 1, .inl (cy 0, 200, .inl (upd (σ 1) i v))) = wT a cy (up2 σ 1 i v) := rfl
def flR (a : Nat → Nat) (σ : St2) : List Value := [.ref (a 1), .ref (a 2), .ref (a 3), .int (σ 0 3)]
def wR (a : Nat → Nat) (cy : Nat → ClassId) (σ : St2) : va_W := [(a 0, .inr (3, flR a σ)), (a 1, .inl (cy 0, 12, .inl (σ 1))), (a 2, .inl (cy 0, 12, .inl (σ 2))), (a 3, .inl (cy 0, 12, .inl (σ 3)))]
theorem wR_put_3 (a : Nat → Nat) (cy : Nat → ClassId) (σ : St2) (v : Int32) : (wR a cy σ).set 0 (a 0, .inr (3, (flR a σ).set 3 (.int v))) = wR a cy (up2 σ 0 3 v) := rfl
theorem wR_row_1 (a : Nat → Nat) (cy : Nat → ClassId) (σ : St2) (i : Nat) (v : Int32) : (wR a cy σ).set 1 (a 1, .inl (cy 0, 12, .inl (upd (σ 1) i v))) = wR a cy (up2 σ 1 i v) := rfl
theorem wR_row_2 (a : Nat → Nat) (cy : Nat → ClassId) (σ : St2) (i : Nat) (v : Int32) : (wR a cy σ).set 2 (a 2, .inl (cy 0, 12, .inl (upd (σ 2) i v))) = wR a cy (up2 σ 2 i v) := rfl
theorem wR_row_3 (a : Nat → Nat) (cy : Nat → ClassId) (σ : St2) (i : Nat) (v : Int32) : (wR a cy σ).set 3 (a 3, .inl (cy 0, 12, .inl (upd (σ 3) i v))) = wR a cy (up2 σ 3 i v) := rfl
def flA (a : Nat → Nat) (σ : St2 × (Int64)) : List Value := [.int (σ.1 0 0), .int (σ.1 0 1), .int (σ.1 0 2), .int (σ.1 0 3), .ref (a 5), .long σ.2, .int (σ.1 0 6)]
def wA (a : Nat → Nat) (cy : Nat → ClassId) (σ : St2 × (Int64)) : va_W := [(a 0, .inr (0, flA a σ)), (a 5, .inl (cy 0, 4, .inl (σ.1 5)))]
theorem wA_put_0 (a : Nat → Nat) (cy : Nat → ClassId) (σ : St2 × (Int64)) (v : Int32) : (wA a cy σ).set 0 (a 0, .inr (0, (flA a σ).set 0 (.int v))) = wA a cy (up2 σ.1 0 0 v, σ.2) := rfl
theorem wA_put_1 (a : Nat → Nat) (cy : Nat → ClassId) (σ : St2 × (Int64)) (v : Int32) : (wA a cy σ).set 0 (a 0, .inr (0, (flA a σ).set 1 (.int v))) = wA a cy (up2 σ.1 0 1 v, σ.2) := rfl
theorem wA_put_2 (a : Nat → Nat) (cy : Nat → ClassId) (σ : St2 × (Int64)) (v : Int32) : (wA a cy σ).set 0 (a 0, .inr (0, (flA a σ).set 2 (.int v))) = wA a cy (up2 σ.1 0 2 v, σ.2) := rfl
theorem wA_put_3 (a : Nat → Nat) (cy : Nat → ClassId) (σ : St2 × (Int64)) (v : Int32) : (wA a cy σ).set 0 (a 0, .inr (0, (flA a σ).set 3 (.int v))) = wA a cy (up2 σ.1 0 3 v, σ.2) := rfl
theorem wA_put_6 (a : Nat → Nat) (cy : Nat → ClassId) (σ : St2 × (Int64)) (v : Int32) : (wA a cy σ).set 0 (a 0, .inr (0, (flA a σ).set 6 (.int v))) = wA a cy (up2 σ.1 0 6 v, σ.2) := rfl
theorem wA_row_5 (a : Nat → Nat) (cy : Nat → ClassId) (σ : St2 × (Int64)) (i : Nat) (v : Int32) : (wA a cy σ).set 1 (a 5, .inl (cy 0, 4, .inl (upd (σ.1 5) i v))) = wA a cy (up2 σ.1 5 i v, σ.2) := rfl
def flM (a : Nat → Nat) (σ : St2 × (Nat → Int64)) : List Value := [.int (σ.1 0 0), .int (σ.1 0 1), .int (σ.1 0 2), .int (σ.1 0 3), .int (σ.1 0 4), .ref (a 6), .ref (a 7), .ref (a 8), .ref (a 9), .ref (a 10), .int (σ.1 0 10), .int (σ.1 0 11), .int (σ.1 0 12), .ref (a 14), .int (σ.1 0 14), .int (σ.1 0 15), .int (σ.1 0 16), .int (σ.1 0 17), .int (σ.1 0 18), .int (σ.1 0 19), .int (σ.1 0 20), .int (σ.1 0 21), .int (σ.1 0 22), .ref (a 24), .ref (a 25), .ref (a 26), .int (σ.1 0 26), .ref (a 28), .ref (a 29), .ref (a 30), .ref (a 31), .ref (a 32), .int (σ.1 0 32), .int (σ.1 0 33), .ref (a 35), .ref (a 36), .ref (a 37), .ref (a 38), .ref (a 39), .ref (a 40), .ref (a 41), .ref (a 42), .ref (a 43), .ref (a 44), .ref (a 45), .ref (a 46), .ref (a 47), .ref (a 48), .ref (a 49), .ref (a 50)]
def wM (a : Nat → Nat) (cy : Nat → ClassId) (σ : St2 × (Nat → Int64)) : va_W := [(a 0, .inr (7, flM a σ)), (a 6, .inl (cy 0, 12001, .inl (σ.1 6))), (a 7, .inl (cy 0, 12001, .inl (σ.1 7))), (a 8, .inl (cy 0, 12001, .inl (σ.1 8))), (a 9, .inl (cy 0, 10, .inl (σ.1 9))), (a 10, .inl (cy 0, 12, .inl (σ.1 10))), (a 14, .inl (cy 0, 200, .inl (σ.1 14))), (a 24, .inl (cy 2, 12, .inr (.inl σ.2))), (a 25, .inl (cy 0, 12, .inl (σ.1 25))), (a 26, .inl (cy 0, 12, .inl (σ.1 26))), (a 28, .inl (cy 0, 9, .inl (σ.1 28))), (a 29, .inl (cy 0, 36, .inl (σ.1 29))), (a 30, .inl (cy 0, 9, .inl (σ.1 30))), (a 31, .inl (cy 0, 9, .inl (σ.1 31))), (a 32, .inl (cy 0, 9, .inl (σ.1 32))), (a 35, .inl (cy 1, wlen 34, .inl (σ.1 35))), (a 36, .inl (cy 1, wlen 35, .inl (σ.1 36))), (a 37, .inl (cy 1, wlen 36, .inl (σ.1 37))), (a 38, .inl (cy 1, wlen 37, .inl (σ.1 38))), (a 39, .inl (cy 1, wlen 38, .inl (σ.1 39))), (a 40, .inl (cy 1, wlen 39, .inl (σ.1 40))), (a 41, .inl (cy 1, wlen 40, .inl (σ.1 41))), (a 42, .inl (cy 1, wlen 41, .inl (σ.1 42))), (a 43, .inl (cy 1, wlen 42, .inl (σ.1 43))), (a 44, .inl (cy 1, wlen 43, .inl (σ.1 44))), (a 45, .inl (cy 1, wlen 44, .inl (σ.1 45))), (a 46, .inl (cy 1, wlen 45, .inl (σ.1 46))), (a 47, .inl (cy 1, wlen 46, .inl (σ.1 47))), (a 48, .inl (cy 1, wlen 47, .inl (σ.1 48))), (a 49, .inl (cy 1, wlen 48, .inl (σ.1 49))), (a 50, .inl (cy 1, wlen 49, .inl (σ.1 50)))]
theorem wM_put_0 (a : Nat → Nat) (cy : Nat → ClassId) (σ : St2 × (Nat → Int64)) (v : Int32) : (wM a cy σ).set 0 (a 0, .inr (7, (flM a σ).set 0 (.int v))) = wM a cy (up2 σ.1 0 0 v, σ.2) := rfl
theorem wM_put_1 (a : Nat → Nat) (cy : Nat → ClassId) (σ : St2 × (Nat → Int64)) (v : Int32) : (wM a cy σ).set 0 (a 0, .inr (7, (flM a σ).set 1 (.int v))) = wM a cy (up2 σ.1 0 1 v, σ.2) := rfl
theorem wM_put_2 (a : Nat → Nat) (cy : Nat → ClassId) (σ : St2 × (Nat → Int64)) (v : Int32) : (wM a cy σ).set 0 (a 0, .inr (7, (flM a σ).set 2 (.int v))) = wM a cy (up2 σ.1 0 2 v, σ.2) := rfl
theorem wM_put_3 (a : Nat → Nat) (cy : Nat → ClassId) (σ : St2 × (Nat → Int64)) (v : Int32) : (wM a cy σ).set 0 (a 0, .inr (7, (flM a σ).set 3 (.int v))) = wM a cy (up2 σ.1 0 3 v, σ.2) := rfl
theorem wM_put_4 (a : Nat → Nat) (cy : Nat → ClassId) (σ : St2 × (Nat → Int64)) (v : Int32) : (wM a cy σ).set 0 (a 0, .inr (7, (flM a σ).set 4 (.int v))) = wM a cy (up2 σ.1 0 4 v, σ.2) := rfl
theorem wM_put_10 (a : Nat → Nat) (cy : Nat → ClassId) (σ : St2 × (Nat → Int64)) (v : Int32) : (wM a cy σ).set 0 (a 0, .inr (7, (flM a σ).set 10 (.int v))) = wM a cy (up2 σ.1 0 10 v, σ.2) := rfl
theorem wM_put_11 (a : Nat → Nat) (cy : Nat → ClassId) (σ : St2 × (Nat → Int64)) (v : Int32) : (wM a cy σ).set 0 (a 0, .inr (7, (flM a σ).set 11 (.int v))) = wM a cy (up2 σ.1 0 11 v, σ.2) := rfl
theorem wM_put_12 (a : Nat → Nat) (cy : Nat → ClassId) (σ : St2 × (Nat → Int64)) (v : Int32) : (wM a cy σ).set 0 (a 0, .inr (7, (flM a σ).set 12 (.int v))) = wM a cy (up2 σ.1 0 12 v, σ.2) := rfl
theorem wM_put_14 (a : Nat → Nat) (cy : Nat → ClassId) (σ : St2 × (Nat → Int64)) (v : Int32) : (wM a cy σ).set 0 (a 0, .inr (7, (flM a σ).set 14 (.int v))) = wM a cy (up2 σ.1 0 14 v, σ.2) := rfl
theorem wM_put_15 (a : Nat → Nat) (cy : Nat → ClassId) (σ : St2 × (Nat → Int64)) (v : Int32) : (wM a cy σ).set 0 (a 0, .inr (7, (flM a σ).set 15 (.int v))) = wM a cy (up2 σ.1 0 15 v, σ.2) := rfl
theorem wM_put_16 (a : Nat → Nat) (cy : Nat → ClassId) (σ : St2 × (Nat → Int64)) (v : Int32) : (wM a cy σ).set 0 (a 0, .inr (7, (flM a σ).set 16 (.int v))) = wM a cy (up2 σ.1 0 16 v, σ.2) := rfl
theorem wM_put_17 (a : Nat → Nat) (cy : Nat → ClassId) (σ : St2 × (Nat → Int64)) (v : Int32) : (wM a cy σ).set 0 (a 0, .inr (7, (flM a σ).set 17 (.int v))) = wM a cy (up2 σ.1 0 17 v, σ.2) := rfl
theorem wM_put_18 (a : Nat → Nat) (cy : Nat → ClassId) (σ : St2 × (Nat → Int64)) (v : Int32) : (wM a cy σ).set 0 (a 0, .inr (7, (flM a σ).set 18 (.int v))) = wM a cy (up2 σ.1 0 18 v, σ.2) := rfl
theorem wM_put_19 (a : Nat → Nat) (cy : Nat → ClassId) (σ : St2 × (Nat → Int64)) (v : Int32) : (wM a cy σ).set 0 (a 0, .inr (7, (flM a σ).set 19 (.int v))) = wM a cy (up2 σ.1 0 19 v, σ.2) := rfl
theorem wM_put_20 (a : Nat → Nat) (cy : Nat → ClassId) (σ : St2 × (Nat → Int64)) (v : Int32) : (wM a cy σ).set 0 (a 0, .inr (7, (flM a σ).set 20 (.int v))) = wM a cy (up2 σ.1 0 20 v, σ.2) := rfl
theorem wM_put_21 (a : Nat → Nat) (cy : Nat → ClassId) (σ : St2 × (Nat → Int64)) (v : Int32) : (wM a cy σ).set 0 (a 0, .inr (7, (flM a σ).set 21 (.int v))) = wM a cy (up2 σ.1 0 21 v, σ.2) := rfl
theorem wM_put_22 (a : Nat → Nat) (cy : Nat → ClassId) (σ : St2 × (Nat → Int64)) (v : Int32) : (wM a cy σ).set 0 (a 0, .inr (7, (flM a σ).set 22 (.int v))) = wM a cy (up2 σ.1 0 22 v, σ.2) := rfl
theorem wM_put_26 (a : Nat → Nat) (cy : Nat → ClassId) (σ : St2 × (Nat → Int64)) (v : Int32) : (wM a cy σ).set 0 (a 0, .inr (7, (flM a σ).set 26 (.int v))) = wM a cy (up2 σ.1 0 26 v, σ.2) := rfl
theorem wM_put_32 (a : Nat → Nat) (cy : Nat → ClassId) (σ : St2 × (Nat → Int64)) (v : Int32) : (wM a cy σ).set 0 (a 0, .inr (7, (flM a σ).set 32 (.int v))) = wM a cy (up2 σ.1 0 32 v, σ.2) := rfl
theorem wM_put_33 (a : Nat → Nat) (cy : Nat → ClassId) (σ : St2 × (Nat → Int64)) (v : Int32) : (wM a cy σ).set 0 (a 0, .inr (7, (flM a σ).set 33 (.int v))) = wM a cy (up2 σ.1 0 33 v, σ.2) := rfl
theorem wM_row_6 (a : Nat → Nat) (cy : Nat → ClassId) (σ : St2 × (Nat → Int64)) (i : Nat) (v : Int32) : (wM a cy σ).set 1 (a 6, .inl (cy 0, 12001, .inl (upd (σ.1 6) i v))) = wM a cy (up2 σ.1 6 i v, σ.2) := rfl
theorem wM_row_7 (a : Nat → Nat) (cy : Nat → ClassId) (σ : St2 × (Nat → Int64)) (i : Nat) (v : Int32) : (wM a cy σ).set 2 (a 7, .inl (cy 0, 12001, .inl (upd (σ.1 7) i v))) = wM a cy (up2 σ.1 7 i v, σ.2) := rfl
theorem wM_row_8 (a : Nat → Nat) (cy : Nat → ClassId) (σ : St2 × (Nat → Int64)) (i : Nat) (v : Int32) : (wM a cy σ).set 3 (a 8, .inl (cy 0, 12001, .inl (upd (σ.1 8) i v))) = wM a cy (up2 σ.1 8 i v, σ.2) := rfl
theorem wM_row_9 (a : Nat → Nat) (cy : Nat → ClassId) (σ : St2 × (Nat → Int64)) (i : Nat) (v : Int32) : (wM a cy σ).set 4 (a 9, .inl (cy 0, 10, .inl (upd (σ.1 9) i v))) = wM a cy (up2 σ.1 9 i v, σ.2) := rfl
theorem wM_row_10 (a : Nat → Nat) (cy : Nat → ClassId) (σ : St2 × (Nat → Int64)) (i : Nat) (v : Int32) : (wM a cy σ).set 5 (a 10, .inl (cy 0, 12, .inl (upd (σ.1 10) i v))) = wM a cy (up2 σ.1 10 i v, σ.2) := rfl
theorem wM_row_14 (a : Nat → Nat) (cy : Nat → ClassId) (σ : St2 × (Nat → Int64)) (i : Nat) (v : Int32) : (wM a cy σ).set 6 (a 14, .inl (cy 0, 200, .inl (upd (σ.1 14) i v))) = wM a cy (up2 σ.1 14 i v, σ.2) := rfl
theorem wM_row_24 (a : Nat → Nat) (cy : Nat → ClassId) (σ : St2 × (Nat → Int64)) (i : Nat) (v : Int64) : (wM a cy σ).set 7 (a 24, .inl (cy 2, 12, .inr (.inl (vp_updL σ.2 i v)))) = wM a cy (σ.1, vp_updL σ.2 i v) := rfl
theorem wM_row_25 (a : Nat → Nat) (cy : Nat → ClassId) (σ : St2 × (Nat → Int64)) (i : Nat) (v : Int32) : (wM a cy σ).set 8 (a 25, .inl (cy 0, 12, .inl (upd (σ.1 25) i v))) = wM a cy (up2 σ.1 25 i v, σ.2) := rfl
theorem wM_row_26 (a : Nat → Nat) (cy : Nat → ClassId) (σ : St2 × (Nat → Int64)) (i : Nat) (v : Int32) : (wM a cy σ).set 9 (a 26, .inl (cy 0, 12, .inl (upd (σ.1 26) i v))) = wM a cy (up2 σ.1 26 i v, σ.2) := rfl
theorem wM_row_28 (a : Nat → Nat) (cy : Nat → ClassId) (σ : St2 × (Nat → Int64)) (i : Nat) (v : Int32) : (wM a cy σ).set 10 (a 28, .inl (cy 0, 9, .inl (upd (σ.1 28) i v))) = wM a cy (up2 σ.1 28 i v, σ.2) := rfl
theorem wM_row_29 (a : Nat → Nat) (cy : Nat → ClassId) (σ : St2 × (Nat → Int64)) (i : Nat) (v : Int32) : (wM a cy σ).set 11 (a 29, .inl (cy 0, 36, .inl (upd (σ.1 29) i v))) = wM a cy (up2 σ.1 29 i v, σ.2) := rfl
theorem wM_row_30 (a : Nat → Nat) (cy : Nat → ClassId) (σ : St2 × (Nat → Int64)) (i : Nat) (v : Int32) : (wM a cy σ).set 12 (a 30, .inl (cy 0, 9, .inl (upd (σ.1 30) i v))) = wM a cy (up2 σ.1 30 i v, σ.2) := rfl
theorem wM_row_31 (a : Nat → Nat) (cy : Nat → ClassId) (σ : St2 × (Nat → Int64)) (i : Nat) (v : Int32) : (wM a cy σ).set 13 (a 31, .inl (cy 0, 9, .inl (upd (σ.1 31) i v))) = wM a cy (up2 σ.1 31 i v, σ.2) := rfl
theorem wM_row_32 (a : Nat → Nat) (cy : Nat → ClassId) (σ : St2 × (Nat → Int64)) (i : Nat) (v : Int32) : (wM a cy σ).set 14 (a 32, .inl (cy 0, 9, .inl (upd (σ.1 32) i v))) = wM a cy (up2 σ.1 32 i v, σ.2) := rfl
def flD (aT aR : Nat → Nat) (ra : Value) (σ : St2) : List Value := [.ref (aT 0), .ref (aR 0), ra, .int (σ 0 3), .int (σ 0 4), .int (σ 0 5), .int (σ 0 6), .int (σ 0 7), .int (σ 0 8), .int (σ 0 9), .int (σ 0 10)]
def wD (a aT aR : Nat → Nat) (ra : Value) (σ : St2) : va_W := [(a 0, .inr (2, flD aT aR ra σ))]
theorem wM_at {kw : Nat} (hkw : 34 ≤ kw ∧ kw < 50) {a : Nat → Nat} {cy : Nat → ClassId} {σ : St2 × (Nat → Int64)} : (wM a cy σ)[kw - 19]? = some (a (kw + 1), .inl (cy 1, wlen kw, .inl (σ.1 (kw + 1)))) := by
  obtain ⟨h1, h2⟩ := hkw
  obtain ⟨j, rfl⟩ : ∃ j, kw = 34 + j := ⟨kw - 34, by omega⟩
  have hj : j < 16 := by omega
  match j, hj with
  | 0, _ => rfl
  | 1, _ => rfl
  | 2, _ => rfl
  | 3, _ => rfl
  | 4, _ => rfl
  | 5, _ => rfl
  | 6, _ => rfl
  | 7, _ => rfl
  | 8, _ => rfl
  | 9, _ => rfl
  | 10, _ => rfl
  | 11, _ => rfl
  | 12, _ => rfl
  | 13, _ => rfl
  | 14, _ => rfl
  | 15, _ => rfl
  | j + 16, h => exact absurd h (by omega)
