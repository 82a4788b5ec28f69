/-! reign -/
theorem r59_0 (N n : Nat) (σ : St2 × (Nat → Int64)) (y1 y2 y3 y5 : Int32) : f_X8_reign_59 N (n + 1) σ y1 y2 y3 0 y5 = some (-1, σ) := by
  have h : f_X8_reign_88 N σ y1 y2 y3 0 = some (-1, σ) := by
    unfold f_X8_reign_88
    rw [if_pos rfl]
  rw [f_X8_reign_59, if_pos (show (0 : Int32) = 0 from rfl), ite_self, h]
theorem r53_no {N : Nat} (hN : 12002 ≤ N) (σ : St2 × (Nat → Int64)) (y1 y2 y3 : Int32) : f_X8_reign_53 N σ y1 y2 y3 = some (-1, σ) := by
  unfold f_X8_reign_53 f_X8_reign_54
  obtain ⟨n, rfl⟩ : ∃ n, N = n + 1 := ⟨N - 1, by omega⟩
  exact r59_0 _ _ _ _ _ _ _
theorem b27_no (N : Nat) (σR : St2) (x y z : Int32) : f_X4_begin_27 N σR x y z = some (-1, σR) := by
  unfold f_X4_begin_27 f_X4_begin_28
  rw [if_pos rfl]
theorem begin_m1 (N : Nat) (σR : St2) (y z : Int32) : f_X4_begin N σR (-1) y z = some (-1, σR) := by
  unfold f_X4_begin
  rw [if_pos rfl, b27_no]
