theorem nameB {N : Nat} (hN : 12002 ≤ N) {σT : St2} {l : Nat} (hl : l ≤ 200) (h1 : σT 0 1 = iI (l : Int)) : f_X6_nameBetween N σT 0 (f_X6_size σT) = if 1 ≤ l ∧ l ≤ 6 then (lets (σT 1) 0 l []).elim (some (-1)) (fun M => some (iI (en 32 M : Nat))) else some (-1) := by
  unfold f_X6_nameBetween f_X6_size
  rw [h1, show (0 : Int32) = iI ((0 : Nat) : Int) from rfl, show (6 : Int32) = iI 6 from rfl, iI_sub]
  by_cases a : l = 0
  · rw [if_pos (by rw [iI_le (by omega) (by omega) (by omega) (by omega)]; omega), if_neg (by omega)]
  · rw [if_neg (by rw [iI_le (by omega) (by omega) (by omega) (by omega)]; omega)]
    by_cases b : l ≤ 6
    · rw [if_pos (by rw [iI_le (by omega) (by omega) (by omega) (by omega)]; omega), if_pos ⟨by omega, b⟩]
      exact nb_loop N hl h1 (Nat.le_refl l) l N 0 [] (by omega) (by omega) (by show 0 + l ≤ 6; omega) (fun v hv => absurd hv (by simp))
    · rw [if_neg (by rw [iI_le (by omega) (by omega) (by omega) (by omega)]; omega), if_neg (by omega)]
theorem reign_add {σR : St2} {σM : St2 × (Nat → Int64)} {c : Nat} (h : ReignI σR σM c) (hc : c < 12) {M : List Nat} (hM : short M) {x1 x2 : Int32} (h1 : 0 ≤ x1.toInt ∧ x1.toInt ≤ 2) (h2 : 0 ≤ x2.toInt ∧ x2.toInt ≤ 600) : ReignI (up2 (up2 (up2 (up2 σR 1 c (iI (en 32 M : Nat))) 2 c x1) 3 c x2) 0 3 (iI ((c + 1 : Nat) : Int))) (up2 (up2 (up2 σM.1 25 c x1) 26 c x2) 0 22 (iI ((c + 1 : Nat) : Int)), vp_updL σM.2 c (lI (en 27 M : Nat))) (c + 1) := by
  refine ⟨by omega, rfl, rfl, ?_⟩
  intro i hi
  show (∃ L, short L ∧ upd (σR 1) c _ i = _ ∧ vp_updL σM.2 c _ i = _) ∧ upd (σR 2) c x1 i = upd (σM.1 25) c x1 i ∧ upd (σR 3) c x2 i = upd (σM.1 26) c x2 i ∧ (0 ≤ (upd (σM.1 25) c x1 i).toInt ∧ (upd (σM.1 25) c x1 i).toInt ≤ 2) ∧ (0 ≤ (upd (σM.1 26) c x2 i).toInt ∧ (upd (σM.1 26) c x2 i).toInt ≤ 600)
  unfold upd vp_updL
  by_cases e : i = c
  · simp only [if_pos e]
    exact ⟨⟨M, hM, rfl, rfl⟩, trivial, trivial, h1, h2⟩
  · simp only [if_neg e]
    exact h.2.2.2 i (by omega)
