/-! record: the runs of a text -/
def run (q : Nat → Bool) : Nat → Nat → Nat
  | 0, p => p
  | k + 1, p => if q p = true then run q k (p + 1) else p
def rn (q : Nat → Bool) (l p : Nat) : Nat := run q (l - p) p
theorem rn_end {q : Nat → Bool} {l p : Nat} (h : l ≤ p) : rn q l p = p := by
  unfold rn
  rw [show l - p = 0 by omega]
  rfl
theorem rn_step {q : Nat → Bool} {l p : Nat} (h : p < l) : rn q l p = if q p = true then rn q l (p + 1) else p := by
  unfold rn
  rw [show l - p = (l - (p + 1)) + 1 by omega]
  rfl
theorem rn_le (q : Nat → Bool) (l : Nat) : ∀ (m p : Nat), p + m = l → p ≤ rn q l p ∧ rn q l p ≤ l
  | 0, p, h => by rw [rn_end (by omega)]; omega
  | m + 1, p, h => by
    rw [rn_step (by omega)]
    have := rn_le q l m (p + 1) (by omega)
    split <;> omega
theorem rn_all (q : Nat → Bool) (l : Nat) : ∀ (m p : Nat), p + m = l → ∀ i, p ≤ i → i < rn q l p → q i = true
  | 0, p, h, i, h1, h2 => by rw [rn_end (by omega)] at h2; omega
  | m + 1, p, h, i, h1, h2 => by
    rw [rn_step (by omega)] at h2
    by_cases c : q p = true
    · rw [if_pos c] at h2
      by_cases e : i = p
      · rw [e]; exact c
      · exact rn_all q l m (p + 1) (by omega) i (by omega) h2
    · rw [if_neg c] at h2; omega
theorem rn_stop (q : Nat → Bool) (l : Nat) : ∀ (m p : Nat), p + m = l → rn q l p < l → q (rn q l p) = false
  | 0, p, h, h1 => by rw [rn_end (by omega)] at h1; omega
  | m + 1, p, h, h1 => by
    rw [rn_step (by omega)] at h1 ⊢
    by_cases c : q p = true
    · rw [if_pos c] at h1 ⊢
      exact rn_stop q l m (p + 1) (by omega) h1
    · rw [if_neg c]
      exact Bool.eq_false_iff.mpr c
theorem rn_idem {q : Nat → Bool} {l p : Nat} (h : p ≤ l) : rn q l (rn q l p) = rn q l p := by
  have h1 := rn_le q l (l - p) p (by omega)
  by_cases c : rn q l p < l
  · have h2 := rn_stop q l (l - p) p (by omega) c
    rw [rn_step c, h2, if_neg (by decide)]
  · exact rn_end (by omega)
def bkq (r : Nat → Int32) (i : Nat) : Bool := f_X6_isBlank (r i)
def ltq (r : Nat → Int32) (i : Nat) : Bool := f_X6_isLetter (r i)
def dgq (r : Nat → Int32) (i : Nat) : Bool := f_X6_isDigit (r i)
def srt (r : Nat → Int32) (l s : Nat) (e : Int) : Int := if s < l then (if ltq r s = true then (if (s : Int) = e then 3 else 1) else if dgq r s = true then (if (s : Int) = e then 3 else 2) else 3) else 0
def stp (r : Nat → Int32) (l s : Nat) : Nat := if s < l then (if ltq r s = true then rn (ltq r) l s else if dgq r s = true then rn (dgq r) l s else s + 1) else s
def TxT (σT : St2) (r : Nat → Int32) (l : Nat) : Prop := l ≤ 200 ∧ σT 0 1 = iI (l : Nat) ∧ ∀ i, i < l → σT 1 i = r i ∧ 0 ≤ (r i).toInt ∧ (r i).toInt < 256
def HD (σD : St2) (r : Nat → Int32) (l s : Nat) (e : Int) : Prop := s ≤ l ∧ rn (bkq r) l s = s ∧ σD 0 4 = iI (s : Nat) ∧ σD 0 3 = iI (srt r l s e) ∧ σD 0 5 = iI (stp r l s : Nat)
def offT (σ' σ : St2) : Prop := ∀ i, i ≠ 3 → i ≠ 4 → i ≠ 5 → σ' 0 i = σ 0 i
theorem offT_rf (σ : St2) : offT σ σ := fun _ _ _ _ => rfl
theorem offT_tr {x y z : St2} (h : offT x y) (g : offT y z) : offT x z := fun i a b c => (h i a b c).trans (g i a b c)
theorem u2s (f : St2) (j i : Nat) : up2 f j i (f j i) = f := by
  funext b x
  by_cases c : b = j ∧ x = i
  · rw [c.1, c.2, u2e]
  · exact u2n f (by omega)
theorem u2u (f : St2) (j i : Nat) (v w : Int32) : up2 (up2 f j i v) j i w = up2 f j i w := by
  funext b x
  by_cases c : b = j ∧ x = i
  · rw [c.1, c.2, u2e, u2e]
  · rw [u2n _ (by omega), u2n _ (by omega), u2n _ (by omega)]
theorem size_eq {σT : St2} {r : Nat → Int32} {l : Nat} (h : TxT σT r l) : f_X6_size σT = iI (l : Nat) := h.2.1
theorem byteAt_eq {σT : St2} {r : Nat → Int32} {l : Nat} (h : TxT σT r l) {p : Nat} (hp : p ≤ 400) : f_X6_byteAt σT (iI (p : Nat)) = some (if p < l then r p else -1) := by
  have hl := h.1
  unfold f_X6_byteAt
  rw [h.2.1, if_neg (show ¬ iI (p : Nat) < 0 by rw [show (0 : Int32) = iI 0 from rfl, iI_lt (by omega) (by omega) (by omega) (by omega)]; omega)]
  by_cases c : p < l
  · rw [if_neg (show ¬ iI (l : Nat) ≤ iI (p : Nat) by rw [iI_le (by omega) (by omega) (by omega) (by omega)]; omega), if_neg (ix_no (by omega) (by omega) (by omega)), iI_clamp (by omega) (by omega), show ((p : Int)).toNat = p from rfl, (h.2.2 p c).1, if_pos c]
  · rw [if_pos (show iI (l : Nat) ≤ iI (p : Nat) by rw [iI_le (by omega) (by omega) (by omega) (by omega)]; omega), if_neg c]
theorem t54 {N : Nat} {σT : St2} {r : Nat → Int32} {l : Nat} (h : TxT σT r l) : ∀ (m p n : Nat) (σD : St2), p + m = l → m < n → σD 0 5 = iI (p : Nat) → f_X3_takeSign_54 N n σD σT = some (up2 σD 0 5 (iI (rn (ltq r) l p : Nat)))
  | 0, p, n + 1, σD, hm, _, h5 => by
    have hl := h.1
    rw [f_X3_takeSign_54, size_eq h, h5, if_pos (by rw [iI_le (by omega) (by omega) (by omega) (by omega)]; omega), rn_end (by omega), ← h5, u2s]
  | m + 1, p, n + 1, σD, hm, hn, h5 => by
    have hl := h.1
    rw [f_X3_takeSign_54, size_eq h, h5, if_neg (by rw [iI_le (by omega) (by omega) (by omega) (by omega)]; omega), byteAt_eq h (by omega), if_pos (by omega), Option.bind_some, rn_step (by omega)]
    unfold ltq lt
    dsimp only
    by_cases c : f_X6_isLetter (r p) = true
    · rw [if_neg (by rw [c]; exact bI_t), if_pos c, nx, t54 h m (p + 1) n _ (by omega) (by omega) (u2e _ _ _ _), u2u]
      rfl
    · rw [if_pos (by rw [Bool.eq_false_iff.mpr c]; exact bI_f), if_neg c, ← h5, u2s]
theorem t110 {N : Nat} {σT : St2} {r : Nat → Int32} {l : Nat} (h : TxT σT r l) : ∀ (m p n : Nat) (σD : St2), p + m = l → m < n → σD 0 5 = iI (p : Nat) → f_X3_takeSign_110 N n σD σT = some (up2 σD 0 5 (iI (rn (dgq r) l p : Nat)))
  | 0, p, n + 1, σD, hm, _, h5 => by
    have hl := h.1
    rw [f_X3_takeSign_110, size_eq h, h5, if_pos (by rw [iI_le (by omega) (by omega) (by omega) (by omega)]; omega), rn_end (by omega), ← h5, u2s]
  | m + 1, p, n + 1, σD, hm, hn, h5 => by
    have hl := h.1
    rw [f_X3_takeSign_110, size_eq h, h5, if_neg (by rw [iI_le (by omega) (by omega) (by omega) (by omega)]; omega), byteAt_eq h (by omega), if_pos (by omega), Option.bind_some, rn_step (by omega)]
    unfold dgq lt
    dsimp only
    by_cases c : f_X6_isDigit (r p) = true
    · rw [if_neg (by rw [c]; exact bI_t), if_pos c, nx, t110 h m (p + 1) n _ (by omega) (by omega) (u2e _ _ _ _), u2u]
      rfl
    · rw [if_pos (by rw [Bool.eq_false_iff.mpr c]; exact bI_f), if_neg c, ← h5, u2s]
theorem takeSign_eq {N : Nat} (hN : 12002 ≤ N) {σT : St2} {r : Nat → Int32} {l : Nat} (h : TxT σT r l) {s : Nat} (hs : s ≤ l) {σD : St2} (h4 : σD 0 4 = iI (s : Nat)) : ∃ σ' : St2, f_X3_takeSign N σD σT = some σ' ∧ offT σ' σD ∧ σ' 0 4 = iI (s : Nat) ∧ σ' 0 3 = iI (srt r l s (-1)) ∧ σ' 0 5 = iI (stp r l s : Nat) := by
  have hl := h.1
  have hm1 : ¬ (s : Int) = -1 := by omega
  unfold f_X3_takeSign lt srt stp
  dsimp only
  rw [h4, size_eq h, byteAt_eq h (by omega), Option.bind_some]
  by_cases c : s < l
  · rw [if_pos (show iI (s : Nat) < iI (l : Nat) by rw [iI_lt (by omega) (by omega) (by omega) (by omega)]; omega), if_pos c, if_pos c, if_pos c]
    by_cases c1 : f_X6_isLetter (r s) = true
    · rw [if_neg (by rw [c1]; exact bI_t), if_pos (show ltq r s = true from c1), if_neg hm1, if_pos (show ltq r s = true from c1), t54 h (l - s) s N _ (by omega) (by omega) (by rw [u2n _ (Or.inr (by omega)), u2e])]
      refine ⟨_, rfl, fun i a b d => by rw [u2n _ (Or.inr d), u2n _ (Or.inr a), u2n _ (Or.inr d)], by rw [u2n _ (Or.inr (by omega)), u2n _ (Or.inr (by omega)), u2n _ (Or.inr (by omega))]; exact h4, by rw [u2n _ (Or.inr (by omega)), u2e]; rfl, u2e _ _ _ _⟩
    · rw [if_pos (by rw [Bool.eq_false_iff.mpr c1]; exact bI_f), if_neg (show ¬ ltq r s = true from c1), if_neg (show ¬ ltq r s = true from c1)]
      by_cases c2 : f_X6_isDigit (r s) = true
      · rw [if_neg (by rw [c2]; exact bI_t), if_pos (show dgq r s = true from c2), if_neg hm1, if_pos (show dgq r s = true from c2), t110 h (l - s) s N _ (by omega) (by omega) (by rw [u2n _ (Or.inr (by omega)), u2e])]
        refine ⟨_, rfl, fun i a b d => by rw [u2n _ (Or.inr d), u2n _ (Or.inr a), u2n _ (Or.inr d)], by rw [u2n _ (Or.inr (by omega)), u2n _ (Or.inr (by omega)), u2n _ (Or.inr (by omega))]; exact h4, by rw [u2n _ (Or.inr (by omega)), u2e]; rfl, u2e _ _ _ _⟩
      · rw [if_pos (by rw [Bool.eq_false_iff.mpr c2]; exact bI_f), if_neg (show ¬ dgq r s = true from c2), if_neg (show ¬ dgq r s = true from c2), nx]
        refine ⟨_, rfl, fun i a b d => by rw [u2n _ (Or.inr d), u2n _ (Or.inr a), u2n _ (Or.inr d)], by rw [u2n _ (Or.inr (by omega)), u2n _ (Or.inr (by omega)), u2n _ (Or.inr (by omega))]; exact h4, by rw [u2n _ (Or.inr (by omega)), u2e]; rfl, u2e _ _ _ _⟩
  · rw [if_neg (show ¬ iI (s : Nat) < iI (l : Nat) by rw [iI_lt (by omega) (by omega) (by omega) (by omega)]; omega), if_neg c, if_neg c]
    refine ⟨_, rfl, fun i a b d => by rw [u2n _ (Or.inr a), u2n _ (Or.inr d)], by rw [u2n _ (Or.inr (by omega)), u2n _ (Or.inr (by omega))]; exact h4, by rw [u2e]; rfl, by rw [u2n _ (Or.inr (by omega)), u2e]⟩
theorem adv76 {N : Nat} (hN : 12002 ≤ N) {σT : St2} {r : Nat → Int32} {l : Nat} (h : TxT σT r l) {s p : Nat} (hs : s ≤ l) (hp : p ≤ l) (hk : rn (bkq r) l s = s) {σD : St2} (h4 : σD 0 4 = iI (s : Nat)) (b : Bool) : ∃ σ' : St2, f_X3_advance_76 N σD σT (bI b) (iI (p : Nat)) = some σ' ∧ offT σ' σD ∧ HD σ' r l s (if b = true then (p : Int) else -1) := by
  have hl := h.1
  obtain ⟨σ1, e1, e2, e3, e4, e5⟩ := takeSign_eq hN h hs h4
  unfold f_X3_advance_76
  rw [e1, Option.bind_some]
  cases b with
  | false =>
    rw [if_pos bI_f]
    exact ⟨σ1, rfl, e2, hs, hk, e3, e4, e5⟩
  | true =>
    rw [if_neg bI_t, if_pos rfl, e3]
    by_cases c : s = p
    · rw [if_pos (by rw [c]), e4]
      have hx : ∀ v : Int, srt r l s (-1) = v → (v = 1 ∨ v = 2) → srt r l s (p : Int) = 3 := by
        intro v hv hv2
        unfold srt at hv ⊢
        by_cases d : s < l
        · rw [if_pos d] at hv ⊢
          by_cases d1 : ltq r s = true
          · rw [if_pos d1, if_pos (by omega)]
          · rw [if_neg d1] at hv ⊢
            by_cases d2 : dgq r s = true
            · rw [if_pos d2, if_pos (by omega)]
            · rw [if_neg d2]
        · rw [if_neg d] at hv; omega
      have hy : srt r l s (-1) ≠ 1 → srt r l s (-1) ≠ 2 → srt r l s (p : Int) = srt r l s (-1) := by
        intro k1 k2
        unfold srt at k1 k2 ⊢
        by_cases d : s < l
        · rw [if_pos d] at k1 k2 ⊢
          rw [if_pos d]
          by_cases d1 : ltq r s = true
          · rw [if_pos d1, if_neg (show ¬ (s : Int) = -1 by omega)] at k1
            exact absurd rfl k1
          · rw [if_neg d1] at k1 k2 ⊢
            rw [if_neg d1]
            by_cases d2 : dgq r s = true
            · rw [if_pos d2, if_neg (show ¬ (s : Int) = -1 by omega)] at k2
              exact absurd rfl k2
            · rw [if_neg d2, if_neg d2]
        · rw [if_neg d, if_neg d]
      have hb : -5 ≤ srt r l s (-1) ∧ srt r l s (-1) ≤ 5 := by
        unfold srt
        repeat' split
        all_goals omega
      by_cases c1 : srt r l s (-1) = 1
      · rw [if_pos (show iI (srt r l s (-1)) = 1 by rw [c1]; rfl)]
        refine ⟨_, rfl, fun i a b d => by rw [u2n _ (Or.inr a)]; exact e2 i a b d, hs, hk, by rw [u2n _ (Or.inr (by omega))]; exact e3, by rw [u2e, hx 1 c1 (Or.inl rfl)]; rfl, by rw [u2n _ (Or.inr (by omega))]; exact e5⟩
      · rw [if_neg (show ¬ iI (srt r l s (-1)) = 1 by rw [show (1 : Int32) = iI 1 from rfl, iI_eq (by omega) (by omega) (by omega) (by omega)]; exact c1)]
        by_cases c2 : srt r l s (-1) = 2
        · rw [if_pos (show iI (srt r l s (-1)) = 2 by rw [c2]; rfl)]
          refine ⟨_, rfl, fun i a b d => by rw [u2n _ (Or.inr a)]; exact e2 i a b d, hs, hk, by rw [u2n _ (Or.inr (by omega))]; exact e3, by rw [u2e, hx 2 c2 (Or.inr rfl)]; rfl, by rw [u2n _ (Or.inr (by omega))]; exact e5⟩
        · rw [if_neg (show ¬ iI (srt r l s (-1)) = 2 by rw [show (2 : Int32) = iI 2 from rfl, iI_eq (by omega) (by omega) (by omega) (by omega)]; exact c2)]
          exact ⟨σ1, rfl, e2, hs, hk, e3, by rw [e4, hy c1 c2], e5⟩
    · rw [if_neg (by rw [iI_eq (by omega) (by omega) (by omega) (by omega)]; omega)]
      refine ⟨σ1, rfl, e2, hs, hk, e3, ?_, e5⟩
      rw [e4]
      unfold srt
      rw [if_neg (show ¬ (s : Int) = -1 by omega), if_neg (show ¬ (s : Int) = -1 by omega), if_neg (show ¬ (s : Int) = (p : Int) by omega), if_neg (show ¬ (s : Int) = (p : Int) by omega)]
theorem adv32 {N : Nat} {σT : St2} {r : Nat → Int32} {l : Nat} (h : TxT σT r l) (y1 y2 : Int32) : ∀ (m p n : Nat) (σD : St2), p + m = l → m < n → σD 0 4 = iI (p : Nat) → f_X3_advance_32 N n σD σT y1 y2 = f_X3_advance_76 N (up2 σD 0 4 (iI (rn (bkq r) l p : Nat))) σT y1 y2
  | 0, p, n + 1, σD, hm, _, h4 => by
    have hl := h.1
    rw [f_X3_advance_32, size_eq h, h4, if_pos (by rw [iI_le (by omega) (by omega) (by omega) (by omega)]; omega), rn_end (by omega), ← h4, u2s]
  | m + 1, p, n + 1, σD, hm, hn, h4 => by
    have hl := h.1
    rw [f_X3_advance_32, size_eq h, h4, if_neg (by rw [iI_le (by omega) (by omega) (by omega) (by omega)]; omega), byteAt_eq h (by omega), if_pos (by omega), Option.bind_some, rn_step (by omega)]
    unfold bkq lt
    dsimp only
    by_cases c : f_X6_isBlank (r p) = true
    · rw [if_neg (by rw [c]; exact bI_t), if_pos c, nx, adv32 h y1 y2 m (p + 1) n _ (by omega) (by omega) (u2e _ _ _ _), u2u]
      rfl
    · rw [if_pos (by rw [Bool.eq_false_iff.mpr c]; exact bI_f), if_neg c, ← h4, u2s]
theorem adv_eq {N : Nat} (hN : 12002 ≤ N) {σT : St2} {r : Nat → Int32} {l : Nat} (h : TxT σT r l) {p : Nat} (hp : p ≤ l) {σD : St2} {τ : Int} (hτ : -5 ≤ τ ∧ τ ≤ 5) (h3 : σD 0 3 = iI τ) (h5 : σD 0 5 = iI (p : Nat)) : ∃ σ' : St2, f_X3_advance N σD σT = some σ' ∧ offT σ' σD ∧ HD σ' r l (rn (bkq r) l p) (if τ = 1 ∨ τ = 2 then (p : Int) else -1) := by
  have hl := h.1
  have hr := rn_le (bkq r) l (l - p) p (by omega)
  have key : ∀ b : Bool, ∃ σ' : St2, f_X3_advance_21 N σD σT (bI b) = some σ' ∧ offT σ' σD ∧ HD σ' r l (rn (bkq r) l p) (if b = true then (p : Int) else -1) := by
    intro b
    unfold f_X3_advance_21 lt
    dsimp only
    rw [h5, adv32 h (bI b) (iI (p : Nat)) (l - p) p N _ (by omega) (by omega) (u2e _ _ _ _), u2u]
    obtain ⟨σ', k1, k2, k3⟩ := adv76 hN h (s := rn (bkq r) l p) (p := p) (by omega) hp (rn_idem hp) (σD := up2 σD 0 4 (iI (rn (bkq r) l p : Nat))) (u2e _ _ _ _) b
    exact ⟨σ', k1, fun i a b c => (k2 i a b c).trans (u2n _ (Or.inr b)), k3⟩
  unfold f_X3_advance f_X3_advance_16
  rw [h3]
  by_cases c1 : τ = 1
  · rw [if_pos (show iI τ = 1 by rw [c1]; rfl)]
    obtain ⟨σ', k1, k2, k3⟩ := key true
    exact ⟨σ', k1, k2, by rw [if_pos (Or.inl c1)]; exact k3⟩
  · rw [if_neg (show ¬ iI τ = 1 by rw [show (1 : Int32) = iI 1 from rfl, iI_eq (by omega) (by omega) (by omega) (by omega)]; exact c1)]
    by_cases c2 : τ = 2
    · rw [if_pos (show iI τ = 2 by rw [c2]; rfl)]
      obtain ⟨σ', k1, k2, k3⟩ := key true
      exact ⟨σ', k1, k2, by rw [if_pos (Or.inr c2)]; exact k3⟩
    · rw [if_neg (show ¬ iI τ = 2 by rw [show (2 : Int32) = iI 2 from rfl, iI_eq (by omega) (by omega) (by omega) (by omega)]; exact c2)]
      obtain ⟨σ', k1, k2, k3⟩ := key false
      exact ⟨σ', k1, k2, by rw [if_neg (fun g => g.elim c1 c2)]; exact k3⟩
