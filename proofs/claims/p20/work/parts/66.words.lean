/-! record: the reference's words against the house's -/
def WdI (σ : St2) : Prop := ∀ j, 35 ≤ j → j ≤ 50 → σ j = m0.1 j
def EnvM (σ : St2) (r : Nat → Int32) (l : Nat) : Prop := σ 0 16 = iI (l : Nat) ∧ σ 14 = r ∧ WdI σ ∧ σ 0 18 = 0 ∧ σ 0 19 = -1
def offL (σ' σ : St2) : Prop := (∀ i, i ≠ 15 → i ≠ 17 → σ' 0 i = σ 0 i) ∧ ∀ j, j ≠ 0 → σ' j = σ j
theorem offL_rf (σ : St2) : offL σ σ := ⟨fun _ _ _ => rfl, fun _ _ => rfl⟩
theorem offL_tr {x y z : St2} (h : offL x y) (g : offL y z) : offL x z := ⟨fun i a b => (h.1 i a b).trans (g.1 i a b), fun j a => (h.2 j a).trans (g.2 j a)⟩
theorem EnvM_L {σ' σ : St2} {r : Nat → Int32} {l : Nat} (h : EnvM σ r l) (e : offL σ' σ) : EnvM σ' r l := by
  obtain ⟨h1, h2, h3, h4, h5⟩ := h
  refine ⟨by rw [e.1 16 (by omega) (by omega)]; exact h1, by rw [e.2 14 (by omega)]; exact h2, fun j a b => by rw [e.2 j (by omega)]; exact h3 j a b, by rw [e.1 18 (by omega) (by omega)]; exact h4, by rw [e.1 19 (by omega) (by omega)]; exact h5⟩
theorem offL_15 (σ : St2) (v : Int32) : offL (up2 σ 0 15 v) σ := ⟨fun i a b => u2n _ (Or.inr a), fun j a => u2r _ a⟩
theorem offL_1517 (σ : St2) (v w : Int32) : offL (up2 (up2 σ 0 15 v) 0 17 w) σ := ⟨fun i a b => by rw [u2n _ (Or.inr b), u2n _ (Or.inr a)], fun j a => by rw [u2r _ a, u2r _ a]⟩
def nxv (r : Nat → Int32) (l s : Nat) : Int32 := if s < l then r s else -1
theorem next52 {N : Nat} {r : Nat → Int32} {l p : Nat} (hl : l ≤ 200) (hp : p ≤ l) {σ : St2 × (Nat → Int64)} (h15 : σ.1 0 15 = iI (p : Nat)) (h16 : σ.1 0 16 = iI (l : Nat)) (h14 : σ.1 14 = r) : f_X8_next__52 N σ = some (nxv r l p, σ) := by
  unfold f_X8_next__52 nxv
  rw [h15, h16, h14]
  by_cases c : p < l
  · rw [if_neg (by rw [iI_le (by omega) (by omega) (by omega) (by omega)]; omega), if_neg (ix_no (by omega) (by omega) (by omega)), iI_clamp (by omega) (by omega), if_pos c]
    rfl
  · rw [if_pos (by rw [iI_le (by omega) (by omega) (by omega) (by omega)]; omega), if_neg c]
theorem next0 {N : Nat} {r : Nat → Int32} {l : Nat} (hl : l ≤ 200) : ∀ (m p n : Nat) (σ : St2 × (Nat → Int64)), p + m = l → m < n → σ.1 0 15 = iI (p : Nat) → σ.1 0 16 = iI (l : Nat) → σ.1 14 = r → f_X8_next__0 N n σ = some (nxv r l (rn (bkq r) l p), (up2 σ.1 0 15 (iI (rn (bkq r) l p : Nat)), σ.2))
  | 0, p, n + 1, σ, hm, _, h15, h16, h14 => by
    rw [f_X8_next__0, h15, h16, if_pos (by rw [iI_le (by omega) (by omega) (by omega) (by omega)]; omega), rn_end (by omega), next52 hl (by omega) h15 h16 h14, ← h15, u2s]
  | m + 1, p, n + 1, σ, hm, hn, h15, h16, h14 => by
    rw [f_X8_next__0, h15, h16, if_neg (by rw [iI_le (by omega) (by omega) (by omega) (by omega)]; omega), if_neg (ix_no (by omega) (by omega) (by omega)), if_neg (ix_no (by omega) (by omega) (by omega)), iI_clamp (by omega) (by omega), show ((p : Int)).toNat = p from rfl, h14, rn_step (by omega)]
    unfold f_X8_next__39 lt
    dsimp only
    rw [h15, nx]
    have go : f_X8_next__0 N n (up2 σ.1 0 15 (iI ((p + 1 : Nat) : Int)), σ.2) = some (nxv r l (rn (bkq r) l (p + 1)), (up2 σ.1 0 15 (iI (rn (bkq r) l (p + 1) : Nat)), σ.2)) := by
      have a15 : up2 σ.1 0 15 (iI ((p + 1 : Nat) : Int)) 0 15 = iI ((p + 1 : Nat) : Int) := u2e _ _ _ _
      have a16 : up2 σ.1 0 15 (iI ((p + 1 : Nat) : Int)) 0 16 = iI (l : Nat) := by rw [u2n _ (Or.inr (by omega))]; exact h16
      have a14 : up2 σ.1 0 15 (iI ((p + 1 : Nat) : Int)) 14 = r := by rw [u2r _ (by omega)]; exact h14
      rw [next0 hl m (p + 1) n (up2 σ.1 0 15 (iI ((p + 1 : Nat) : Int)), σ.2) (by omega) (by omega) a15 a16 a14]
      dsimp only
      rw [u2u]
    by_cases c1 : r p = 10
    · rw [if_pos c1, if_pos (show bkq r p = true by unfold bkq f_X6_isBlank; rw [if_pos c1]), go]
    · rw [if_neg c1]
      by_cases c2 : r p = 32
      · rw [if_pos c2, if_pos (show bkq r p = true by unfold bkq f_X6_isBlank; rw [if_neg c1, if_pos c2]), go]
      · rw [if_neg c2, if_neg (show ¬ bkq r p = true by unfold bkq f_X6_isBlank; rw [if_neg c1, if_neg c2]; decide), next52 hl (by omega) h15 h16 h14, ← h15, u2s]
theorem next_at {N : Nat} (hN : 12002 ≤ N) {r : Nat → Int32} {l p : Nat} (hl : l ≤ 200) (hp : p ≤ l) {σ : St2 × (Nat → Int64)} (h15 : σ.1 0 15 = iI (p : Nat)) (h16 : σ.1 0 16 = iI (l : Nat)) (h14 : σ.1 14 = r) : f_X8_next_ N σ = some (nxv r l (rn (bkq r) l p), (up2 σ.1 0 15 (iI (rn (bkq r) l p : Nat)), σ.2)) := next0 hl (l - p) p N σ (by omega) (by omega) h15 h16 h14
theorem we5 {N : Nat} {r : Nat → Int32} {l : Nat} (hl : l ≤ 200) {σ : St2 × (Nat → Int64)} (h16 : σ.1 0 16 = iI (l : Nat)) (h14 : σ.1 14 = r) : ∀ (m p n : Nat), p + m = l → m < n → f_X8_wordEnd_5 N n σ (iI (p : Nat)) = some (iI (rn (ltq r) l p : Nat))
  | 0, p, n + 1, hm, _ => by
    rw [f_X8_wordEnd_5, h16, if_pos (by rw [iI_le (by omega) (by omega) (by omega) (by omega)]; omega), rn_end (by omega)]
  | m + 1, p, n + 1, hm, hn => by
    rw [f_X8_wordEnd_5, h16, if_neg (by rw [iI_le (by omega) (by omega) (by omega) (by omega)]; omega), if_neg (ix_no (by omega) (by omega) (by omega)), iI_clamp (by omega) (by omega), show ((p : Int)).toNat = p from rfl, h14, rn_step (by omega), nx, we5 hl h16 h14 m (p + 1) n (by omega) (by omega)]
    by_cases c : ltq r p = true
    · rw [if_neg (show ¬ bI (f_X8_isLetter (r p)) = 0 by rw [show f_X8_isLetter (r p) = true from c]; exact bI_t), if_pos c]
    · rw [if_pos (show bI (f_X8_isLetter (r p)) = 0 by rw [show f_X8_isLetter (r p) = false from Bool.eq_false_iff.mpr c]; exact bI_f), if_neg c]
def eqw (r w : Nat → Int32) (s : Nat) : Nat → Nat → Bool
  | 0, _ => true
  | m + 1, i => if r (s + i) = w i then eqw r w s m (i + 1) else false
theorem w28 {N kw : Nat} {σT σD : St2} {r : Nat → Int32} {l s : Nat} (h : TxT σT r l) (h4 : σD 0 4 = iI (s : Nat)) (hL : lenS.getD kw 0 ≤ 5) (hs : s + lenS.getD kw 0 ≤ l) : ∀ (m i n : Nat), i + m = lenS.getD kw 0 → m < n → f_X3_isWord_28 kw N n σD σT (iI (i : Nat)) = some (eqw r (sCh kw) s m i)
  | 0, i, n + 1, hm, _ => by
    rw [f_X3_isWord_28, nI_iI, if_pos (by rw [iI_le (by omega) (by omega) (by omega) (by omega)]; omega)]
    rfl
  | m + 1, i, n + 1, hm, hn => by
    have hl := h.1
    rw [f_X3_isWord_28, nI_iI, if_neg (by rw [iI_le (by omega) (by omega) (by omega) (by omega)]; omega), h4, iI_add, show (s : Int) + (i : Int) = ((s + i : Nat) : Int) by omega, byteAt_eq h (by omega), if_pos (by omega), Option.bind_some, if_neg (ix_no (by omega) (by omega) (by omega)), iI_clamp (by omega) (by omega), show ((i : Int)).toNat = i from rfl, nx, w28 h h4 hL hs m (i + 1) n (by omega) (by omega), eqw]
    by_cases c : r (s + i) = sCh kw i
    · rw [if_pos c, if_pos c]
    · rw [if_neg c, if_neg c]
theorem w34 {N kw : Nat} {r w : Nat → Int32} {l s : Nat} (hl : l ≤ 200) {σ : St2 × (Nat → Int64)} (h15 : σ.1 0 15 = iI (s : Nat)) (h14 : σ.1 14 = r) (hw : ∀ i, i < wlen kw → σ.1 (kw + 1) i = w i) (hL : wlen kw ≤ 5) (hs : s + wlen kw ≤ l) : ∀ (m i n : Nat), i + m = wlen kw → m < n → f_X8_takes_34 kw N n σ (iI (i : Nat)) = if eqw r w s m i = true then some (true, (up2 (up2 σ.1 0 15 (iI ((s + wlen kw : Nat) : Int))) 0 17 (iI ((s + wlen kw : Nat) : Int)), σ.2)) else some (false, σ)
  | 0, i, n + 1, hm, _ => by
    rw [f_X8_takes_34, show Int32.ofNat (wlen kw) = iI (wlen kw : Nat) from nI_iI _, if_pos (by rw [iI_le (by omega) (by omega) (by omega) (by omega)]; omega), h15, iI_add, eqw, if_pos rfl]
    rfl
  | m + 1, i, n + 1, hm, hn => by
    rw [f_X8_takes_34, show Int32.ofNat (wlen kw) = iI (wlen kw : Nat) from nI_iI _, if_neg (by rw [iI_le (by omega) (by omega) (by omega) (by omega)]; omega), h15, iI_add, show (s : Int) + (i : Int) = ((s + i : Nat) : Int) by omega, if_neg (ix_no (by omega) (by omega) (by omega)), if_neg (ix_no (by omega) (by omega) (by omega)), iI_clamp (by omega) (by omega), iI_clamp (by omega) (by omega), show ((i : Int)).toNat = i from rfl, show ((s + i : Nat) : Int).toNat = s + i from rfl, h14, hw i (by omega), nx, w34 hl h15 h14 hw hL hs m (i + 1) n (by omega) (by omega), eqw]
    by_cases c : r (s + i) = w i
    · rw [if_pos c, if_pos c]
    · rw [if_neg c, if_neg c, if_neg (by decide)]
def kmap : Nat → Nat
  | 7 => 46
  | 8 => 41
  | 9 => 42
  | 10 => 43
  | 11 => 44
  | 12 => 45
  | k => 34 + k
theorem pair_ok : ∀ k, k < 16 → (34 ≤ kmap k ∧ kmap k ≤ 49) ∧ lenS.getD k 0 = wlen (kmap k) ∧ (2 ≤ wlen (kmap k) ∧ wlen (kmap k) ≤ 5) ∧ ∀ i, i < wlen (kmap k) → m0.1 (kmap k + 1) i = sCh k i := by decide +kernel
theorem srt_rng (r : Nat → Int32) (l s : Nat) (e : Int) : 0 ≤ srt r l s e ∧ srt r l s e ≤ 3 := by
  unfold srt
  repeat' split
  all_goals omega
theorem srt_1 {r : Nat → Int32} {l s : Nat} {e : Int} : srt r l s e = 1 ↔ s < l ∧ ltq r s = true ∧ ¬ (s : Int) = e := by
  unfold srt
  by_cases c : s < l
  · rw [if_pos c]
    by_cases c1 : ltq r s = true
    · rw [if_pos c1]
      by_cases c2 : (s : Int) = e
      · rw [if_pos c2]; exact ⟨fun g => by omega, fun g => absurd c2 g.2.2⟩
      · rw [if_neg c2]; exact ⟨fun _ => ⟨c, c1, c2⟩, fun _ => rfl⟩
    · rw [if_neg c1]
      refine ⟨fun g => ?_, fun g => absurd g.2.1 c1⟩
      split at g
      · split at g <;> omega
      · omega
  · rw [if_neg c]
    exact ⟨fun g => by omega, fun g => absurd g.1 c⟩
theorem word_eq {N : Nat} (hN : 12002 ≤ N) {σT σD : St2} {r : Nat → Int32} {l : Nat} (hT : TxT σT r l) {kh : Nat} (hk : kh < 16) {s : Nat} {e : Int} (hH : HD σD r l s e) (he : -1 ≤ e ∧ e ≤ 200) {σ : St2 × (Nat → Int64)} {p : Nat} (hp : p ≤ l) (hsk : rn (bkq r) l p = s) (h15 : σ.1 0 15 = iI (p : Nat)) (h17 : σ.1 0 17 = iI e) (hE : EnvM σ.1 r l) : (f_X3_isWord N σD σT kh = some false ∧ f_X8_takes N σ (kmap kh) = some (false, (up2 σ.1 0 15 (iI (s : Nat)), σ.2))) ∨ (f_X3_isWord N σD σT kh = some true ∧ f_X8_takes N σ (kmap kh) = some (true, (up2 (up2 σ.1 0 15 (iI (stp r l s : Nat))) 0 17 (iI (stp r l s : Nat)), σ.2)) ∧ srt r l s e = 1 ∧ stp r l s = s + wlen (kmap kh) ∧ stp r l s ≤ l) := by
  obtain ⟨hs, hb, h4, h3, h5⟩ := hH
  obtain ⟨g16, g14, gw, g18, g19⟩ := hE
  have hl := hT.1
  obtain ⟨pk, pl, p2, pc⟩ := pair_ok kh hk
  have hwe := rn_le (ltq r) l (l - s) s (by omega)
  have hsr := srt_rng r l s e
  have e1 := next_at hN hl hp h15 g16 g14
  rw [hsk] at e1
  have hσ14 : up2 σ.1 0 15 (iI (s : Nat)) 14 = r := by rw [u2r _ (by omega)]; exact g14
  have hσ16 : up2 σ.1 0 15 (iI (s : Nat)) 0 16 = iI (l : Nat) := by rw [u2n _ (Or.inr (by omega))]; exact g16
  have hσ17 : up2 σ.1 0 15 (iI (s : Nat)) 0 17 = iI e := by rw [u2n _ (Or.inr (by omega))]; exact h17
  unfold f_X3_isWord f_X8_takes
  rw [e1, Option.bind_some, h3]
  dsimp only
  have hσ15 : up2 σ.1 0 15 (iI (s : Nat)) 0 15 = iI (s : Nat) := u2e _ _ _ _
  by_cases ce : (s : Int) = e
  · left
    rw [if_pos (show up2 σ.1 0 15 (iI (s : Nat)) 0 15 = up2 σ.1 0 15 (iI (s : Nat)) 0 17 by rw [hσ15, hσ17, ce]), if_neg (show ¬ iI (srt r l s e) = 1 by rw [show (1 : Int32) = iI 1 from rfl, iI_eq (by omega) (by omega) (by omega) (by omega), srt_1]; exact fun g => g.2.2 ce)]
    exact ⟨rfl, rfl⟩
  · have hwd : f_X8_wordEnd N (up2 σ.1 0 15 (iI (s : Nat)), σ.2) = some (iI (rn (ltq r) l s : Nat)) := by
      unfold f_X8_wordEnd
      rw [show (up2 σ.1 0 15 (iI (s : Nat)), σ.2).1 0 15 = iI (s : Nat) from hσ15]
      exact we5 hl (σ := (up2 σ.1 0 15 (iI (s : Nat)), σ.2)) hσ16 hσ14 (l - s) s N (by omega) (by omega)
    rw [if_neg (show ¬ up2 σ.1 0 15 (iI (s : Nat)) 0 15 = up2 σ.1 0 15 (iI (s : Nat)) 0 17 by rw [hσ15, hσ17, iI_eq (by omega) (by omega) (by omega) (by omega)]; exact ce), hwd, Option.bind_some]
    have hcd : iI (rn (ltq r) l s : Nat) - up2 σ.1 0 15 (iI (s : Nat)) 0 15 = Int32.ofNat (wlen (kmap kh)) ↔ rn (ltq r) l s = s + wlen (kmap kh) := by
      rw [hσ15, iI_sub, show Int32.ofNat (wlen (kmap kh)) = iI (wlen (kmap kh) : Nat) from nI_iI _, iI_eq (by omega) (by omega) (by omega) (by omega)]
      omega
    by_cases c1 : s < l ∧ ltq r s = true
    · have hst : stp r l s = rn (ltq r) l s := by
        unfold stp
        rw [if_pos c1.1, if_pos c1.2]
      have hs1 : srt r l s e = 1 := srt_1.mpr ⟨c1.1, c1.2, ce⟩
      rw [if_pos (show iI (srt r l s e) = 1 by rw [hs1]; rfl), h4, h5, iI_sub, nI_iI, pl, hst]
      by_cases c2 : rn (ltq r) l s = s + wlen (kmap kh)
      · rw [if_pos (hcd.mpr c2), if_pos (show iI (((rn (ltq r) l s : Nat) : Int) - (s : Int)) = iI (wlen (kmap kh) : Nat) by congr 1; omega)]
        have k1 := w28 (N := N) (kw := kh) hT h4 (by rw [pl]; omega) (by rw [pl]; omega) (wlen (kmap kh)) 0 N (by rw [pl]; omega) (by omega)
        have k2 := w34 (N := N) (kw := kmap kh) (w := sCh kh) hl (σ := (up2 σ.1 0 15 (iI (s : Nat)), σ.2)) hσ15 hσ14 (fun i hi => by
          show up2 σ.1 0 15 (iI (s : Nat)) (kmap kh + 1) i = _
          rw [u2r _ (by omega), gw _ (by omega) (by omega)]
          exact pc i hi) (by omega) (by omega) (wlen (kmap kh)) 0 N (by omega) (by omega)
        rw [show f_X3_isWord_28 kh N N σD σT 0 = _ from k1, show f_X8_takes_34 (kmap kh) N N (up2 σ.1 0 15 (iI (s : Nat)), σ.2) 0 = _ from k2]
        by_cases c3 : eqw r (sCh kh) s (wlen (kmap kh)) 0 = true
        · right
          rw [c3, if_pos rfl, c2]
          refine ⟨rfl, ?_, hs1, rfl, by omega⟩
          dsimp only
          rw [u2u]
        · left
          rw [Bool.eq_false_iff.mpr c3, if_neg (by decide)]
          exact ⟨rfl, rfl⟩
      · left
        rw [if_neg (fun g => c2 (hcd.mp g)), if_neg (by rw [iI_eq (by omega) (by omega) (by omega) (by omega)]; omega)]
        exact ⟨rfl, rfl⟩
    · left
      have hst : rn (ltq r) l s = s := by
        by_cases c2 : s < l
        · rw [rn_step c2, if_neg (fun g => c1 ⟨c2, g⟩)]
        · exact rn_end (by omega)
      rw [if_neg (show ¬ iI (srt r l s e) = 1 by rw [show (1 : Int32) = iI 1 from rfl, iI_eq (by omega) (by omega) (by omega) (by omega), srt_1]; exact fun g => c1 ⟨g.1, g.2.1⟩), if_neg (fun g => by have := hcd.mp g; omega)]
      exact ⟨rfl, rfl⟩
