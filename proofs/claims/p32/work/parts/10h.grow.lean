/-! a node, a link, a sensor, an interest is added: the numbers stay as they must be, and both sides hold the same -/
section
variable {ρ ρ' : Nat → Int32} {σ σ' : iw_M} {c : Nat}
theorem im_WF_node (hw : im_WF ρ) {N : Nat} (hN : im_tn (ρ 0) = N) (h10 : N < 10) (h0 : ρ' 0 = nI (N + 1)) (he : ∀ k, k < 465 → k ≠ 0 → k ≠ 12 + N → ρ' k = ρ k) : im_WF ρ' := by
  obtain ⟨⟨a0, a1, a2, a3, a4, a5⟩, h2, h3, h4, h5, h6⟩ := id hw
  have b1 := a1.1
  have b2 := a2.1
  have b3 := a3.1
  have e0 : im_tn (ρ' 0) = N + 1 := by rw [h0, im_tn_nI (by omega)]
  unfold im_WF
  rw [he 1 (by omega) (by omega) (by omega), he 2 (by omega) (by omega) (by omega), he 3 (by omega) (by omega) (by omega), he 4 (by omega) (by omega) (by omega), e0]
  refine ⟨⟨?_, a1, a2, a3, a4, a5⟩, fun l a => ?_, fun l l' x y a a' p q => ?_, fun s a => ?_, fun i a => ?_, fun i s a b => ?_⟩
  · rw [h0]; exact im_sm_nI (by omega) (by decide)
  · rw [he _ (by omega) (by omega) (by omega), he _ (by omega) (by omega) (by omega), he _ (by omega) (by omega) (by omega)]
    obtain ⟨g1, g2, g3, g4, g5⟩ := h2 l a
    exact ⟨im_sm_mono g1 (by omega), im_sm_mono g2 (by omega), g3, g4, g5⟩
  · unfold im_lk at p q
    rw [he _ (by omega) (by omega) (by omega), he _ (by omega) (by omega) (by omega)] at p q
    exact h3 l l' x y a a' p q
  · rw [he _ (by omega) (by omega) (by omega)]; exact im_sm_mono (h4 s a) (by omega)
  · rw [he _ (by omega) (by omega) (by omega)]; exact im_sm_mono (h5 i a) (by omega)
  · have q2 := im_wa_ge i s
    have q3 := im_WF_wa hw a b
    obtain ⟨g1, g2, g3⟩ := h6 i s a b
    have := g1.1
    rw [he _ (by omega) (by omega) (by omega)]
    refine ⟨g1, fun k hk => by rw [he _ (by omega) (by omega) (by omega)]; exact im_sm_mono (g2 k hk) (by omega), fun k k' hk hk' hh => ?_⟩
    rw [he _ (by omega) (by omega) (by omega), he _ (by omega) (by omega) (by omega)] at hh
    exact g3 k k' hk hk' hh
theorem im_NR_node (hw : im_WF ρ) (h : im_NR σ c ρ) {N : Nat} (hN : im_tn (ρ 0) = N) (h10 : N < 10) (h0 : ρ' 0 = nI (N + 1)) (he : ∀ k, k < 465 → k ≠ 0 → k ≠ 12 + N → ρ' k = ρ k) (s0 : σ' (c + 1) 0 = nI (N + 1)) (s1 : ∀ j, j ≠ 0 → σ' (c + 1) j = σ (c + 1) j) (s2 : ∀ j, j ≠ N → σ' (c + 2) j = σ (c + 2) j) (s2' : σ' (c + 2) N = ρ' (12 + N)) (s3 : ∀ j, 3 ≤ j → j ≤ 7 → σ' (c + j) = σ (c + j)) : im_NR σ' c ρ' := by
  obtain ⟨h1, h2, h3, h4, h5, h6, h7⟩ := h
  have b1 := hw.1.2.1.1
  have b2 := hw.1.2.2.1.1
  have b3 := hw.1.2.2.2.1.1
  have e0 : im_tn (ρ' 0) = N + 1 := by rw [h0, im_tn_nI (by omega)]
  unfold im_NR
  rw [he 1 (by omega) (by omega) (by omega), he 2 (by omega) (by omega) (by omega), he 3 (by omega) (by omega) (by omega), e0, s3 3 (by omega) (by omega), s3 4 (by omega) (by omega), s3 5 (by omega) (by omega), s3 6 (by omega) (by omega), s3 7 (by omega) (by omega)]
  refine ⟨fun j a b => ?_, fun k a => ?_, fun k a => ?_, fun k a => ?_, fun k a => ?_, fun i s a b => ?_, h7⟩
  · by_cases q : j = 0
    · subst q; rw [s0, h0]
    · rw [s1 j q, he j (by omega) q (by omega)]; exact h1 j a b
  · by_cases q : k = N
    · subst q; exact s2'
    · rw [s2 k q, he _ (by omega) (by omega) (by omega)]; exact h2 k (by omega)
  · rw [he _ (by omega) (by omega) (by omega)]; exact h3 k a
  · rw [he _ (by omega) (by omega) (by omega)]; exact h4 k a
  · rw [he _ (by omega) (by omega) (by omega)]; exact h5 k a
  · have q2 := im_wa_ge i s
    have q3 := im_WF_wa hw a b
    have g1 := (hw.2.2.2.2.2 i s a b).1.1
    rw [he _ (by omega) (by omega) (by omega)]
    refine ⟨(h6 i s a b).1, fun k hk => ?_⟩
    rw [he _ (by omega) (by omega) (by omega)]
    exact (h6 i s a b).2 k hk
theorem im_WF_link (hw : im_WF ρ) {L a b d : Nat} (hL : im_tn (ρ 1) = L) (h20 : L < 20) (h1 : ρ' 1 = nI (L + 1)) (ha : a < im_tn (ρ 0)) (hb : b < im_tn (ρ 0)) (hab : a ≠ b) (hd : 1 ≤ d ∧ d ≤ 20) (r0 : ρ' (22 + 3 * L) = nI a) (r1 : ρ' (22 + 3 * L + 1) = nI b) (r2 : ρ' (22 + 3 * L + 2) = nI d) (hno : ∀ l, l < L → ¬ im_lk ρ l a b) (he : ∀ k, k < 465 → k ≠ 1 → ¬ (22 + 3 * L ≤ k ∧ k < 22 + 3 * L + 3) → ρ' k = ρ k) : im_WF ρ' := by
  obtain ⟨⟨a0, a1, a2, a3, a4, a5⟩, h2, h3, h4, h5, h6⟩ := id hw
  have b0 := a0.1
  have b2 := a2.1
  have b3 := a3.1
  have e1 : im_tn (ρ' 1) = L + 1 := by rw [h1, im_tn_nI (by omega)]
  have lk : ∀ l x y, l < L → (im_lk ρ' l x y ↔ im_lk ρ l x y) := fun l x y hl => by
    unfold im_lk
    rw [he _ (by omega) (by omega) (by omega), he _ (by omega) (by omega) (by omega)]
  have lkL : ∀ x y, im_lk ρ' L x y → (x = a ∧ y = b) ∨ (x = b ∧ y = a) := fun x y q => by
    unfold im_lk at q
    rw [r0, r1, im_tn_nI (by omega), im_tn_nI (by omega)] at q
    omega
  have sym : ∀ l x y, im_lk ρ l x y → im_lk ρ l y x := fun l x y q => by
    unfold im_lk at q ⊢
    omega
  unfold im_WF
  rw [he 0 (by omega) (by omega) (by omega), he 2 (by omega) (by omega) (by omega), he 3 (by omega) (by omega) (by omega), he 4 (by omega) (by omega) (by omega), e1]
  refine ⟨⟨a0, ?_, a2, a3, a4, a5⟩, fun l hl => ?_, fun l l' x y hl hl' p q => ?_, fun s hs => ?_, fun i hi => ?_, fun i s hi hs => ?_⟩
  · rw [h1]; exact im_sm_nI (by omega) (by decide)
  · by_cases q : l = L
    · subst q
      rw [r0, r1, r2, im_tn_nI (by omega), im_tn_nI (by omega), im_tn_nI (by omega)]
      exact ⟨im_sm_nI ha (by omega), im_sm_nI hb (by omega), im_sm_nI (by omega) (by decide), by omega, hab⟩
    · rw [he _ (by omega) (by omega) (by omega), he _ (by omega) (by omega) (by omega), he _ (by omega) (by omega) (by omega)]
      exact h2 l (by omega)
  · by_cases q1 : l = L
    · by_cases q2 : l' = L
      · omega
      · have g := (lk l' x y (by omega)).mp q
        rw [q1] at p
        rcases lkL x y p with ⟨rfl, rfl⟩ | ⟨rfl, rfl⟩
        · exact absurd g (hno l' (by omega))
        · exact absurd (sym _ _ _ g) (hno l' (by omega))
    · by_cases q2 : l' = L
      · have g := (lk l x y (by omega)).mp p
        rw [q2] at q
        rcases lkL x y q with ⟨rfl, rfl⟩ | ⟨rfl, rfl⟩
        · exact absurd g (hno l (by omega))
        · exact absurd (sym _ _ _ g) (hno l (by omega))
      · exact h3 l l' x y (by omega) (by omega) ((lk l x y (by omega)).mp p) ((lk l' x y (by omega)).mp q)
  · rw [he _ (by omega) (by omega) (by omega)]; exact h4 s hs
  · rw [he _ (by omega) (by omega) (by omega)]; exact h5 i hi
  · have q2 := im_wa_ge i s
    have q3 := im_WF_wa hw hi hs
    obtain ⟨g1, g2, g3⟩ := h6 i s hi hs
    have := g1.1
    rw [he _ (by omega) (by omega) (by omega)]
    refine ⟨g1, fun k hk => by rw [he _ (by omega) (by omega) (by omega)]; exact g2 k hk, fun k k' hk hk' hh => ?_⟩
    rw [he _ (by omega) (by omega) (by omega), he _ (by omega) (by omega) (by omega)] at hh
    exact g3 k k' hk hk' hh
theorem im_NR_link (hw : im_WF ρ) (h : im_NR σ c ρ) {L : Nat} (hL : im_tn (ρ 1) = L) (h20 : L < 20) (h1 : ρ' 1 = nI (L + 1)) (he : ∀ k, k < 465 → k ≠ 1 → ¬ (22 + 3 * L ≤ k ∧ k < 22 + 3 * L + 3) → ρ' k = ρ k) (s0 : σ' (c + 1) 1 = nI (L + 1)) (s1 : ∀ j, j ≠ 1 → σ' (c + 1) j = σ (c + 1) j) (s2 : ∀ j, ¬ (3 * L ≤ j ∧ j < 3 * L + 3) → σ' (c + 3) j = σ (c + 3) j) (s2' : ∀ j, 3 * L ≤ j → j < 3 * L + 3 → σ' (c + 3) j = ρ' (22 + j)) (s3 : ∀ j, 2 ≤ j → j ≤ 7 → j ≠ 3 → σ' (c + j) = σ (c + j)) : im_NR σ' c ρ' := by
  obtain ⟨h1', h2, h3, h4, h5, h6, h7⟩ := h
  have b0 := hw.1.1.1
  have b2 := hw.1.2.2.1.1
  have b3 := hw.1.2.2.2.1.1
  have e1 : im_tn (ρ' 1) = L + 1 := by rw [h1, im_tn_nI (by omega)]
  unfold im_NR
  rw [he 0 (by omega) (by omega) (by omega), he 2 (by omega) (by omega) (by omega), he 3 (by omega) (by omega) (by omega), e1, s3 2 (by omega) (by omega) (by omega), s3 4 (by omega) (by omega) (by omega), s3 5 (by omega) (by omega) (by omega), s3 6 (by omega) (by omega) (by omega), s3 7 (by omega) (by omega) (by omega)]
  refine ⟨fun j a b => ?_, fun k a => ?_, fun k a => ?_, fun k a => ?_, fun k a => ?_, fun i s a b => ?_, h7⟩
  · by_cases q : j = 1
    · subst q; rw [s0, h1]
    · rw [s1 j q, he j (by omega) q (by omega)]; exact h1' j a b
  · rw [he _ (by omega) (by omega) (by omega)]; exact h2 k a
  · by_cases q : 3 * L ≤ k
    · exact s2' k q (by omega)
    · rw [s2 k (by omega), he _ (by omega) (by omega) (by omega)]; exact h3 k (by omega)
  · rw [he _ (by omega) (by omega) (by omega)]; exact h4 k a
  · rw [he _ (by omega) (by omega) (by omega)]; exact h5 k a
  · have q2 := im_wa_ge i s
    have q3 := im_WF_wa hw a b
    have g1 := (hw.2.2.2.2.2 i s a b).1.1
    rw [he _ (by omega) (by omega) (by omega)]
    refine ⟨(h6 i s a b).1, fun k hk => ?_⟩
    rw [he _ (by omega) (by omega) (by omega)]
    exact (h6 i s a b).2 k hk
theorem im_WF_sens (hw : im_WF ρ) {S a : Nat} (hS : im_tn (ρ 2) = S) (h6' : S < 6) (h2' : ρ' 2 = nI (S + 1)) (ha : a < im_tn (ρ 0)) (r0 : ρ' (82 + 3 * S) = nI a) (rz : ∀ i, i < 5 → ρ' (im_wa i S) = 0) (he : ∀ k, k < 465 → k ≠ 2 → ¬ (82 + 3 * S ≤ k ∧ k < 82 + 3 * S + 3) → (∀ i, i < 5 → k ≠ im_wa i S) → ρ' k = ρ k) : im_WF ρ' := by
  obtain ⟨⟨a0, a1, a2, a3, a4, a5⟩, h2, h3, h4, h5, h6⟩ := id hw
  have b0 := a0.1
  have b1 := a1.1
  have b3 := a3.1
  have e2 : im_tn (ρ' 2) = S + 1 := by rw [h2', im_tn_nI (by omega)]
  have hl : ∀ k, k < 135 → ∀ i, i < 5 → k ≠ im_wa i S := fun k hk i _ => by have := im_wa_ge i S; omega
  have far : ∀ i s k, i < 5 → s < 6 → s ≠ S → k ≤ 10 → ∀ i', i' < 5 → im_wa i s + k ≠ im_wa i' S := fun i s k _ _ _ _ i' _ => by unfold im_wa; omega
  unfold im_WF
  rw [he 0 (by omega) (by omega) (by omega) (hl _ (by omega)), he 1 (by omega) (by omega) (by omega) (hl _ (by omega)), he 3 (by omega) (by omega) (by omega) (hl _ (by omega)), he 4 (by omega) (by omega) (by omega) (hl _ (by omega)), e2]
  refine ⟨⟨a0, a1, ?_, a3, a4, a5⟩, fun l hl' => ?_, fun l l' x y hl1 hl2 p q => ?_, fun s hs => ?_, fun i hi => ?_, fun i s hi hs => ?_⟩
  · rw [h2']; exact im_sm_nI (by omega) (by decide)
  · rw [he _ (by omega) (by omega) (by omega) (hl _ (by omega)), he _ (by omega) (by omega) (by omega) (hl _ (by omega)), he _ (by omega) (by omega) (by omega) (hl _ (by omega))]
    exact h2 l hl'
  · unfold im_lk at p q
    rw [he _ (by omega) (by omega) (by omega) (hl _ (by omega)), he _ (by omega) (by omega) (by omega) (hl _ (by omega))] at p q
    exact h3 l l' x y hl1 hl2 p q
  · by_cases q : s = S
    · subst q; rw [r0]; exact im_sm_nI ha (by omega)
    · rw [he _ (by omega) (by omega) (by omega) (hl _ (by omega))]; exact h4 s (by omega)
  · rw [he _ (by omega) (by omega) (by omega) (hl _ (by omega))]; exact h5 i hi
  · by_cases q : s = S
    · subst q
      rw [rz i (by omega)]
      exact ⟨im_sm_nI (k := 0) (by omega) (by decide), fun k hk => absurd hk (by rw [show im_tn (0 : Int32) = 0 from rfl]; omega), fun k k' hk => absurd hk (by rw [show im_tn (0 : Int32) = 0 from rfl]; omega)⟩
    · have q2 := im_wa_ge i s
      have q3 := im_WF_wa hw hi (show s < im_tn (ρ 2) by omega)
      obtain ⟨g1, g2, g3⟩ := h6 i s hi (by omega)
      have := g1.1
      have f0 := far i s 0 (by omega) (by omega) q (by omega)
      rw [Nat.add_zero] at f0
      have f1 : ∀ k, k < 10 → ∀ i', i' < 5 → im_wa i s + 1 + k ≠ im_wa i' S := fun k hk => by
        have := far i s (1 + k) (by omega) (by omega) q (by omega)
        rw [← Nat.add_assoc] at this
        exact this
      rw [he _ (by omega) (by omega) (by omega) f0]
      refine ⟨g1, fun k hk => by rw [he _ (by omega) (by omega) (by omega) (f1 k (by omega))]; exact g2 k hk, fun k k' hk hk' hh => ?_⟩
      rw [he _ (by omega) (by omega) (by omega) (f1 k (by omega)), he _ (by omega) (by omega) (by omega) (f1 k' (by omega))] at hh
      exact g3 k k' hk hk' hh
theorem im_NR_sens (hw : im_WF ρ) (h : im_NR σ c ρ) {S : Nat} (hS : im_tn (ρ 2) = S) (h6' : S < 6) (h2' : ρ' 2 = nI (S + 1)) (rz : ∀ i, i < 5 → ρ' (im_wa i S) = 0) (he : ∀ k, k < 465 → k ≠ 2 → ¬ (82 + 3 * S ≤ k ∧ k < 82 + 3 * S + 3) → (∀ i, i < 5 → k ≠ im_wa i S) → ρ' k = ρ k) (s0 : σ' (c + 1) 2 = nI (S + 1)) (s1 : ∀ j, j ≠ 2 → σ' (c + 1) j = σ (c + 1) j) (s2 : ∀ j, ¬ (3 * S ≤ j ∧ j < 3 * S + 3) → σ' (c + 4) j = σ (c + 4) j) (s2' : ∀ j, 3 * S ≤ j → j < 3 * S + 3 → σ' (c + 4) j = ρ' (82 + j)) (s3 : ∀ j, 2 ≤ j → j ≤ 7 → j ≠ 4 → σ' (c + j) = σ (c + j)) : im_NR σ' c ρ' := by
  obtain ⟨h1, h2, h3, h4, h5, h6, h7⟩ := h
  have b0 := hw.1.1.1
  have b1 := hw.1.2.1.1
  have b3 := hw.1.2.2.2.1.1
  have e2 : im_tn (ρ' 2) = S + 1 := by rw [h2', im_tn_nI (by omega)]
  have hl : ∀ k, k < 135 → ∀ i, i < 5 → k ≠ im_wa i S := fun k hk i _ => by have := im_wa_ge i S; omega
  have far : ∀ i s k, i < 5 → s < 6 → s ≠ S → k ≤ 10 → ∀ i', i' < 5 → im_wa i s + k ≠ im_wa i' S := fun i s k _ _ _ _ i' _ => by unfold im_wa; omega
  unfold im_NR
  rw [he 0 (by omega) (by omega) (by omega) (hl _ (by omega)), he 1 (by omega) (by omega) (by omega) (hl _ (by omega)), he 3 (by omega) (by omega) (by omega) (hl _ (by omega)), e2, s3 2 (by omega) (by omega) (by omega), s3 3 (by omega) (by omega) (by omega), s3 5 (by omega) (by omega) (by omega), s3 6 (by omega) (by omega) (by omega), s3 7 (by omega) (by omega) (by omega)]
  refine ⟨fun j a b => ?_, fun k a => ?_, fun k a => ?_, fun k a => ?_, fun k a => ?_, fun i s a b => ?_, fun i s a b d => h7 i s a (by omega) d⟩
  · by_cases q : j = 2
    · subst q; rw [s0, h2']
    · rw [s1 j q, he j (by omega) q (by omega) (hl _ (by omega))]; exact h1 j a b
  · rw [he _ (by omega) (by omega) (by omega) (hl _ (by omega))]; exact h2 k a
  · rw [he _ (by omega) (by omega) (by omega) (hl _ (by omega))]; exact h3 k a
  · by_cases q : 3 * S ≤ k
    · exact s2' k q (by omega)
    · rw [s2 k (by omega), he _ (by omega) (by omega) (by omega) (hl _ (by omega))]; exact h4 k (by omega)
  · rw [he _ (by omega) (by omega) (by omega) (hl _ (by omega))]; exact h5 k a
  · by_cases q : s = S
    · subst q
      rw [rz i (by omega)]
      exact ⟨h7 i s a (by omega) (by omega), fun k hk => absurd hk (by rw [show im_tn (0 : Int32) = 0 from rfl]; omega)⟩
    · have q2 := im_wa_ge i s
      have q3 := im_WF_wa hw a (show s < im_tn (ρ 2) by omega)
      have g1 := (hw.2.2.2.2.2 i s a (by omega)).1.1
      have f0 := far i s 0 (by omega) (by omega) q (by omega)
      rw [Nat.add_zero] at f0
      have f1 : ∀ k, k < 10 → ∀ i', i' < 5 → im_wa i s + 1 + k ≠ im_wa i' S := fun k hk => by
        have := far i s (1 + k) (by omega) (by omega) q (by omega)
        rw [← Nat.add_assoc] at this
        exact this
      rw [he _ (by omega) (by omega) (by omega) f0]
      refine ⟨(h6 i s a (by omega)).1, fun k hk => ?_⟩
      rw [he _ (by omega) (by omega) (by omega) (f1 k (by omega))]
      exact (h6 i s a (by omega)).2 k hk
theorem im_WF_int (hw : im_WF ρ) {I a : Nat} (hI : im_tn (ρ 3) = I) (h5' : I < 5) (h3' : ρ' 3 = nI (I + 1)) (ha : a < im_tn (ρ 0)) (r0 : ρ' (100 + 7 * I) = nI a) (rz : ∀ s, s < 6 → ρ' (im_wa I s) = 0) (he : ∀ k, k < 465 → k ≠ 3 → ¬ (100 + 7 * I ≤ k ∧ k < 100 + 7 * I + 7) → (∀ s, s < 6 → k ≠ im_wa I s) → ρ' k = ρ k) : im_WF ρ' := by
  obtain ⟨⟨a0, a1, a2, a3, a4, a5⟩, h2, h3, h4, h5, h6⟩ := id hw
  have b0 := a0.1
  have b1 := a1.1
  have b2 := a2.1
  have e3 : im_tn (ρ' 3) = I + 1 := by rw [h3', im_tn_nI (by omega)]
  have hl : ∀ k, k < 135 → ∀ s, s < 6 → k ≠ im_wa I s := fun k hk s _ => by have := im_wa_ge I s; omega
  have far : ∀ i s k, i < 5 → s < 6 → i ≠ I → k ≤ 10 → ∀ s', s' < 6 → im_wa i s + k ≠ im_wa I s' := fun i s k _ _ _ _ s' _ => by unfold im_wa; omega
  unfold im_WF
  rw [he 0 (by omega) (by omega) (by omega) (hl _ (by omega)), he 1 (by omega) (by omega) (by omega) (hl _ (by omega)), he 2 (by omega) (by omega) (by omega) (hl _ (by omega)), he 4 (by omega) (by omega) (by omega) (hl _ (by omega)), e3]
  refine ⟨⟨a0, a1, a2, ?_, a4, a5⟩, fun l hl' => ?_, fun l l' x y hl1 hl2 p q => ?_, fun s hs => ?_, fun i hi => ?_, fun i s hi hs => ?_⟩
  · rw [h3']; exact im_sm_nI (by omega) (by decide)
  · rw [he _ (by omega) (by omega) (by omega) (hl _ (by omega)), he _ (by omega) (by omega) (by omega) (hl _ (by omega)), he _ (by omega) (by omega) (by omega) (hl _ (by omega))]
    exact h2 l hl'
  · unfold im_lk at p q
    rw [he _ (by omega) (by omega) (by omega) (hl _ (by omega)), he _ (by omega) (by omega) (by omega) (hl _ (by omega))] at p q
    exact h3 l l' x y hl1 hl2 p q
  · rw [he _ (by omega) (by omega) (by omega) (hl _ (by omega))]; exact h4 s hs
  · by_cases q : i = I
    · subst q; rw [r0]; exact im_sm_nI ha (by omega)
    · rw [he _ (by omega) (by omega) (by omega) (hl _ (by omega))]; exact h5 i (by omega)
  · by_cases q : i = I
    · subst q
      rw [rz s (by omega)]
      exact ⟨im_sm_nI (k := 0) (by omega) (by decide), fun k hk => absurd hk (by rw [show im_tn (0 : Int32) = 0 from rfl]; omega), fun k k' hk => absurd hk (by rw [show im_tn (0 : Int32) = 0 from rfl]; omega)⟩
    · have q2 := im_wa_ge i s
      have q3 := im_WF_wa hw (show i < im_tn (ρ 3) by omega) hs
      obtain ⟨g1, g2, g3⟩ := h6 i s (by omega) hs
      have := g1.1
      have f0 := far i s 0 (by omega) (by omega) q (by omega)
      rw [Nat.add_zero] at f0
      have f1 : ∀ k, k < 10 → ∀ s', s' < 6 → im_wa i s + 1 + k ≠ im_wa I s' := fun k hk => by
        have := far i s (1 + k) (by omega) (by omega) q (by omega)
        rw [← Nat.add_assoc] at this
        exact this
      rw [he _ (by omega) (by omega) (by omega) f0]
      refine ⟨g1, fun k hk => by rw [he _ (by omega) (by omega) (by omega) (f1 k (by omega))]; exact g2 k hk, fun k k' hk hk' hh => ?_⟩
      rw [he _ (by omega) (by omega) (by omega) (f1 k (by omega)), he _ (by omega) (by omega) (by omega) (f1 k' (by omega))] at hh
      exact g3 k k' hk hk' hh
theorem im_NR_int (hw : im_WF ρ) (h : im_NR σ c ρ) {I : Nat} (hI : im_tn (ρ 3) = I) (h5' : I < 5) (h3' : ρ' 3 = nI (I + 1)) (rz : ∀ s, s < 6 → ρ' (im_wa I s) = 0) (he : ∀ k, k < 465 → k ≠ 3 → ¬ (100 + 7 * I ≤ k ∧ k < 100 + 7 * I + 7) → (∀ s, s < 6 → k ≠ im_wa I s) → ρ' k = ρ k) (s0 : σ' (c + 1) 3 = nI (I + 1)) (s1 : ∀ j, j ≠ 3 → σ' (c + 1) j = σ (c + 1) j) (s2 : ∀ j, ¬ (7 * I ≤ j ∧ j < 7 * I + 7) → σ' (c + 5) j = σ (c + 5) j) (s2' : ∀ j, 7 * I ≤ j → j < 7 * I + 7 → σ' (c + 5) j = ρ' (100 + j)) (s6 : ∀ j, ¬ (6 * I ≤ j ∧ j < 6 * I + 6) → σ' (c + 6) j = σ (c + 6) j) (s6' : ∀ s, s < 6 → σ' (c + 6) (6 * I + s) = 0) (s3 : ∀ j, 2 ≤ j → j ≤ 7 → j ≠ 5 → j ≠ 6 → σ' (c + j) = σ (c + j)) : im_NR σ' c ρ' := by
  obtain ⟨h1, h2, h3, h4, h5, h6, h7⟩ := h
  have b0 := hw.1.1.1
  have b1 := hw.1.2.1.1
  have b2 := hw.1.2.2.1.1
  have e3 : im_tn (ρ' 3) = I + 1 := by rw [h3', im_tn_nI (by omega)]
  have hl : ∀ k, k < 135 → ∀ s, s < 6 → k ≠ im_wa I s := fun k hk s _ => by have := im_wa_ge I s; omega
  have far : ∀ i s k, i < 5 → s < 6 → i ≠ I → k ≤ 10 → ∀ s', s' < 6 → im_wa i s + k ≠ im_wa I s' := fun i s k _ _ _ _ s' _ => by unfold im_wa; omega
  unfold im_NR
  rw [he 0 (by omega) (by omega) (by omega) (hl _ (by omega)), he 1 (by omega) (by omega) (by omega) (hl _ (by omega)), he 2 (by omega) (by omega) (by omega) (hl _ (by omega)), e3, s3 2 (by omega) (by omega) (by omega) (by omega), s3 3 (by omega) (by omega) (by omega) (by omega), s3 4 (by omega) (by omega) (by omega) (by omega), s3 7 (by omega) (by omega) (by omega) (by omega)]
  refine ⟨fun j a b => ?_, fun k a => ?_, fun k a => ?_, fun k a => ?_, fun k a => ?_, fun i s a b => ?_, fun i s a b d => ?_⟩
  · by_cases q : j = 3
    · subst q; rw [s0, h3']
    · rw [s1 j q, he j (by omega) q (by omega) (hl _ (by omega))]; exact h1 j a b
  · rw [he _ (by omega) (by omega) (by omega) (hl _ (by omega))]; exact h2 k a
  · rw [he _ (by omega) (by omega) (by omega) (hl _ (by omega))]; exact h3 k a
  · rw [he _ (by omega) (by omega) (by omega) (hl _ (by omega))]; exact h4 k a
  · by_cases q : 7 * I ≤ k
    · exact s2' k q (by omega)
    · rw [s2 k (by omega), he _ (by omega) (by omega) (by omega) (hl _ (by omega))]; exact h5 k (by omega)
  · by_cases q : i = I
    · subst q
      rw [rz s (by omega), s6' s (by omega)]
      exact ⟨rfl, fun k hk => absurd hk (by rw [show im_tn (0 : Int32) = 0 from rfl]; omega)⟩
    · have q2 := im_wa_ge i s
      have q3 := im_WF_wa hw (show i < im_tn (ρ 3) by omega) b
      have g1 := (hw.2.2.2.2.2 i s (by omega) b).1.1
      have f0 := far i s 0 (by omega) (by omega) q (by omega)
      rw [Nat.add_zero] at f0
      have f1 : ∀ k, k < 10 → ∀ s', s' < 6 → im_wa i s + 1 + k ≠ im_wa I s' := fun k hk => by
        have := far i s (1 + k) (by omega) (by omega) q (by omega)
        rw [← Nat.add_assoc] at this
        exact this
      rw [he _ (by omega) (by omega) (by omega) f0, s6 _ (by omega)]
      refine ⟨(h6 i s (by omega) b).1, fun k hk => ?_⟩
      rw [he _ (by omega) (by omega) (by omega) (f1 k (by omega))]
      exact (h6 i s (by omega) b).2 k hk
  · by_cases q : i = I
    · subst q; exact s6' s d
    · rw [s6 _ (by omega)]; exact h7 i s (by omega) b d
end
