/-! a net without one link; a net without one interest -/
section
variable {σ σ' : iw_M} {c : Nat} {ρ ρ' : Nat → Int32}
theorem im_WF_cut (hw : im_WF ρ) {L l0 : Nat} (hL : im_tn (ρ 1) = L) (hl0 : l0 < L) (h1 : ρ' 1 = nI (L - 1)) (ha : ∀ k, 22 + 3 * l0 ≤ k → k < 22 + 3 * (L - 1) → ρ' k = ρ (k + 3)) (he : ∀ k, k ≠ 1 → ¬ (22 + 3 * l0 ≤ k ∧ k < 22 + 3 * (L - 1)) → ρ' k = ρ k) : im_WF ρ' := by
  obtain ⟨⟨a0, a1, a2, a3, a4, a5⟩, h2, h3, h4, h5, h6⟩ := id hw
  have b1 := a1.1
  have e1 : im_tn (ρ' 1) = L - 1 := by rw [h1, im_tn_nI (by omega)]
  have g : ∀ l, l < L - 1 → ∃ l', l' < L ∧ (l < l0 → l' = l) ∧ (l0 ≤ l → l' = l + 1) ∧ ∀ w, w < 3 → ρ' (22 + 3 * l + w) = ρ (22 + 3 * l' + w) := fun l hl => by
    by_cases q : l < l0
    · exact ⟨l, by omega, fun _ => rfl, fun z => by omega, fun w hw => he _ (by omega) (by omega)⟩
    · exact ⟨l + 1, by omega, fun z => by omega, fun _ => rfl, fun w hw => by rw [ha _ (by omega) (by omega)]; congr 1; omega⟩
  unfold im_WF
  rw [he 0 (by omega) (by omega), he 2 (by omega) (by omega), he 3 (by omega) (by omega), he 4 (by omega) (by omega), e1]
  refine ⟨⟨a0, ?_, a2, a3, a4, a5⟩, fun l hl => ?_, fun l m x y hl hm p q => ?_, fun s hs => ?_, fun i hi => ?_, fun i s hi hs => ?_⟩
  · rw [h1]; exact im_sm_nI (by omega) (by decide)
  · obtain ⟨l', q1, -, -, q3⟩ := g l hl
    have w0 := q3 0 (by omega)
    rw [Nat.add_zero, Nat.add_zero] at w0
    rw [w0, q3 1 (by omega), q3 2 (by omega)]
    exact h2 l' (by omega)
  · obtain ⟨l', q1, u1, u2, q3⟩ := g l hl
    obtain ⟨m', r1, v1, v2, r3⟩ := g m hm
    have w0 := q3 0 (by omega)
    have w1 := r3 0 (by omega)
    rw [Nat.add_zero, Nat.add_zero] at w0 w1
    unfold im_lk at p q
    rw [w0, q3 1 (by omega)] at p
    rw [w1, r3 1 (by omega)] at q
    have := h3 l' m' x y (by omega) (by omega) p q
    omega
  · rw [he _ (by omega) (by omega)]; exact h4 s hs
  · rw [he _ (by omega) (by omega)]; exact h5 i hi
  · have q2 := im_wa_ge i s
    obtain ⟨g1, g2, g3⟩ := h6 i s hi hs
    rw [he _ (by omega) (by omega)]
    refine ⟨g1, fun k hk => by rw [he _ (by omega) (by omega)]; exact g2 k hk, fun k k' hk hk' hh => ?_⟩
    rw [he _ (by omega) (by omega), he _ (by omega) (by omega)] at hh
    exact g3 k k' hk hk' hh
theorem im_NR_cut (hw : im_WF ρ) (h : im_NR σ c ρ) {L l0 : Nat} (hL : im_tn (ρ 1) = L) (hl0 : l0 < L) (h1 : ρ' 1 = nI (L - 1)) (ha : ∀ k, 22 + 3 * l0 ≤ k → k < 22 + 3 * (L - 1) → ρ' k = ρ (k + 3)) (he : ∀ k, k ≠ 1 → ¬ (22 + 3 * l0 ≤ k ∧ k < 22 + 3 * (L - 1)) → ρ' k = ρ k) (s0 : σ' (c + 1) 1 = nI (L - 1)) (s1 : ∀ j, j ≠ 1 → σ' (c + 1) j = σ (c + 1) j) (s2 : ∀ j, j < 3 * l0 → σ' (c + 3) j = σ (c + 3) j) (s2' : ∀ j, 3 * l0 ≤ j → j < 3 * (L - 1) → σ' (c + 3) j = σ (c + 3) (j + 3)) (s3 : ∀ j, 2 ≤ j → j ≤ 7 → j ≠ 3 → σ' (c + j) = σ (c + j)) : im_NR σ' c ρ' := by
  obtain ⟨h1', h2, h3, h4, h5, h6, h7⟩ := h
  have b1 := hw.1.2.1.1
  have b0 := hw.1.1.1
  have e1 : im_tn (ρ' 1) = L - 1 := by rw [h1, im_tn_nI (by omega)]
  unfold im_NR
  rw [he 0 (by omega) (by omega), he 2 (by omega) (by omega), he 3 (by omega) (by omega), e1, s3 2 (by omega) (by omega) (by omega), s3 4 (by omega) (by omega) (by omega), s3 5 (by omega) (by omega) (by omega), s3 6 (by omega) (by omega) (by omega), s3 7 (by omega) (by omega) (by omega)]
  refine ⟨fun j a b => ?_, fun k a => ?_, fun k a => ?_, fun k a => ?_, fun k a => ?_, fun i s a b => ?_, h7⟩
  · by_cases q : j = 1
    · subst q; rw [s0, h1]
    · rw [s1 j q, he j q (by omega)]; exact h1' j a b
  · rw [he _ (by omega) (by omega)]; exact h2 k a
  · by_cases q : 3 * l0 ≤ k
    · rw [s2' k q a, ha _ (by omega) (by omega), h3 (k + 3) (by omega), Nat.add_assoc]
    · rw [s2 k (by omega), he _ (by omega) (by omega)]; exact h3 k (by omega)
  · rw [he _ (by omega) (by omega)]; exact h4 k a
  · rw [he _ (by omega) (by omega)]; exact h5 k a
  · have q2 := im_wa_ge i s
    rw [he _ (by omega) (by omega)]
    refine ⟨(h6 i s a b).1, fun k hk => ?_⟩
    rw [he _ (by omega) (by omega)]
    exact (h6 i s a b).2 k hk
/-- how the row of the reference stands after interest i0 is gone -/
def im_dropped (ρ ρ' : Nat → Int32) (I i0 : Nat) : Prop :=
  ρ' 3 = nI (I - 1) ∧ (∀ k, 100 + 7 * i0 ≤ k → k < 100 + 7 * (I - 1) → ρ' k = ρ (k + 7)) ∧ (∀ k, 135 + 66 * i0 ≤ k → k < 135 + 66 * (I - 1) → ρ' k = ρ (k + 66)) ∧ ∀ k, k ≠ 3 → ¬ (100 + 7 * i0 ≤ k ∧ k < 100 + 7 * (I - 1)) → ¬ (135 + 66 * i0 ≤ k ∧ k < 135 + 66 * (I - 1)) → ρ' k = ρ k
theorem im_drop_map {I i0 : Nat} (hd : im_dropped ρ ρ' I i0) (hI : I ≤ 5) {i : Nat} (hi : i < I - 1) : ∃ i', i' < I ∧ (i < i0 → i' = i) ∧ (i0 ≤ i → i' = i + 1) ∧ (∀ w, w < 7 → ρ' (100 + 7 * i + w) = ρ (100 + 7 * i' + w)) ∧ ∀ s w, s < 6 → w < 11 → ρ' (im_wa i s + w) = ρ (im_wa i' s + w) := by
  obtain ⟨-, d1, d2, d3⟩ := hd
  by_cases q : i < i0
  · exact ⟨i, by omega, fun _ => rfl, fun z => by omega, fun w hw => d3 _ (by omega) (by omega) (by omega), fun s w hs hw => by unfold im_wa; exact d3 _ (by omega) (by omega) (by omega)⟩
  · refine ⟨i + 1, by omega, fun z => by omega, fun _ => rfl, fun w hw => ?_, fun s w hs hw => ?_⟩
    · rw [d1 _ (by omega) (by omega)]; congr 1; omega
    · unfold im_wa
      rw [d2 _ (by omega) (by omega)]; congr 1; omega
theorem im_WF_drop (hw : im_WF ρ) {I i0 : Nat} (hI : im_tn (ρ 3) = I) (hi0 : i0 < I) (hd : im_dropped ρ ρ' I i0) : im_WF ρ' := by
  obtain ⟨⟨a0, a1, a2, a3, a4, a5⟩, h2, h3, h4, h5, h6⟩ := id hw
  have b0 := a0.1
  have b1 := a1.1
  have b2 := a2.1
  have b3 := a3.1
  have hm := fun i (hi : i < I - 1) => im_drop_map hd (by omega) hi
  obtain ⟨d0, d1, d2, d3⟩ := hd
  have e1 : im_tn (ρ' 3) = I - 1 := by rw [d0, im_tn_nI (by omega)]
  unfold im_WF
  rw [d3 0 (by omega) (by omega) (by omega), d3 1 (by omega) (by omega) (by omega), d3 2 (by omega) (by omega) (by omega), d3 4 (by omega) (by omega) (by omega), e1]
  refine ⟨⟨a0, a1, a2, ?_, a4, a5⟩, fun l hl => ?_, fun l m x y hl hm p q => ?_, fun s hs => ?_, fun i hi => ?_, fun i s hi hs => ?_⟩
  · rw [d0]; exact im_sm_nI (by omega) (by decide)
  · rw [d3 _ (by omega) (by omega) (by omega), d3 _ (by omega) (by omega) (by omega), d3 _ (by omega) (by omega) (by omega)]; exact h2 l hl
  · unfold im_lk at p q
    rw [d3 _ (by omega) (by omega) (by omega), d3 _ (by omega) (by omega) (by omega)] at p q
    exact h3 l m x y hl hm p q
  · rw [d3 _ (by omega) (by omega) (by omega)]; exact h4 s hs
  · obtain ⟨i', q1, -, -, q2, -⟩ := hm i hi
    have w0 := q2 0 (by omega)
    rw [Nat.add_zero, Nat.add_zero] at w0
    rw [w0]; exact h5 i' (by omega)
  · obtain ⟨i', q1, -, -, -, q2⟩ := hm i hi
    have w0 := q2 s 0 (by omega) (by omega)
    rw [Nat.add_zero, Nat.add_zero] at w0
    obtain ⟨g1, g2, g3⟩ := h6 i' s (by omega) hs
    have gg := g1.1
    have qq : ∀ k, k < 10 → ρ' (im_wa i s + 1 + k) = ρ (im_wa i' s + 1 + k) := fun k hk => by
      have z := q2 s (1 + k) (by omega) (by omega)
      rw [← Nat.add_assoc, ← Nat.add_assoc] at z
      exact z
    rw [w0]
    refine ⟨g1, fun k hk => by rw [qq k (by omega)]; exact g2 k hk, fun k k' hk hk' hh => ?_⟩
    rw [qq k (by omega), qq k' (by omega)] at hh
    exact g3 k k' hk hk' hh
theorem im_NR_drop (hw : im_WF ρ) (h : im_NR σ c ρ) {I i0 : Nat} (hI : im_tn (ρ 3) = I) (hi0 : i0 < I) (hd : im_dropped ρ ρ' I i0) (s0 : σ' (c + 1) 3 = nI (I - 1)) (s1 : ∀ j, j ≠ 3 → σ' (c + 1) j = σ (c + 1) j) (s5 : ∀ j, j < 7 * (I - 1) → σ' (c + 5) j = if j < 7 * i0 then σ (c + 5) j else σ (c + 5) (j + 7)) (s6 : ∀ j, j < 6 * (I - 1) → σ' (c + 6) j = if j < 6 * i0 then σ (c + 6) j else σ (c + 6) (j + 6)) (s7 : ∀ j, j < 60 * (I - 1) → σ' (c + 7) j = if j < 60 * i0 then σ (c + 7) j else σ (c + 7) (j + 60)) (s3 : ∀ j, 2 ≤ j → j ≤ 4 → σ' (c + j) = σ (c + j)) : im_NR σ' c ρ' := by
  obtain ⟨h1', h2, h3, h4, h5, h6, h7⟩ := h
  have b0 := hw.1.1.1
  have b1 := hw.1.2.1.1
  have b2 := hw.1.2.2.1.1
  have b3 := hw.1.2.2.2.1.1
  have hm := fun i (hi : i < I - 1) => im_drop_map hd (by omega) hi
  obtain ⟨d0, d1, d2, d3⟩ := hd
  have e1 : im_tn (ρ' 3) = I - 1 := by rw [d0, im_tn_nI (by omega)]
  unfold im_NR
  rw [d3 0 (by omega) (by omega) (by omega), d3 1 (by omega) (by omega) (by omega), d3 2 (by omega) (by omega) (by omega), e1, s3 2 (by omega) (by omega), s3 3 (by omega) (by omega), s3 4 (by omega) (by omega)]
  refine ⟨fun j a b => ?_, fun k a => ?_, fun k a => ?_, fun k a => ?_, fun k a => ?_, fun i s a b => ?_, fun i s a b d => ?_⟩
  · by_cases q : j = 3
    · subst q; rw [s0, d0]
    · rw [s1 j q, d3 j q (by omega) (by omega)]; exact h1' j a b
  · rw [d3 _ (by omega) (by omega) (by omega)]; exact h2 k a
  · rw [d3 _ (by omega) (by omega) (by omega)]; exact h3 k a
  · rw [d3 _ (by omega) (by omega) (by omega)]; exact h4 k a
  · rw [s5 k a]
    by_cases q : k < 7 * i0
    · rw [if_pos q, d3 _ (by omega) (by omega) (by omega)]; exact h5 k (by omega)
    · rw [if_neg q, d1 _ (by omega) (by omega), h5 (k + 7) (by omega), Nat.add_assoc]
  · obtain ⟨i', q1, u1, u2, -, q2⟩ := hm i a
    have w0 := q2 s 0 (by omega) (by omega)
    rw [Nat.add_zero, Nat.add_zero] at w0
    obtain ⟨g1, g2⟩ := h6 i' s (by omega) b
    have g3 := (hw.2.2.2.2.2 i' s (by omega) b).1.1
    have qq : ∀ k, k < 10 → ρ' (im_wa i s + 1 + k) = ρ (im_wa i' s + 1 + k) := fun k hk => by
      have z := q2 s (1 + k) (by omega) (by omega)
      rw [← Nat.add_assoc, ← Nat.add_assoc] at z
      exact z
    rw [w0, s6 _ (by omega)]
    refine ⟨?_, fun k hk => ?_⟩
    · by_cases q : i < i0
      · rw [if_pos (by omega), ← u1 q]; exact g1
      · rw [if_neg (by omega), ← g1, u2 (by omega)]; congr 1; omega
    · rw [s7 _ (by omega), qq k (by omega)]
      by_cases q : i < i0
      · rw [if_pos (by omega), ← u1 q]; exact g2 k hk
      · rw [if_neg (by omega), ← g2 k hk, u2 (by omega)]; congr 1; omega
  · rw [s6 _ (by omega)]
    by_cases q : i < i0
    · rw [if_pos (by omega)]; exact h7 i s (by omega) b d
    · rw [if_neg (by omega), ← h7 (i + 1) s (by omega) b d]; congr 1; omega
/-- both sides take an interest out -/
theorem im_drops {n : Nat} (hn : 4096 ≤ n) {σm : iw_M} (hc : iw_net c) (hw : im_WF (σm 85)) (h : im_NR σ c (σm 85)) {i I : Nat} (hI : im_tn (σm 85 3) = I) (hi : i < I) : ∃ σ' σm', f_X1_removeInterest n c (nI i) σ = some σ' ∧ f_X6_removes n (nI i) σm = some σm' ∧ im_WF (σm' 85) ∧ im_NR σ' c (σm' 85) ∧ im_dropped (σm 85) (σm' 85) I i ∧ (∀ r, r ≠ c + 1 → r ≠ c + 5 → r ≠ c + 6 → r ≠ c + 7 → σ' r = σ r) ∧ (∀ r, r ≠ 85 → σm' r = σm r) ∧ ∀ k, 465 ≤ k → σm' 85 k = σm 85 k := by
  have b3 := hw.1.2.2.2.1.1
  have m3 : σm 85 3 = nI I := by rw [← hI]; exact hw.1.2.2.2.1.2
  have x3 : σ (c + 1) 3 = nI I := (h.1 3 (by decide) (by decide)).trans m3
  have hd : im_dropped (σm 85) (im_sh (im_sh (iw_up σm 85 3 (nI (I - 1))) 85 (100 + 7 * i) (100 + 7 * (I - 1)) 7) 85 (135 + 66 * i) (135 + 66 * (I - 1)) 66 85) I i := by
    refine ⟨?_, fun k k1 k2 => ?_, fun k k1 k2 => ?_, fun k k1 k2 k3 => ?_⟩
    · rw [im_sh_e, if_neg (by omega), im_sh_e, if_neg (by omega), im_ups]
    · rw [im_sh_e, if_neg (by omega), im_sh_e, if_pos (by omega), im_upn (by omega)]
    · rw [im_sh_e, if_pos (by omega), im_sh_e, if_neg (by omega), im_upn (by omega)]
    · rw [im_sh_e, if_neg (by omega), im_sh_e, if_neg (by omega), im_upn (by omega)]
  refine ⟨_, _, im_removeInterest hn hc hi (by omega) x3, im_removes hn hi (by omega) m3, im_WF_drop hw hI hi hd, im_NR_drop hw h hI hi hd (by rw [im_ups]) (fun j hj => ?_) (fun j hj => ?_) (fun j hj => ?_) (fun j hj => ?_) (fun j j1 j2 => ?_), hd, fun r r1 r2 r3 r4 => ?_, fun r hr => ?_, fun k hk => ?_⟩
  · rw [im_upn hj, im_sh_o (by omega), im_sh_o (by omega), im_sh_o (by omega)]
  · rw [im_upo (by omega), im_sh_o (by omega), im_sh_o (by omega), im_sh_e]
    by_cases q : j < 7 * i
    · rw [if_neg (by omega), if_pos q]
    · rw [if_pos (by omega), if_neg q]
  · rw [im_upo (by omega), im_sh_o (by omega), im_sh_e, im_sh_o (by omega)]
    by_cases q : j < 6 * i
    · rw [if_neg (by omega), if_pos q]
    · rw [if_pos (by omega), if_neg q]
  · rw [im_upo (by omega), im_sh_e, im_sh_o (by omega), im_sh_o (by omega)]
    by_cases q : j < 60 * i
    · rw [if_neg (by omega), if_pos q]
    · rw [if_pos (by omega), if_neg q]
  · rw [iw_up_ne (by omega), im_sh_o (by omega), im_sh_o (by omega), im_sh_o (by omega)]
  · rw [iw_up_ne r1, im_sh_o r4, im_sh_o r3, im_sh_o r2]
  · rw [im_sh_o hr, im_sh_o hr, iw_up_ne hr]
  · rw [im_sh_e, if_neg (by omega), im_sh_e, if_neg (by omega), im_upn (by omega)]
end
theorem sim_cut_ok (n : Nat) (hn : 4096 ≤ n) : sim_cut n im_RR := by
  intro p1 σx σm h
  obtain ⟨hN, hW⟩ := im_0 h
  obtain ⟨-, ⟨L, L1, L2, L3, L4⟩, -⟩ := im_cnt hN hW
  unfold f_X5_cut f_X6_cut
  rw [show f_X1_has 20 (1 : Int32) p1 σx = f_X1_has 20 (nI 1) p1 σx from rfl, im_has iw_net_20 (by decide) (by omega) p1 L4, im_isLink p1 (by omega) L3, im_bind, im_b01, im_b01]
  by_cases c : ∃ k, k < L ∧ p1 = nI k
  · rw [if_pos c, if_pos c]
    obtain ⟨l, hl, rfl⟩ := c
    obtain ⟨σm', s1, h', hr, -⟩ := im_rec hn h
    obtain ⟨hN', hW'⟩ := im_0 h'
    have m0 : σm' 85 1 = nI L := by rw [hr 1 (by omega)]; exact L3
    have x0 : f_X0_record 20 σx (20 + 1) 1 = nI L := by rw [hN'.1 1 (by decide) (by decide)]; exact m0
    generalize f_X0_record 20 σx = σx' at h' hN' x0 ⊢
    have t0 : im_tn (σm' 85 1) = L := by rw [m0, im_tn_nI (by omega)]
    have r1 : ∀ σ : iw_M, iw_rd σ 85 1 = some (σ 85 1) := fun σ => im_m_rd (k := 1) (by decide)
    have u1 : ∀ (σ : iw_M) (v : Int32), iw_wr σ 85 1 v = some (iw_up σ 85 1 v) := fun σ v => im_wr (a := 85) (k := 1) (by rw [im_al85]; decide)
    have eb : nI L - 1 = nI (L - 1) := by rw [show (1 : Int32) = nI 1 from rfl, pk_sub (by omega)]
    rw [s1, im_bind, r1, im_bind, m0, eb, u1, im_bind, im_let, im_let, im_lit 3, pk_mul, im_cut_L (show L - 1 ≤ 20 by omega) _ (3 * (L - 1) - 3 * l) _ n _ (by omega) (by omega) (by rw [im_ups]), im_removeLink hn iw_net_20 hl L1 x0, im_b2]
    unfold f_X6_cut_X68_30
    rw [r1, im_bind, im_sh_e, if_neg (by omega), im_ups]
    have ha : ∀ k, 22 + 3 * l ≤ k → k < 22 + 3 * (L - 1) → im_sh (iw_up σm' 85 1 (nI (L - 1))) 85 (22 + 3 * l) (22 + 3 * (L - 1)) 3 85 k = σm' 85 (k + 3) := fun k k1 k2 => by
      rw [im_sh_e, if_pos ⟨k1, k2⟩, im_upn (by omega)]
    have he : ∀ k, k ≠ 1 → ¬ (22 + 3 * l ≤ k ∧ k < 22 + 3 * (L - 1)) → im_sh (iw_up σm' 85 1 (nI (L - 1))) 85 (22 + 3 * l) (22 + 3 * (L - 1)) 3 85 k = σm' 85 k := fun k k1 k2 => by
      rw [im_sh_e, if_neg k2, im_upn k1]
    have h1 : im_sh (iw_up σm' 85 1 (nI (L - 1))) 85 (22 + 3 * l) (22 + 3 * (L - 1)) 3 85 1 = nI (L - 1) := by rw [im_sh_e, if_neg (by omega), im_ups]
    refine ⟨_, _, _, rfl, rfl, im_upd h' (fun b hb => by rw [iw_up_ne (by omega), im_sh_o (by omega)]) (by rw [im_sh_o (by decide), iw_up_ne (by decide)]) (by rw [im_sh_o (by decide), iw_up_ne (by decide)]) (by rw [im_sh_o (by decide), iw_up_ne (by decide)]) (fun k k1 _ => he k (by omega) (by omega)) ?_ ?_⟩
    · rw [im_sl0]
      refine im_NR_cut hW' hN' t0 hl h1 ha he (by rw [im_ups]) (fun j hj => by rw [im_upn hj, im_sh_o (by decide)]) (fun j hj => ?_) (fun j j1 j2 => ?_) (fun j j1 j2 j3 => by rw [iw_up_ne (by omega), im_sh_o (by omega)])
      · rw [im_upo (by decide), im_sh_e, if_neg (by omega)]
      · rw [im_upo (by decide), im_sh_e, if_pos (by omega)]
    · rw [im_sl0]
      exact im_WF_cut hW' t0 hl h1 ha he
  · rw [if_neg c, if_neg c]
    exact ⟨_, _, _, rfl, rfl, h⟩
theorem sim_withdraw_ok (n : Nat) (hn : 4096 ≤ n) : sim_withdraw n im_RR := by
  intro p1 σx σm h
  obtain ⟨hN, hW⟩ := im_0 h
  obtain ⟨-, -, -, ⟨I, I1, I2, I3, I4⟩⟩ := im_cnt hN hW
  unfold f_X5_withdraw f_X6_withdraw
  rw [show f_X1_has 20 (3 : Int32) p1 σx = f_X1_has 20 (nI 3) p1 σx from rfl, im_has iw_net_20 (by decide) (by omega) p1 I4, im_isInterest p1 (by omega) I3, im_bind, im_b01, im_b01]
  by_cases c : ∃ k, k < I ∧ p1 = nI k
  · rw [if_pos c, if_pos c]
    obtain ⟨i, hi, rfl⟩ := c
    obtain ⟨σm', s1, h', hr, -⟩ := im_rec hn h
    obtain ⟨hN', hW'⟩ := im_0 h'
    have t0 : im_tn (σm' 85 3) = I := by rw [hr 3 (by omega)]; exact I2
    generalize f_X0_record 20 σx = σx' at h' hN' ⊢
    obtain ⟨τ, τm, y1, y2, y3, y4, y5, y6, y7, y8⟩ := im_drops hn iw_net_20 hW' hN' t0 hi
    rw [s1, im_bind, y2, im_bind, im_let, y1, im_bind, show f_X1_number n 20 (3 : Int32) τ = f_X1_number n 20 (nI 3) τ from rfl, im_num n iw_net_20 (by decide) (by decide), im_bind, show iw_rd τm 85 (3 : Int32) = iw_rd τm 85 (nI 3) from rfl, im_m_rd (by decide), im_bind, y4.1 3 (by decide) (by decide)]
    exact ⟨_, _, _, rfl, rfl, im_upd h' (fun b hb => y6 b (by omega) (by omega) (by omega) (by omega)) (by rw [y7 84 (by decide)]) (by rw [y7 84 (by decide)]) (y7 92 (by decide)) (fun k k1 _ => y8 k k1) (by rw [im_sl0]; exact y4) (by rw [im_sl0]; exact y3)⟩
  · rw [if_neg c, if_neg c]
    exact ⟨_, _, _, rfl, rfl, h⟩
