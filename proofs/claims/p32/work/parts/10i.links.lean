/-! is there a link between two nodes; which one -/
theorem im_isPair {x y a b : Nat} (hx : x < 2 ^ 31) (hy : y < 2 ^ 31) (ha : a < 2 ^ 31) (hb : b < 2 ^ 31) : f_X1_isPair (nI x) (nI y) (nI a) (nI b) = if (x = a ∧ y = b) ∨ (x = b ∧ y = a) then 1 else 0 := by
  unfold f_X1_isPair f_X1_isPair_J10
  simp only [im_eq hx ha, im_eq hy hb, im_eq hx hb, im_eq hy ha]
  by_cases h1 : x = a <;> by_cases h2 : y = b <;> by_cases h3 : x = b <;> by_cases h4 : y = a <;> simp [h1, h2, h3, h4]
theorem im_lk_sym {ρ : Nat → Int32} {l a b : Nat} (h : im_lk ρ l a b) : im_lk ρ l b a := by
  unfold im_lk at h ⊢
  omega
section
variable {σ : iw_M} {c : Nat} {ρ : Nat → Int32}
/-- the class: two ends of a link -/
theorem im_ends (hc : iw_net c) (hw : im_WF ρ) (h : im_NR σ c ρ) {l : Nat} (hl : l < im_tn (ρ 1)) : f_X1_partOfLink c (nI l) (0 : Int32) σ = nI (im_tn (ρ (22 + 3 * l))) ∧ f_X1_partOfLink c (nI l) (1 : Int32) σ = nI (im_tn (ρ (22 + 3 * l + 1))) ∧ f_X1_partOfLink c (nI l) (2 : Int32) σ = nI (im_tn (ρ (22 + 3 * l + 2))) := by
  have b1 := hw.1.2.1.1
  obtain ⟨g1, g2, g3, -, -⟩ := hw.2.1 l hl
  refine ⟨?_, ?_, ?_⟩
  · rw [show (0 : Int32) = nI 0 from rfl, im_partOfLink hc (by omega), h.2.2.1 _ (by omega)]; exact g1.2
  · rw [show (1 : Int32) = nI 1 from rfl, im_partOfLink hc (by omega), h.2.2.1 _ (by omega)]; exact g2.2
  · rw [show (2 : Int32) = nI 2 from rfl, im_partOfLink hc (by omega), h.2.2.1 _ (by omega)]; exact g3.2
theorem im_pair_lk (hc : iw_net c) (hw : im_WF ρ) (h : im_NR σ c ρ) {l a b : Nat} (hl : l < im_tn (ρ 1)) (ha : a < 2 ^ 31) (hb : b < 2 ^ 31) : (im_lk ρ l a b → f_X1_isPair (f_X1_partOfLink c (nI l) (0 : Int32) σ) (f_X1_partOfLink c (nI l) (1 : Int32) σ) (nI a) (nI b) = 1) ∧ (¬ im_lk ρ l a b → f_X1_isPair (f_X1_partOfLink c (nI l) (0 : Int32) σ) (f_X1_partOfLink c (nI l) (1 : Int32) σ) (nI a) (nI b) = 0) := by
  obtain ⟨e0, e1, -⟩ := im_ends hc hw h hl
  obtain ⟨g1, g2, -⟩ := hw.2.1 l hl
  have b0 := hw.1.1.1
  have c1 := g1.1
  have c2 := g2.1
  rw [e0, e1, im_isPair (by omega) (by omega) ha hb]
  unfold im_lk
  exact ⟨fun q => if_pos q, fun q => if_neg q⟩
theorem im_areLinked_L (hc : iw_net c) (hw : im_WF ρ) (h : im_NR σ c ρ) {a b : Nat} (ha : a < 2 ^ 31) (hb : b < 2 ^ 31) (k : Option Int32) : ∀ (d i nn : Nat), i + d = im_tn (ρ 1) → d < nn → ((∀ l, i ≤ l → l < im_tn (ρ 1) → ¬ im_lk ρ l a b) → f_X1_areLinked_L2 c (nI a) (nI b) σ k nn (nI i) = k) ∧ ((∃ l, i ≤ l ∧ l < im_tn (ρ 1) ∧ im_lk ρ l a b) → f_X1_areLinked_L2 c (nI a) (nI b) σ k nn (nI i) = some 1) := by
  have b1 := hw.1.2.1.1
  have hL : f_X5_at (c + 1) (1 : Int32) σ = nI (im_tn (ρ 1)) := by
    rw [show (1 : Int32) = nI 1 from rfl, im_at (by rw [(im_al_n c hc).1]; decide), h.1 1 (by decide) (by decide)]
    exact hw.1.2.1.2
  intro d
  induction d with
  | zero =>
    intro i nn h1 h2
    obtain ⟨nn, rfl⟩ : ∃ q, nn = q + 1 := ⟨nn - 1, by omega⟩
    rw [s_X1_areLinked_2]
    unfold f_X1_areLinked_B2
    rw [hL, if_pos (by rw [im_le (by omega) (by omega)]; omega)]
    exact ⟨fun _ => rfl, fun ⟨l, q1, q2, _⟩ => by omega⟩
  | succ d ih =>
    intro i nn h1 h2
    obtain ⟨nn, rfl⟩ : ∃ q, nn = q + 1 := ⟨nn - 1, by omega⟩
    obtain ⟨p1, p2⟩ := im_pair_lk (a := a) (b := b) hc hw h (show i < im_tn (ρ 1) by omega) ha hb
    obtain ⟨i1, i2⟩ := ih (i + 1) nn (by omega) (by omega)
    rw [s_X1_areLinked_2]
    unfold f_X1_areLinked_B2
    rw [hL, if_neg (by rw [im_le (by omega) (by omega)]; omega)]
    by_cases q : im_lk ρ i a b
    · rw [p1 q, if_neg (by decide)]
      exact ⟨fun z => absurd q (z i (Nat.le_refl _) (by omega)), fun _ => rfl⟩
    · rw [p2 q, if_pos rfl, im_let, nI_1]
      refine ⟨fun z => i1 (fun l l1 l2 => z l (by omega) l2), fun ⟨l, l1, l2, l3⟩ => i2 ⟨l, ?_, l2, l3⟩⟩
      by_cases e : l = i
      · subst e; exact absurd l3 q
      · omega
theorem im_areLinked {n : Nat} (hn : 4096 ≤ n) (hc : iw_net c) (hw : im_WF ρ) (h : im_NR σ c ρ) {a b : Nat} (ha : a < 2 ^ 31) (hb : b < 2 ^ 31) : ((∀ l, l < im_tn (ρ 1) → ¬ im_lk ρ l a b) → f_X1_areLinked n c (nI a) (nI b) σ = some 0) ∧ ((∃ l, l < im_tn (ρ 1) ∧ im_lk ρ l a b) → f_X1_areLinked n c (nI a) (nI b) σ = some 1) := by
  have b1 := hw.1.2.1.1
  obtain ⟨g1, g2⟩ := im_areLinked_L hc hw h ha hb f_X1_areLinked_X42_2 (im_tn (ρ 1)) 0 n (by omega) (by omega)
  unfold f_X1_areLinked
  exact ⟨fun q => g1 (fun l _ l2 => q l l2), fun ⟨l, l2, l3⟩ => g2 ⟨l, Nat.zero_le _, l2, l3⟩⟩
end
section
variable {σ : iw_M}
/-- the reference's look at one link -/
theorem im_linkOf_B (hw : im_WF (σ 85)) {a b : Nat} (ha : a < 2 ^ 31) (hb : b < 2 ^ 31) (k : Int32 → Option Int32) (r : Int32 → Int32 → Option Int32) (v : Int32) {l : Nat} (hl : l < im_tn (σ 85 1)) : (im_lk (σ 85) l a b → f_X6_linkOf_B7 (nI a) (nI b) σ k r v (nI l) = r (nI l) (nI (l + 1))) ∧ (¬ im_lk (σ 85) l a b → f_X6_linkOf_B7 (nI a) (nI b) σ k r v (nI l) = r v (nI (l + 1))) := by
  have b1 := hw.1.2.1.1
  have b0 := hw.1.1.1
  obtain ⟨g1, g2, -⟩ := hw.2.1 l hl
  have c1 := g1.1
  have c2 := g2.1
  unfold f_X6_linkOf_B7 f_X6_linkOf_J48 f_X6_linkOf_J60 f_X6_linkOf_J65 f_X6_linkOf_J66
  have e1 : iw_rd σ 85 (1 : Int32) = some (nI (im_tn (σ 85 1))) := by
    rw [show (1 : Int32) = nI 1 from rfl, im_m_rd (by decide)]
    exact congrArg some hw.1.2.1.2
  have e2 : f_X6_ofLink (nI l) (0 : Int32) σ = some (nI (im_tn (σ 85 (22 + 3 * l)))) := by
    rw [show (0 : Int32) = nI 0 from rfl, im_ofLink (by omega)]
    exact congrArg some g1.2
  have e3 : f_X6_ofLink (nI l) (1 : Int32) σ = some (nI (im_tn (σ 85 (22 + 3 * l + 1)))) := by
    rw [show (1 : Int32) = nI 1 from rfl, im_ofLink (by omega)]
    exact congrArg some g2.2
  rw [e1, im_bind, if_neg (by rw [im_le (by omega) (by omega)]; omega), e2, im_bind, e3, im_bind]
  unfold im_lk
  simp only [im_let, nI_1, im_eq (show im_tn (σ 85 (22 + 3 * l)) < 2 ^ 31 by omega) ha, im_eq (show im_tn (σ 85 (22 + 3 * l + 1)) < 2 ^ 31 by omega) hb, im_eq (show im_tn (σ 85 (22 + 3 * l)) < 2 ^ 31 by omega) hb, im_eq (show im_tn (σ 85 (22 + 3 * l + 1)) < 2 ^ 31 by omega) ha]
  refine ⟨fun q => ?_, fun q => ?_⟩
  · repeat' split
    all_goals first | rfl | (exfalso; omega)
  · repeat' split
    all_goals first | rfl | (exfalso; omega)
theorem im_linkOf_L (hw : im_WF (σ 85)) {a b : Nat} (ha : a < 2 ^ 31) (hb : b < 2 ^ 31) (k : Int32 → Option Int32) : ∀ (d i nn : Nat) (v : Int32), i + d = im_tn (σ 85 1) → d < nn → ((∀ l, i ≤ l → l < im_tn (σ 85 1) → ¬ im_lk (σ 85) l a b) → f_X6_linkOf_L7 (nI a) (nI b) σ k nn v (nI i) = k v) ∧ (∀ l, i ≤ l → l < im_tn (σ 85 1) → im_lk (σ 85) l a b → f_X6_linkOf_L7 (nI a) (nI b) σ k nn v (nI i) = k (nI l)) := by
  have b1 := hw.1.2.1.1
  intro d
  induction d with
  | zero =>
    intro i nn v h1 h2
    obtain ⟨nn, rfl⟩ : ∃ q, nn = q + 1 := ⟨nn - 1, by omega⟩
    rw [s_X6_linkOf_7]
    unfold f_X6_linkOf_B7
    have e1 : iw_rd σ 85 (1 : Int32) = some (nI (im_tn (σ 85 1))) := by
      rw [show (1 : Int32) = nI 1 from rfl, im_m_rd (by decide)]
      exact congrArg some hw.1.2.1.2
    rw [e1, im_bind, if_pos (by rw [im_le (by omega) (by omega)]; omega)]
    exact ⟨fun _ => rfl, fun l q1 q2 _ => by omega⟩
  | succ d ih =>
    intro i nn v h1 h2
    obtain ⟨nn, rfl⟩ : ∃ q, nn = q + 1 := ⟨nn - 1, by omega⟩
    rw [s_X6_linkOf_7]
    obtain ⟨p1, p2⟩ := im_linkOf_B hw ha hb k (f_X6_linkOf_L7 (nI a) (nI b) σ k nn) v (show i < im_tn (σ 85 1) by omega)
    by_cases q : im_lk (σ 85) i a b
    · rw [p1 q]
      refine ⟨fun z => absurd q (z i (Nat.le_refl _) (by omega)), fun l l1 l2 l3 => ?_⟩
      have e : l = i := hw.2.2.1 l i a b l2 (by omega) l3 q
      subst e
      exact (ih (l + 1) nn _ (by omega) (by omega)).1 (fun l' l1' l2' l3' => by
        have := hw.2.2.1 l l' a b l2 l2' l3 l3'
        omega)
    · rw [p2 q]
      obtain ⟨i1, i2⟩ := ih (i + 1) nn v (by omega) (by omega)
      refine ⟨fun z => i1 (fun l l1 l2 => z l (by omega) l2), fun l l1 l2 l3 => i2 l ?_ l2 l3⟩
      by_cases e : l = i
      · subst e; exact absurd l3 q
      · omega
theorem im_linkOf {n : Nat} (hn : 4096 ≤ n) (hw : im_WF (σ 85)) {a b : Nat} (ha : a < 2 ^ 31) (hb : b < 2 ^ 31) : ((∀ l, l < im_tn (σ 85 1) → ¬ im_lk (σ 85) l a b) → f_X6_linkOf n (nI a) (nI b) σ = some (-1000)) ∧ (∀ l, l < im_tn (σ 85 1) → im_lk (σ 85) l a b → f_X6_linkOf n (nI a) (nI b) σ = some (nI l)) := by
  have b1 := hw.1.2.1.1
  obtain ⟨g1, g2⟩ := im_linkOf_L hw ha hb f_X6_linkOf_X73_7 (im_tn (σ 85 1)) 0 n (-1000) (by omega) (by omega)
  unfold f_X6_linkOf
  exact ⟨fun q => g1 (fun l _ l2 => q l l2), fun l l2 l3 => g2 l (Nat.zero_le _) l2 l3⟩
end
