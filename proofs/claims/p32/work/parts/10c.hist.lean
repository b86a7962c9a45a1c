/-! states are copied, kept and taken back -/
theorem im_cpy {f g : Nat → Int32} {m k : Nat} : va_cpy f g 0 0 m k = if k < m then f k else g k := by
  unfold va_cpy
  by_cases h : k < m
  · rw [if_pos ⟨Nat.zero_le _, by omega⟩, if_pos h]
    congr 1
    omega
  · rw [if_neg (by omega), if_neg h]
theorem im_copy {a1 a2 : Nat} {σ : iw_M} (k : Nat) : f_X5_copy a1 a2 σ a2 k = if k < min (iw_al a1) (iw_al a2) then σ a1 k else σ a2 k := by
  unfold f_X5_copy
  rw [if_pos rfl, im_cpy]
theorem im_copyo {a1 a2 b : Nat} {σ : iw_M} (h : b ≠ a2) : f_X5_copy a1 a2 σ b = σ b := by
  unfold f_X5_copy
  rw [if_neg h]
theorem im_net_far {c c1 : Nat} (h : iw_net c) (h1 : iw_net c1) (hne : c ≠ c1) {i j : Nat} (hi : i ≤ 7) (hj : j ≤ 7) : c + i ≠ c1 + j := by
  unfold iw_net at h h1
  omega
theorem im_copyFrom {c c1 : Nat} (h : iw_net c) (h1 : iw_net c1) (hne : c ≠ c1) (σ : iw_M) : (∀ b, (∀ j, 1 ≤ j → j ≤ 7 → b ≠ c + j) → f_X1_copyFrom c c1 σ b = σ b) ∧ ∀ j, 1 ≤ j → j ≤ 7 → ∀ k, k < iw_al (c + j) → f_X1_copyFrom c c1 σ (c + j) k = σ (c1 + j) k := by
  have f : ∀ {i j : Nat}, i ≤ 7 → j ≤ 7 → c1 + i ≠ c + j := fun hi hj q => im_net_far h h1 hne hj hi q.symm
  have al : ∀ j, 1 ≤ j → j ≤ 7 → iw_al (c1 + j) = iw_al (c + j) := by
    intro j a b
    have g := im_al_n c h
    have g1 := im_al_n c1 h1
    rcases (show j = 1 ∨ j = 2 ∨ j = 3 ∨ j = 4 ∨ j = 5 ∨ j = 6 ∨ j = 7 by omega) with rfl | rfl | rfl | rfl | rfl | rfl | rfl <;> omega
  refine ⟨fun b hb => ?_, fun j ha hb k hk => ?_⟩
  · unfold f_X1_copyFrom
    simp only [im_let]
    rw [im_copyo (hb 7 (by omega) (by omega)), im_copyo (hb 6 (by omega) (by omega)), im_copyo (hb 5 (by omega) (by omega)), im_copyo (hb 4 (by omega) (by omega)), im_copyo (hb 3 (by omega) (by omega)), im_copyo (hb 2 (by omega) (by omega)), im_copyo (hb 1 (by omega) (by omega))]
  · have hm : min (iw_al (c1 + j)) (iw_al (c + j)) = iw_al (c + j) := by
      rw [al j ha hb]
      exact Nat.min_self _
    unfold f_X1_copyFrom
    simp only [im_let]
    rcases (show j = 1 ∨ j = 2 ∨ j = 3 ∨ j = 4 ∨ j = 5 ∨ j = 6 ∨ j = 7 by omega) with rfl | rfl | rfl | rfl | rfl | rfl | rfl
    · rw [im_copyo (by omega), im_copyo (by omega), im_copyo (by omega), im_copyo (by omega), im_copyo (by omega), im_copyo (by omega), im_copy, if_pos (by omega)]
    · rw [im_copyo (by omega), im_copyo (by omega), im_copyo (by omega), im_copyo (by omega), im_copyo (by omega), im_copy, if_pos (by omega), im_copyo (f (by omega) (by omega))]
    · rw [im_copyo (by omega), im_copyo (by omega), im_copyo (by omega), im_copyo (by omega), im_copy, if_pos (by omega), im_copyo (f (by omega) (by omega)), im_copyo (f (by omega) (by omega))]
    · rw [im_copyo (by omega), im_copyo (by omega), im_copyo (by omega), im_copy, if_pos (by omega), im_copyo (f (by omega) (by omega)), im_copyo (f (by omega) (by omega)), im_copyo (f (by omega) (by omega))]
    · rw [im_copyo (by omega), im_copyo (by omega), im_copy, if_pos (by omega), im_copyo (f (by omega) (by omega)), im_copyo (f (by omega) (by omega)), im_copyo (f (by omega) (by omega)), im_copyo (f (by omega) (by omega))]
    · rw [im_copyo (by omega), im_copy, if_pos (by omega), im_copyo (f (by omega) (by omega)), im_copyo (f (by omega) (by omega)), im_copyo (f (by omega) (by omega)), im_copyo (f (by omega) (by omega)), im_copyo (f (by omega) (by omega))]
    · rw [im_copy, if_pos (by omega), im_copyo (f (by omega) (by omega)), im_copyo (f (by omega) (by omega)), im_copyo (f (by omega) (by omega)), im_copyo (f (by omega) (by omega)), im_copyo (f (by omega) (by omega)), im_copyo (f (by omega) (by omega))]
/-- a net whose rows hold the same as another's -/
theorem im_NR_cp {σ σ' : iw_M} {c c' : Nat} {ρ : Nat → Int32} (hc : iw_net c') (hw : im_WF ρ) (h : im_NR σ c ρ) (hr : ∀ j, 1 ≤ j → j ≤ 7 → ∀ k, k < iw_al (c' + j) → σ' (c' + j) k = σ (c + j) k) : im_NR σ' c' ρ := by
  obtain ⟨h1, h2, h3, h4, h5, h6, h7⟩ := h
  obtain ⟨g1, g2, g3, g4, g5, g6, g7⟩ := im_al_n c' hc
  have b0 := hw.1.1.1
  have b1 := hw.1.2.1.1
  have b2 := hw.1.2.2.1.1
  have b3 := hw.1.2.2.2.1.1
  refine ⟨fun j a b => ?_, fun k a => ?_, fun k a => ?_, fun k a => ?_, fun k a => ?_, fun i s a b => ?_, fun i s a b d => ?_⟩
  · rw [hr 1 (by omega) (by omega) j (by omega)]; exact h1 j a b
  · rw [hr 2 (by omega) (by omega) k (by omega)]; exact h2 k a
  · rw [hr 3 (by omega) (by omega) k (by omega)]; exact h3 k a
  · rw [hr 4 (by omega) (by omega) k (by omega)]; exact h4 k a
  · rw [hr 5 (by omega) (by omega) k (by omega)]; exact h5 k a
  · have q := (hw.2.2.2.2.2 i s a b).1.1
    rw [hr 6 (by omega) (by omega) _ (by omega)]
    refine ⟨(h6 i s a b).1, fun k hk => ?_⟩
    rw [hr 7 (by omega) (by omega) _ (by omega)]
    exact (h6 i s a b).2 k hk
  · rw [hr 6 (by omega) (by omega) _ (by omega)]; exact h7 i s a b d
/-- the reference: one slot of the row is copied into another -/
def im_cp (σ : iw_M) (a b i : Nat) : iw_M := fun r => if r = 85 then (fun j => if 465 * b + i ≤ j ∧ j < 465 * b + 465 then σ 85 (465 * a + (j - 465 * b)) else σ 85 j) else σ r
theorem im_cp_step {σ : iw_M} {a b i : Nat} (hab : a ≠ b) (hi : i < 465) : im_cp (iw_up σ 85 (465 * b + i) (σ 85 (465 * a + i))) a b (i + 1) = im_cp σ a b i := by
  funext r
  unfold im_cp
  by_cases hr : r = 85
  · subst hr
    rw [if_pos rfl, if_pos rfl]
    funext j
    by_cases h1 : 465 * b + (i + 1) ≤ j ∧ j < 465 * b + 465
    · rw [if_pos h1, if_pos (by omega), im_upn (by omega)]
    · rw [if_neg h1]
      by_cases h2 : j = 465 * b + i
      · subst h2
        rw [im_ups, if_pos (by omega)]
        congr 1
        omega
      · rw [im_upn h2, if_neg (by omega)]
  · rw [if_neg hr, if_neg hr, iw_up_ne hr]
theorem im_cp_end {σ : iw_M} {a b : Nat} : im_cp σ a b 465 = σ := by
  funext r
  unfold im_cp
  by_cases hr : r = 85
  · subst hr
    rw [if_pos rfl]
    funext j
    rw [if_neg (by omega)]
  · rw [if_neg hr]
theorem im_copies_L {a b : Nat} (ha : a < 7) (hb : b < 7) (hab : a ≠ b) (k : iw_M → Option iw_M) : ∀ (d i nn : Nat) (σ : iw_M), i + d = 465 → d < nn → f_X6_copies_L2 (nI a) (nI b) k nn (nI i) σ = k (im_cp σ a b i) := by
  intro d
  induction d with
  | zero =>
    intro i nn σ h1 h2
    obtain ⟨nn, rfl⟩ : ∃ q, nn = q + 1 := ⟨nn - 1, by omega⟩
    have e : i = 465 := by omega
    subst e
    rw [s_X6_copies_2]
    unfold f_X6_copies_B2
    rw [if_pos (by decide), im_cp_end]
  | succ d ih =>
    intro i nn σ h1 h2
    obtain ⟨nn, rfl⟩ : ∃ q, nn = q + 1 := ⟨nn - 1, by omega⟩
    rw [s_X6_copies_2]
    unfold f_X6_copies_B2
    rw [im_lit 465, if_neg (by rw [im_le (by decide) (by omega)]; omega), pk_mul, nI_add, im_m_rd (by omega), im_bind, pk_mul, nI_add, im_wr (by rw [im_al85]; omega), im_bind, im_let, nI_1, ih (i + 1) nn _ (by omega) (by omega), im_cp_step hab (by omega)]
theorem im_copies {n a b : Nat} (hn : 4096 ≤ n) (ha : a < 7) (hb : b < 7) (hab : a ≠ b) (σ : iw_M) : f_X6_copies n (nI a) (nI b) σ = some (im_cp σ a b 0) := by
  unfold f_X6_copies
  rw [show (0 : Int32) = nI 0 from rfl, im_copies_L ha hb hab _ 465 0 n σ (by omega) (by omega)]
  rfl
theorem im_cp_sl {σ : iw_M} {a b t k : Nat} (hk : k < 465) : im_sl (im_cp σ a b 0) t k = if t = b then im_sl σ a k else im_sl σ t k := by
  unfold im_sl im_cp
  rw [if_pos rfl]
  by_cases h : t = b
  · subst h
    rw [if_pos (by omega), if_pos rfl]
    congr 1
    omega
  · rw [if_neg (by omega), if_neg h]
theorem im_cp_o {σ : iw_M} {a b i r : Nat} (h : r ≠ 85) : im_cp σ a b i r = σ r := if_neg h
