/-! the twenty changes -/
theorem s_L_law_406 (n : Nat) (xs : Nat → Int32) (sL : Nat) (k : iw_M → Option Int32) (nn : Nat) : f_L_law_L406 n xs sL k (nn + 1) = f_L_law_B406 n xs sL k (f_L_law_L406 n xs sL k nn) := rfl
theorem ip_J506 {e : Int32} {R : Nat} (hR : R ≤ 1000) {σ : iw_M} {ρ : Nat → Int32} (h : ip_L e R σ ρ) (hN : 3 ≤ im_tn (ρ 0)) (r : Int32 → iw_M → Option Int32) {t : Nat} (y : Int32) : ∃ σ', ip_L e R σ' ρ ∧ f_L_law_J506 4096 r (nI t) y σ = r (nI (t + 1)) σ' := by
  have b0 := h.1.2.1.1.1.1
  obtain ⟨σ1, a1, a2⟩ := ip_isSound hR h
  unfold f_L_law_J506
  rw [a1, im_b2, if_neg (by decide)]
  by_cases c : nI t - nI t / (4 : Int32) * (4 : Int32) = (3 : Int32)
  · obtain ⟨f, hf, ef⟩ := ip_low (y >>> ((5 : Int32) &&& 31)) (m := im_tn (ρ 0)) (by omega) (by omega)
    obtain ⟨w, hw, ew⟩ := ip_lo (y >>> ((9 : Int32) &&& 31)) (c := 30) (m := 30) rfl (by decide) (by decide)
    obtain ⟨σ2, b1, b2⟩ := ip_areTimesSound a2 hf
    obtain ⟨σ3, c1, c2⟩ := ip_isForetold hR b2 (w := 1 + w) (by omega) (by omega)
    rw [if_pos c, ip_c0 a2.1, im_bind, ef, im_bind, b1, im_b2, if_neg (by decide), ew, im_bind, show (1 : Int32) + nI w = nI (1 + w) from nI_add 1 w, c1, im_b2, if_neg (by decide)]
    unfold f_L_law_J562
    rw [im_let, nI_1]
    exact ⟨σ3, c2, rfl⟩
  · rw [if_neg c]
    unfold f_L_law_J562
    rw [im_let, nI_1]
    exact ⟨σ1, a2, rfl⟩
theorem ip_L406 (xs : Nat → Int32) (sL : Nat) (k : iw_M → Option Int32) : ∀ (d t nn : Nat) (e : Int32) (R : Nat) (σ : iw_M) (ρ : Nat → Int32), t + d = 20 → d < nn → R ≤ 2 + 8 * t → ip_L e R σ ρ → 3 ≤ im_tn (ρ 0) → ∃ e' R' σ' ρ', R' ≤ 200 ∧ ip_L e' R' σ' ρ' ∧ 3 ≤ im_tn (ρ' 0) ∧ f_L_law_L406 4096 xs sL k nn (nI t) σ = k σ' := by
  intro d
  induction d with
  | zero =>
    intro t nn e R σ ρ h1 h2 hR h hN
    obtain ⟨nn, rfl⟩ : ∃ q, nn = q + 1 := ⟨nn - 1, by omega⟩
    refine ⟨e, R, σ, ρ, by omega, h, hN, ?_⟩
    rw [s_L_law_406]
    unfold f_L_law_B406
    rw [if_pos (by rw [im_lit 20, im_le (by omega) (by omega)]; omega)]
  | succ d ih =>
    intro t nn e R σ ρ h1 h2 hR h hN
    obtain ⟨nn, rfl⟩ : ∃ q, nn = q + 1 := ⟨nn - 1, by omega⟩
    obtain ⟨y, ey⟩ := ip_cell xs sL (k := 9 + t) (by omega)
    obtain ⟨r, σ1, x1, x2⟩ := ip_changes h (by omega) y
    have e9 : (9 : Int32) + nI t = nI (9 + t) := nI_add 9 t
    -- the checks behind, whatever was kept
    have go : ∀ (e2 : Int32) (R2 : Nat) (σ2 : iw_M) (ρ2 : Nat → Int32), R2 ≤ 2 + 8 * (t + 1) → ip_L e2 R2 σ2 ρ2 → 3 ≤ im_tn (ρ2 0) → ∃ e' R' σ' ρ', R' ≤ 200 ∧ ip_L e' R' σ' ρ' ∧ 3 ≤ im_tn (ρ' 0) ∧ f_L_law_J506 4096 (f_L_law_L406 4096 xs sL k nn) (nI t) y σ2 = k σ' := by
      intro e2 R2 σ2 ρ2 q1 q2 q3
      obtain ⟨σ3, z1, z2⟩ := ip_J506 (show R2 ≤ 1000 by omega) q2 q3 (f_L_law_L406 4096 xs sL k nn) (t := t) y
      obtain ⟨e', R', σ', ρ', w1, w2, w3, w4⟩ := ih (t + 1) nn e2 R2 σ3 ρ2 (by omega) (by omega) q1 z1 q3
      exact ⟨e', R', σ', ρ', w1, w2, w3, by rw [z2, w4]⟩
    rw [s_L_law_406]
    unfold f_L_law_B406
    rw [if_neg (by rw [im_lit 20, im_le (by omega) (by omega)]; omega), e9, ey, im_bind, op_digest (by decide) h.1, im_bind, ip_rd84, im_bind, x1, im_b2, h.2.2.2]
    rcases x2 with ⟨a1, a2⟩ | ⟨e', R', ρ', b1, b2, b3, b4, b5, b6⟩
    · rw [if_neg (Int32.not_le.mpr a1), op_digest (by decide) a2.1, im_bind, if_pos rfl]
      unfold f_L_law_J464
      rw [if_pos a1]
      exact go e R σ1 ρ (by omega) a2 hN
    · rw [if_pos b1]
      unfold f_L_law_J464
      rw [if_neg (Int32.not_lt.mpr b1)]
      by_cases c : ((y >>> ((27 : Int32) &&& 31)) &&& (3 : Int32)) = (0 : Int32)
      · obtain ⟨r', σ2, c1, c2, c3, c4⟩ := op_undo b5.1 b6
        rw [if_pos c, c1]
        unfold iw_let2
        simp only []
        rw [if_neg (Int32.not_lt.mpr c2), op_digest (by decide) c3, im_bind, if_pos rfl, ip_wr84, im_bind]
        exact go e R (iw_up σ2 84 0 e) ρ (by omega) ⟨ip_up84 c3, h.2.1, h.2.2.1, im_ups⟩ hN
      · rw [if_neg c]
        exact go e' R' σ1 ρ' (by omega) b5 (by omega)
