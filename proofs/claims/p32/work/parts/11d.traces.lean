/-! the reference writes the way back -/
theorem im_traces_L {n : Nat} (hn : 4096 ≤ n) {ρ : Nat → Int32} (hw : im_WF ρ) {A : Nat → Bool} {f g K : Nat} {T : Nat → Nat} (hD : im_D (im_dl ρ) A f T) (hN : ∀ v, T v < 1000000 → v < im_tn (ρ 0)) (hK : K ≤ 9) (hKf : im_pk (im_dl ρ) T g K = f) (hne : ∀ k, k < K → im_pk (im_dl ρ) T g k ≠ f) (hin : ∀ k, k ≤ K → im_pk (im_dl ρ) T g k < 10 ∧ T (im_pk (im_dl ρ) T g k) < 1000000) (kk : iw_M → Option iw_M) : ∀ (d k nn : Nat) (σ : iw_M), k + d = K → d + 1 < nn → σ 85 = ρ → im_T86 σ T → σ 84 6 = nI k → ∃ σ', f_X6_traces_L25 n kk nn (nI (im_pk (im_dl ρ) T g k)) σ = kk σ' ∧ σ' 84 6 = nI (K + 1) ∧ (∀ j, k ≤ j → j ≤ K → σ' 89 j = nI (im_pk (im_dl ρ) T g j)) ∧ (∀ j, j < k → σ' 89 j = σ 89 j) ∧ (∀ j, j ≠ 6 → σ' 84 j = σ 84 j) ∧ ∀ r, r ≠ 84 → r ≠ 89 → σ' r = σ r := by
  have b0 := hw.1.1
  have b0' := b0.1
  have e89 : iw_al 89 = 10 := rfl
  intro d
  induction d with
  | zero =>
    intro k nn σ h1 h2 e hT h6
    obtain ⟨nn, rfl⟩ : ∃ q, nn = q + 1 := ⟨nn - 1, by omega⟩
    obtain ⟨nn, rfl⟩ : ∃ q, nn = q + 1 := ⟨nn - 1, by omega⟩
    have hi := hin k (by omega)
    have ek : k = K := by omega
    subst ek
    have r0 : ∀ τ : iw_M, τ 85 = ρ → iw_rd τ 85 (0 : Int32) = some (nI (im_tn (ρ 0))) := fun τ hτ => by
      rw [show iw_rd τ 85 (0 : Int32) = iw_rd τ 85 (nI 0) from rfl, im_m_rd (by decide), hτ]
      exact congrArg some b0.2
    have s85 : (iw_up (iw_up σ 89 k (nI (im_pk (im_dl ρ) T g k))) 84 6 (nI (k + 1))) 85 = ρ := by rw [iw_up_ne (by decide), iw_up_ne (by decide)]; exact e
    obtain ⟨res, x1, x2⟩ := im_before_L hn (σ := iw_up (iw_up σ 89 k (nI (im_pk (im_dl ρ) T g k))) 84 6 (nI (k + 1))) (by rw [s85]; exact hw) s85 (T := T) (fun v hv => by rw [iw_up_ne (by decide), iw_up_ne (by decide)]; exact hT v hv) hD.2.1 hi.1 hi.2 (f_X6_traces_X138_66 (f_X6_traces_L25 n kk (nn + 1)) (iw_up (iw_up σ 89 k (nI (im_pk (im_dl ρ) T g k))) 84 6 (nI (k + 1)))) (im_tn (ρ 0)) n (-1000) (Nat.le_refl _) (by omega)
    have er : res = -1000 := by
      rcases x2 with ⟨u, -, u2, -, -⟩ | ⟨-, u2⟩
      · rw [hKf, hD.1] at u2
        omega
      · exact u2
    refine ⟨iw_up (iw_up σ 89 k (nI (im_pk (im_dl ρ) T g k))) 84 6 (nI (k + 1)), ?_, im_ups, fun j j1 j2 => ?_, fun j hj => by rw [im_upo (by decide), im_upn (by omega)], fun j hj => by rw [im_upn hj, im_upo (by decide)], fun r r1 r2 => by rw [iw_up_ne r1, iw_up_ne r2]⟩
    · rw [s_X6_traces_25]
      unfold f_X6_traces_B25
      rw [if_neg (im_neN (by omega)), h6, im_wr (by omega), im_bind]
      simp only [im_let]
      rw [im_upo (show (84 : Nat) ≠ 89 by decide), h6, nI_1, r0 _ s85, im_bind, x1, er]
      unfold f_X6_traces_X138_66
      rw [s_X6_traces_25]
      unfold f_X6_traces_B25
      rw [if_pos rfl]
    · rw [show j = k by omega, im_upo (by decide), im_ups]
  | succ d ih =>
    intro k nn σ h1 h2 e hT h6
    obtain ⟨nn, rfl⟩ : ∃ q, nn = q + 1 := ⟨nn - 1, by omega⟩
    have hi := hin k (by omega)
    have hnk := hne k (by omega)
    obtain ⟨p1, p2, p3, p4, p5⟩ := im_pv_ok hD hnk hi.2
    have r0 : ∀ τ : iw_M, τ 85 = ρ → iw_rd τ 85 (0 : Int32) = some (nI (im_tn (ρ 0))) := fun τ hτ => by
      rw [show iw_rd τ 85 (0 : Int32) = iw_rd τ 85 (nI 0) from rfl, im_m_rd (by decide), hτ]
      exact congrArg some b0.2
    have s85 : (iw_up (iw_up σ 89 k (nI (im_pk (im_dl ρ) T g k))) 84 6 (nI (k + 1))) 85 = ρ := by rw [iw_up_ne (by decide), iw_up_ne (by decide)]; exact e
    have s86 : im_T86 (iw_up (iw_up σ 89 k (nI (im_pk (im_dl ρ) T g k))) 84 6 (nI (k + 1))) T := fun v hv => by rw [iw_up_ne (by decide), iw_up_ne (by decide)]; exact hT v hv
    obtain ⟨res, x1, x2⟩ := im_before_L hn (by rw [s85]; exact hw) s85 s86 hD.2.1 hi.1 hi.2 (f_X6_traces_X138_66 (f_X6_traces_L25 n kk nn) (iw_up (iw_up σ 89 k (nI (im_pk (im_dl ρ) T g k))) 84 6 (nI (k + 1)))) (im_tn (ρ 0)) n (-1000) (Nat.le_refl _) (by omega)
    have er : res = nI (im_pk (im_dl ρ) T g (k + 1)) := by
      rw [im_pk_s]
      rcases x2 with ⟨u, u1, u2, u3, u4⟩ | ⟨u1, -⟩
      · rcases Nat.lt_trichotomy u (im_pv (im_dl ρ) T (im_pk (im_dl ρ) T g k)) with z | z | z
        · exact absurd u2 (p5 u z)
        · rw [u3, z]
        · exact absurd ⟨p3, p4⟩ (u4 _ z)
      · exact absurd ⟨p3, p4⟩ (u1 _ (hN _ (by omega)))
    obtain ⟨σ', y1, y2, y3, y4, y5, y6⟩ := ih (k + 1) nn (iw_up (iw_up σ 89 k (nI (im_pk (im_dl ρ) T g k))) 84 6 (nI (k + 1))) (by omega) (by omega) s85 s86 im_ups
    refine ⟨σ', ?_, y2, fun j j1 j2 => ?_, fun j hj => by rw [y4 j (by omega), im_upo (by decide), im_upn (by omega)], fun j hj => by rw [y5 j hj, im_upn hj, im_upo (by decide)], fun r r1 r2 => by rw [y6 r r1 r2, iw_up_ne r1, iw_up_ne r2]⟩
    · rw [s_X6_traces_25]
      unfold f_X6_traces_B25
      rw [if_neg (im_neN (by omega)), h6, im_wr (by omega), im_bind]
      simp only [im_let]
      rw [im_upo (show (84 : Nat) ≠ 89 by decide), h6, nI_1, r0 _ s85, im_bind, x1, er]
      exact y1
    · by_cases z : j = k
      · rw [z, y4 k (by omega), im_upo (by decide), im_ups]
      · exact y3 j (by omega) j2
