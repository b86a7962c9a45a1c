/-! the whole of it: the way that an exploring finds -/
theorem im_traces {n : Nat} (hn : 4096 ≤ n) {ρ : Nat → Int32} (hw : im_WF ρ) {A : Nat → Bool} {f g K : Nat} {T : Nat → Nat} (hD : im_D (im_dl ρ) A f T) (hN : ∀ v, T v < 1000000 → v < im_tn (ρ 0)) (hK : K ≤ 9) (hKf : im_pk (im_dl ρ) T g K = f) (hne : ∀ k, k < K → im_pk (im_dl ρ) T g k ≠ f) (hin : ∀ k, k ≤ K → im_pk (im_dl ρ) T g k < 10 ∧ T (im_pk (im_dl ρ) T g k) < 1000000) {σ : iw_M} (e : σ 85 = ρ) (hT : im_T86 σ T) : ∃ σ', f_X6_traces n (nI g) σ = some σ' ∧ σ' 84 6 = nI (K + 1) ∧ im_ls σ' 89 (K + 1) (im_pk (im_dl ρ) T g) ∧ (∀ j, j ≠ 6 → σ' 84 j = σ 84 j) ∧ ∀ r, r ≠ 84 → r ≠ 89 → σ' r = σ r := by
  have e86 : iw_al 86 = 10 := rfl
  have hg := hin 0 (Nat.zero_le _)
  have hg1 : g < 10 := hg.1
  have hg2 : T g < 1000000 := hg.2
  have hT0 : im_T86 (iw_up σ 84 6 0) T := fun v hv => by rw [iw_up_ne (by decide)]; exact hT v hv
  obtain ⟨σ', y1, y2, y3, y4, y5, y6⟩ := im_traces_L hn hw hD hN hK hKf hne hin f_X6_traces_X143_25 K 0 n (iw_up σ 84 6 0) (by omega) (by omega) (by rw [iw_up_ne (by decide)]; exact e) hT0 im_ups
  refine ⟨σ', ?_, y2, fun k hk => y3 k (Nat.zero_le _) (by omega), fun j hj => by rw [y5 j hj, im_upn hj], fun r r1 r2 => by rw [y6 r r1 r2, iw_up_ne r1]⟩
  unfold f_X6_traces f_X6_traces_J24
  rw [im_let, im_rd (by omega), im_bind, hT0 g hg1, if_neg (show ¬ T g = 1000000 by omega), if_neg (im_neN (by omega))]
  exact y1
theorem im_traces_0 {n : Nat} (hn : 4096 ≤ n) {g : Nat} {T : Nat → Nat} (hg : g < 10) (hr : T g = 1000000) {σ : iw_M} (hT : im_T86 σ T) : f_X6_traces n (nI g) σ = some (iw_up σ 84 6 0) := by
  have e86 : iw_al 86 = 10 := rfl
  obtain ⟨n, rfl⟩ : ∃ q, n = q + 1 := ⟨n - 1, by omega⟩
  unfold f_X6_traces f_X6_traces_J24
  rw [im_let, im_rd (by omega), im_bind, iw_up_ne (show (86 : Nat) ≠ 84 by decide), hT g hg, if_pos hr, if_pos rfl, s_X6_traces_25]
  unfold f_X6_traces_B25
  rw [if_pos rfl]
  rfl
