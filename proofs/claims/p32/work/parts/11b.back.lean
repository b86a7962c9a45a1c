/-! the class writes the way back -/
theorem im_back_L {w : Nat → Nat → Nat} {A : Nat → Bool} {f g K : Nat} {T : Nat → Nat} (hf : f < 10) (hD : im_D w A f T) (hK : K ≤ 9) (hKf : im_pk w T g K = f) (hne : ∀ k, k < K → im_pk w T g k ≠ f) (hin : ∀ k, k ≤ K → im_pk w T g k < 10 ∧ T (im_pk w T g k) < 1000000) (kk : Int32 → iw_M → Option (Int32 × iw_M)) : ∀ (d k nn : Nat) (σ : iw_M), k + d = K → d < nn → (∀ v, v < 10 → σ (14 + 5) (f * 10 + v) = im_bf w T v 10 0) → ∃ σ', f_X3_traceBack_L14 (nI f) kk nn (nI (im_pk w T g k)) (nI (k + 1)) σ = kk (nI (K + 1)) σ' ∧ (∀ j, k < j → j ≤ K → σ' 2 j = nI (im_pk w T g j)) ∧ (∀ j, j ≤ k → σ' 2 j = σ 2 j) ∧ ∀ r, r ≠ 2 → σ' r = σ r := by
  have e2 : iw_al 2 = 10 := rfl
  have e19 : iw_al (14 + 5) = 100 := rfl
  intro d
  induction d with
  | zero =>
    intro k nn σ h1 h2 hb
    obtain ⟨nn, rfl⟩ : ∃ q, nn = q + 1 := ⟨nn - 1, by omega⟩
    have ek : k = K := by omega
    subst ek
    refine ⟨σ, ?_, fun j j1 j2 => by omega, fun _ _ => rfl, fun _ _ => rfl⟩
    rw [s_X3_traceBack_14]
    unfold f_X3_traceBack_B14
    rw [if_pos (by rw [hKf])]
  | succ d ih =>
    intro k nn σ h1 h2 hb
    obtain ⟨nn, rfl⟩ : ∃ q, nn = q + 1 := ⟨nn - 1, by omega⟩
    have hn := hne k (by omega)
    have hi := hin k (by omega)
    obtain ⟨p1, p2, -, -, -⟩ := im_pv_ok hD hn hi.2
    obtain ⟨σ', x1, x2, x3, x4⟩ := ih (k + 1) nn (iw_up σ 2 (k + 1) (nI (im_pk w T g (k + 1)))) (by omega) (by omega) (fun v hv => by rw [iw_up_ne (by decide)]; exact hb v hv)
    refine ⟨σ', ?_, fun j j1 j2 => ?_, fun j hj => by rw [x3 j (by omega), im_upn (by omega)], fun r hr => (x4 r hr).trans (iw_up_ne hr)⟩
    · have en : f_X2_nodeBefore 14 (nI f) (nI (im_pk w T g k)) σ = nI (im_pk w T g (k + 1)) := by
        unfold f_X2_nodeBefore
        rw [show (10 : Int32) = nI 10 from rfl, pk_mul, nI_add, im_at (by omega), hb _ hi.1, p1]
        rfl
      rw [s_X3_traceBack_14]
      unfold f_X3_traceBack_B14
      rw [if_neg (show ¬ nI (im_pk w T g k) = nI f by rw [im_eq (by omega) (by omega)]; exact hn), if_neg (show ¬ (10 : Int32) ≤ nI (k + 1) by rw [im_lit 10, im_le (by decide) (by omega)]; omega), en, im_let, im_put (by omega), im_let, im_let, nI_1]
      exact x1
    · by_cases e : j = k + 1
      · rw [e, x3 _ (Nat.le_refl _), im_ups]
      · exact x2 j (by omega) j2
theorem im_back {n : Nat} (hn : 4096 ≤ n) {w : Nat → Nat → Nat} {A : Nat → Bool} {f g K : Nat} {T : Nat → Nat} (hf : f < 10) (hD : im_D w A f T) (hK : K ≤ 9) (hKf : im_pk w T g K = f) (hne : ∀ k, k < K → im_pk w T g k ≠ f) (hin : ∀ k, k ≤ K → im_pk w T g k < 10 ∧ T (im_pk w T g k) < 1000000) {σ : iw_M} (hb : ∀ v, v < 10 → σ (14 + 5) (f * 10 + v) = im_bf w T v 10 0) : ∃ σ', f_X3_traceBack n (nI f) (nI g) σ = some (nI (K + 1), σ') ∧ im_ls σ' 2 (K + 1) (im_pk w T g) ∧ ∀ r, r ≠ 2 → σ' r = σ r := by
  have e2 : iw_al 2 = 10 := rfl
  obtain ⟨σ', x1, x2, x3, x4⟩ := im_back_L hf hD hK hKf hne hin f_X3_traceBack_X52_14 K 0 n (iw_up σ 2 0 (nI g)) (by omega) (by omega) (fun v hv => by rw [iw_up_ne (by decide)]; exact hb v hv)
  refine ⟨σ', ?_, fun k hk => ?_, fun r hr => (x4 r hr).trans (iw_up_ne hr)⟩
  · unfold f_X3_traceBack
    rw [im_let, show (0 : Int32) = nI 0 from rfl, im_put (by omega)]
    exact x1
  · by_cases e : k = 0
    · rw [e, x3 0 (Nat.le_refl _), im_ups]; rfl
    · exact x2 k (by omega) (by omega)
