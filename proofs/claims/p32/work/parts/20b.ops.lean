/-! charge, measure, setPeriod, addNode, one-sided -/
theorem op_charge {σ : iw_M} {ρ : Nat → Int32} (h : ip_G σ ρ) (p1 p2 : Int32) : ∃ r σ', f_X5_charge p1 p2 σ = (r, σ') ∧ σ' 84 = σ 84 ∧ (((¬ ∃ k, k < im_tn (ρ 0) ∧ p1 = nI k) → r = -1001) ∧ ((∃ k, k < im_tn (ρ 0) ∧ p1 = nI k) → ¬ (0 ≤ p2 ∧ p2 ≤ 10000) → r = -1002)) ∧ ((r < -1000 ∧ ip_G σ' ρ) ∨ ∃ k, k < im_tn (ρ 0) ∧ p1 = nI k ∧ 0 ≤ p2 ∧ p2 ≤ 10000 ∧ r = ρ (12 + k) ∧ ip_G σ' (im_ru ρ (12 + k) p2) ∧ ip_T σ' ρ) := by
  have hN := h.1
  have hW := h.2.1
  obtain ⟨⟨N, N1, N2, N3, N4⟩, -⟩ := ip_cnt hN hW
  unfold f_X5_charge
  rw [show f_X1_has 20 (0 : Int32) p1 σ = f_X1_has 20 (nI 0) p1 σ from rfl, im_has iw_net_20 (by decide) (by omega) p1 N4, im_b01, im_within, im_b01, N2]
  by_cases c : ∃ k, k < N ∧ p1 = nI k
  · rw [if_pos c]
    by_cases d : 0 ≤ p2 ∧ p2 ≤ 10000
    · rw [if_pos d]
      obtain ⟨k, hk, rfl⟩ := c
      obtain ⟨h', t', e84⟩ := ip_rec h
      have hN' := h'.1
      generalize f_X0_record 20 σ = σ1 at h' hN' t' e84 ⊢
      unfold f_X1_energyOf f_X1_setEnergy
      simp only [im_let]
      rw [im_at (by rw [(im_al_n 20 iw_net_20).2.1]; omega), im_put (by rw [(im_al_n 20 iw_net_20).2.1]; omega), hN'.2.1 k (by omega)]
      obtain ⟨a, b, e⟩ := ip_upd h' t' (σ' := iw_up σ1 (20 + 2) k p2) (fun b hb => iw_up_ne (by omega)) (im_NR_en hN' (by omega)) (im_WF_ru hW (Or.inl (by omega)))
      exact ⟨_, _, rfl, e.trans e84, ⟨fun q => absurd ⟨k, hk, rfl⟩ q, fun _ q => absurd d q⟩, Or.inr ⟨k, hk, rfl, d.1, d.2, rfl, a, b⟩⟩
    · rw [if_neg d]
      exact ⟨_, σ, rfl, rfl, ⟨fun q => absurd c q, fun _ _ => rfl⟩, Or.inl ⟨by decide, h⟩⟩
  · rw [if_neg c]
    exact ⟨_, σ, rfl, rfl, ⟨fun _ => rfl, fun q => absurd q c⟩, Or.inl ⟨by decide, h⟩⟩
theorem op_measure {σ : iw_M} {ρ : Nat → Int32} (h : ip_G σ ρ) (p1 p2 : Int32) : ∃ r σ', f_X5_measure p1 p2 σ = (r, σ') ∧ σ' 84 = σ 84 ∧ ((¬ ∃ k, k < im_tn (ρ 2) ∧ p1 = nI k) → r = -1001) ∧ ((r < -1000 ∧ ip_G σ' ρ) ∨ ∃ k, k < im_tn (ρ 2) ∧ p1 = nI k ∧ -100 ≤ p2 ∧ p2 ≤ 100 ∧ r = ρ (82 + (3 * k + 2)) ∧ ip_G σ' (im_ru ρ (82 + (3 * k + 2)) p2) ∧ ip_T σ' ρ) := by
  have hN := h.1
  have hW := h.2.1
  obtain ⟨-, -, ⟨N, N1, N2, N3, N4⟩, -⟩ := ip_cnt hN hW
  unfold f_X5_measure
  rw [show f_X1_has 20 (2 : Int32) p1 σ = f_X1_has 20 (nI 2) p1 σ from rfl, im_has iw_net_20 (by decide) (by omega) p1 N4, im_b01, im_within, im_b01, N2]
  by_cases c : ∃ k, k < N ∧ p1 = nI k
  · rw [if_pos c]
    by_cases d : -100 ≤ p2 ∧ p2 ≤ 100
    · rw [if_pos d]
      obtain ⟨k, hk, rfl⟩ := c
      obtain ⟨h', t', e84⟩ := ip_rec h
      have hN' := h'.1
      generalize f_X0_record 20 σ = σ1 at h' hN' t' e84 ⊢
      unfold f_X1_setValue
      simp only [im_let]
      rw [im_lit 2, im_lit 3, im_sensorPart iw_net_20 (by omega), pk_mul, nI_add, im_put (by rw [(im_al_n 20 iw_net_20).2.2.2.1]; omega), hN'.2.2.2.1 _ (by omega), Nat.mul_comm k 3]
      obtain ⟨a, b, e⟩ := ip_upd h' t' (σ' := iw_up σ1 (20 + 4) (3 * k + 2) p2) (fun b hb => iw_up_ne (by omega)) (im_NR_se hN' hW (by omega)) (im_WF_ru hW (Or.inr (Or.inl (by omega))))
      exact ⟨_, _, rfl, e.trans e84, fun q => absurd ⟨k, hk, rfl⟩ q, Or.inr ⟨k, hk, rfl, d.1, d.2, rfl, a, b⟩⟩
    · rw [if_neg d]
      exact ⟨_, σ, rfl, rfl, fun q => absurd c q, Or.inl ⟨by decide, h⟩⟩
  · rw [if_neg c]
    exact ⟨_, σ, rfl, rfl, fun _ => rfl, Or.inl ⟨by decide, h⟩⟩
theorem op_setPeriod (n : Nat) {σ : iw_M} {ρ : Nat → Int32} (h : ip_G σ ρ) (p1 : Int32) : ∃ r σ', f_X5_setPeriod n p1 σ = some (r, σ') ∧ σ' 84 = σ 84 ∧ ((r < -1000 ∧ ip_G σ' ρ ∧ ¬ (1 ≤ p1 ∧ p1 ≤ 50)) ∨ ∃ w, 1 ≤ w ∧ w ≤ 50 ∧ p1 = nI w ∧ r = ρ 4 ∧ ip_G σ' (im_ru ρ 4 (nI w)) ∧ ip_T σ' ρ) := by
  have hW := h.2.1
  unfold f_X5_setPeriod
  rw [im_within, im_b01]
  by_cases d : 1 ≤ p1 ∧ p1 ≤ 50
  · rw [if_pos d]
    obtain ⟨w, w1, w2, rfl⟩ := im_rng1 (a := 1) (b := 50) (by decide) (by decide) d
    obtain ⟨h', t', e84⟩ := ip_rec h
    have hN' := h'.1
    generalize f_X0_record 20 σ = σ1 at h' hN' t' e84 ⊢
    unfold f_X1_setNumber
    simp only [im_let]
    rw [im_lit 4, im_num n iw_net_20 (by decide) (by decide), im_bind, im_put (by rw [(im_al_n 20 iw_net_20).1]; decide), hN'.1 4 (by decide) (by decide)]
    obtain ⟨a, b, e⟩ := ip_upd h' t' (σ' := iw_up σ1 (20 + 1) 4 (nI w)) (fun b hb => iw_up_ne (by omega)) (im_NR_num hN' (by omega) (by omega)) (im_WF_4 hW w1 w2)
    exact ⟨_, _, rfl, e.trans e84, Or.inr ⟨w, w1, w2, rfl, rfl, a, b⟩⟩
  · rw [if_neg d]
    exact ⟨_, σ, rfl, rfl, Or.inl ⟨by decide, h, d⟩⟩
/-- a row with a node more -/
def ip_nd (ρ : Nat → Int32) (N : Nat) (v : Int32) : Nat → Int32 := im_ru (im_ru ρ (12 + N) v) 0 (nI (N + 1))
theorem op_addNode (n : Nat) {σ : iw_M} {ρ : Nat → Int32} (h : ip_G σ ρ) (p1 : Int32) : ∃ r σ', f_X5_addNode n p1 σ = some (r, σ') ∧ σ' 84 = σ 84 ∧ (¬ (1 ≤ p1 ∧ p1 ≤ 10000) → r = -1002) ∧ ((r < -1000 ∧ ip_G σ' ρ ∧ (¬ (1 ≤ p1 ∧ p1 ≤ 10000) ∨ im_tn (ρ 0) = 10)) ∨ (im_tn (ρ 0) < 10 ∧ 1 ≤ p1 ∧ p1 ≤ 10000 ∧ r = nI (im_tn (ρ 0)) ∧ ip_G σ' (ip_nd ρ (im_tn (ρ 0)) p1) ∧ ip_T σ' ρ)) := by
  have hN := h.1
  have hW := h.2.1
  obtain ⟨⟨N, N1, N2, N3, N4⟩, -⟩ := ip_cnt hN hW
  unfold f_X5_addNode
  rw [im_within, im_b01, N2]
  by_cases d : 1 ≤ p1 ∧ p1 ≤ 10000
  · rw [if_pos d, im_lit 0, im_num n iw_net_20 (by decide) (by decide), im_bind, N4]
    by_cases e : N = 10
    · rw [if_neg (by rw [im_lit 10, im_lt (by omega) (by decide)]; omega)]
      exact ⟨_, _, rfl, rfl, fun q => absurd d q, Or.inl ⟨by decide, h, Or.inr e⟩⟩
    · rw [if_pos (by rw [im_lit 10, im_lt (by omega) (by decide)]; omega)]
      obtain ⟨h', t', e84⟩ := ip_rec h
      have hN' := h'.1
      have x0 : f_X0_record 20 σ (20 + 1) 0 = nI N := by rw [hN'.1 0 (by decide) (by decide)]; exact N3
      generalize f_X0_record 20 σ = σ1 at h' hN' t' e84 x0 ⊢
      rw [im_let, im_appendNode iw_net_20 (by omega) x0]
      have he : ∀ k, k < 465 → k ≠ 0 → k ≠ 12 + N → ip_nd ρ N p1 k = ρ k := fun k _ a b => by
        unfold ip_nd
        rw [im_ru_ne a, im_ru_ne b]
      have h0 : ip_nd ρ N p1 0 = nI (N + 1) := im_ru_eq
      have h12 : ip_nd ρ N p1 (12 + N) = p1 := by
        unfold ip_nd
        rw [im_ru_ne (by omega), im_ru_eq]
      obtain ⟨a, b, e'⟩ := ip_upd h' t' (σ' := iw_up (iw_up σ1 (20 + 2) N p1) (20 + 1) 0 (nI (N + 1))) (ρ' := ip_nd ρ N p1) (fun b hb => by rw [iw_up_ne (by omega), iw_up_ne (by omega)]) (by
        refine im_NR_node hW hN' N2 (by omega) h0 he (by rw [im_ups]) (fun j hj => by rw [im_upn hj, im_upo (by decide)]) (fun j hj => by rw [im_upo (by decide), im_upn hj]) ?_ (fun j a b => by rw [iw_up_ne (by omega), iw_up_ne (by omega)])
        rw [im_upo (by decide), im_ups, h12]) (im_WF_node hW N2 (by omega) h0 he)
      exact ⟨_, _, rfl, e'.trans e84, fun q => absurd d q, Or.inr ⟨by omega, d.1, d.2, rfl, a, b⟩⟩
  · rw [if_neg d]
    exact ⟨_, _, rfl, rfl, fun _ => rfl, Or.inl ⟨by decide, h, Or.inl d⟩⟩
