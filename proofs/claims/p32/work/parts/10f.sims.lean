/-! the calls that read, and those that change one number -/
theorem im_rng {x c : Int32} (m : Nat) (hc : c = nI m) (hm : m < 2 ^ 31) (h : 0 ≤ x ∧ x ≤ c) : ∃ w, w ≤ m ∧ x = nI w := by
  obtain ⟨h1, h2⟩ := h
  subst hc
  obtain ⟨j, hj, rfl⟩ := nI_of (Int32.not_lt.mpr h1)
  rw [im_le hj hm] at h2
  exact ⟨j, h2, rfl⟩
section
variable {σx σm : iw_M}
theorem im_cnt (h : im_NR σx 20 (σm 85)) (hw : im_WF (σm 85)) : (∃ N, N ≤ 10 ∧ im_tn (σm 85 0) = N ∧ σm 85 0 = nI N ∧ σx (20 + 1) 0 = nI N) ∧ (∃ L, L ≤ 20 ∧ im_tn (σm 85 1) = L ∧ σm 85 1 = nI L ∧ σx (20 + 1) 1 = nI L) ∧ (∃ S, S ≤ 6 ∧ im_tn (σm 85 2) = S ∧ σm 85 2 = nI S ∧ σx (20 + 1) 2 = nI S) ∧ (∃ I, I ≤ 5 ∧ im_tn (σm 85 3) = I ∧ σm 85 3 = nI I ∧ σx (20 + 1) 3 = nI I) := by
  have h0 := hw.1.1
  have h1 := hw.1.2.1
  have h2 := hw.1.2.2.1
  have h3 := hw.1.2.2.2.1
  exact ⟨⟨_, Nat.le_of_lt_succ h0.1, rfl, h0.2, (h.1 0 (by omega) (by omega)).trans h0.2⟩, ⟨_, Nat.le_of_lt_succ h1.1, rfl, h1.2, (h.1 1 (by omega) (by omega)).trans h1.2⟩, ⟨_, Nat.le_of_lt_succ h2.1, rfl, h2.2, (h.1 2 (by omega) (by omega)).trans h2.2⟩, ⟨_, Nat.le_of_lt_succ h3.1, rfl, h3.2, (h.1 3 (by omega) (by omega)).trans h3.2⟩⟩
end
theorem sim_energy_ok (n : Nat) : sim_energy n im_RR := by
  intro p1 σx σm h
  obtain ⟨hN, hW⟩ := im_0 h
  obtain ⟨⟨N, N1, N2, N3, N4⟩, -⟩ := im_cnt hN hW
  unfold f_X5_energy f_X6_energy
  rw [show (0 : Int32) = nI 0 from rfl, im_has iw_net_20 (by decide) (by omega) p1 N4, im_isNode p1 (by omega) N3, im_bind, show nI 0 = (0 : Int32) from rfl, im_b01, im_b01]
  by_cases c : ∃ k, k < N ∧ p1 = nI k
  · rw [if_pos c, if_pos c]
    obtain ⟨k, hk, rfl⟩ := c
    unfold f_X1_energyOf
    rw [im_at (by rw [(im_al_n 20 iw_net_20).2.1]; omega), show (12 : Int32) = nI 12 from rfl, nI_add, im_m_rd (by omega), im_bind, hN.2.1 k (by omega)]
    exact ⟨_, σx, σm, ⟨rfl, rfl⟩, ⟨rfl, rfl⟩, h⟩
  · rw [if_neg c, if_neg c]
    exact ⟨_, σx, σm, ⟨rfl, rfl⟩, ⟨rfl, rfl⟩, h⟩
theorem sim_linkPart_ok (n : Nat) : sim_linkPart n im_RR := by
  intro p1 p2 σx σm h
  obtain ⟨hN, hW⟩ := im_0 h
  obtain ⟨-, ⟨N, N1, N2, N3, N4⟩, -⟩ := im_cnt hN hW
  unfold f_X5_linkPart f_X6_linkPart
  rw [show f_X1_has 20 (1 : Int32) p1 σx = f_X1_has 20 (nI 1) p1 σx from rfl, im_has iw_net_20 (by decide) (by omega) p1 N4, im_isLink p1 (by omega) N3, im_bind, im_b01, im_b01, im_within, im_in, im_b01, im_b01]
  by_cases c : ∃ k, k < N ∧ p1 = nI k
  · rw [if_pos c, if_pos c]
    by_cases d : 0 ≤ p2 ∧ p2 ≤ 2
    · rw [if_pos d, if_pos d]
      obtain ⟨k, hk, rfl⟩ := c
      obtain ⟨w, hw, rfl⟩ := im_rng 2 rfl (by decide) d
      rw [im_partOfLink iw_net_20 (by omega), im_ofLink (by omega), im_bind, hN.2.2.1 _ (by omega), Nat.add_assoc]
      exact ⟨_, σx, σm, ⟨rfl, rfl⟩, ⟨rfl, rfl⟩, h⟩
    · rw [if_neg d, if_neg d]
      exact ⟨_, σx, σm, ⟨rfl, rfl⟩, ⟨rfl, rfl⟩, h⟩
  · rw [if_neg c, if_neg c]
    exact ⟨_, σx, σm, ⟨rfl, rfl⟩, ⟨rfl, rfl⟩, h⟩
theorem sim_sensor_ok (n : Nat) : sim_sensor n im_RR := by
  intro p1 p2 σx σm h
  obtain ⟨hN, hW⟩ := im_0 h
  obtain ⟨-, -, ⟨N, N1, N2, N3, N4⟩, -⟩ := im_cnt hN hW
  unfold f_X5_sensor f_X6_sensor
  rw [show f_X1_has 20 (2 : Int32) p1 σx = f_X1_has 20 (nI 2) p1 σx from rfl, im_has iw_net_20 (by decide) (by omega) p1 N4, im_isSensor p1 (by omega) N3, im_bind, im_b01, im_b01, im_within, im_in, im_b01, im_b01]
  by_cases c : ∃ k, k < N ∧ p1 = nI k
  · rw [if_pos c, if_pos c]
    by_cases d : 0 ≤ p2 ∧ p2 ≤ 2
    · rw [if_pos d, if_pos d]
      obtain ⟨k, hk, rfl⟩ := c
      obtain ⟨w, hw, rfl⟩ := im_rng 2 rfl (by decide) d
      rw [im_sensorPart iw_net_20 (by omega), im_ofSensor (by omega), im_bind, hN.2.2.2.1 _ (by omega), Nat.add_assoc]
      exact ⟨_, σx, σm, ⟨rfl, rfl⟩, ⟨rfl, rfl⟩, h⟩
    · rw [if_neg d, if_neg d]
      exact ⟨_, σx, σm, ⟨rfl, rfl⟩, ⟨rfl, rfl⟩, h⟩
  · rw [if_neg c, if_neg c]
    exact ⟨_, σx, σm, ⟨rfl, rfl⟩, ⟨rfl, rfl⟩, h⟩
theorem im_hasWay {σx : iw_M} {I S : Nat} (hI : I ≤ 5) (hS : S ≤ 6) (h3 : σx (20 + 1) 3 = nI I) (h2 : σx (20 + 1) 2 = nI S) (p1 p2 : Int32) : f_X5_hasWay p1 p2 σx = if (∃ k, k < I ∧ p1 = nI k) ∧ (∃ k, k < S ∧ p2 = nI k) then 1 else 0 := by
  unfold f_X5_hasWay
  rw [show (3 : Int32) = nI 3 from rfl, show (2 : Int32) = nI 2 from rfl, im_has iw_net_20 (by decide) (by omega) p1 h3, im_has iw_net_20 (by decide) (by omega) p2 h2, im_b01, im_b01]
  by_cases c : ∃ k, k < I ∧ p1 = nI k
  · by_cases d : ∃ k, k < S ∧ p2 = nI k
    · rw [if_pos c, if_pos d, if_pos ⟨c, d⟩]
    · rw [if_pos c, if_neg d, if_neg (fun q => d q.2)]
  · rw [if_neg c, if_neg (fun q => c q.1)]
theorem sim_wayLength_ok (n : Nat) : sim_wayLength n im_RR := by
  intro p1 p2 σx σm h
  obtain ⟨hN, hW⟩ := im_0 h
  obtain ⟨-, -, ⟨S, S1, S2, S3, S4⟩, ⟨I, I1, I2, I3, I4⟩⟩ := im_cnt hN hW
  unfold f_X5_wayLength f_X6_wayLength
  rw [im_hasWay I1 S1 I4 S4, im_b01, im_isInterest p1 (by omega) I3, im_bind, im_b01]
  by_cases c : ∃ k, k < I ∧ p1 = nI k
  · rw [if_pos c, im_isSensor p2 (by omega) S3, im_bind, im_b01]
    by_cases d : ∃ k, k < S ∧ p2 = nI k
    · rw [if_pos d, if_pos ⟨c, d⟩]
      obtain ⟨i, hi, rfl⟩ := c
      obtain ⟨s, hs, rfl⟩ := d
      have q := im_WF_wa hW (i := i) (s := s) (by omega) (by omega)
      rw [im_wayOf, im_lenOf iw_net_20 (by omega), im_lengthOf (by omega), im_bind, (hN.2.2.2.2.2.1 i s (by omega) (by omega)).1]
      exact ⟨_, σx, σm, ⟨rfl, rfl⟩, ⟨rfl, rfl⟩, h⟩
    · rw [if_neg d, if_neg (fun q => d q.2)]
      exact ⟨_, σx, σm, ⟨rfl, rfl⟩, ⟨rfl, rfl⟩, h⟩
  · rw [if_neg c, if_neg (fun q => c q.1)]
    exact ⟨_, σx, σm, ⟨rfl, rfl⟩, ⟨rfl, rfl⟩, h⟩
theorem sim_wayNode_ok (n : Nat) : sim_wayNode n im_RR := by
  intro p1 p2 p3 σx σm h
  obtain ⟨hN, hW⟩ := im_0 h
  obtain ⟨-, -, ⟨S, S1, S2, S3, S4⟩, ⟨I, I1, I2, I3, I4⟩⟩ := im_cnt hN hW
  unfold f_X5_wayNode f_X6_wayNode
  rw [im_hasWay I1 S1 I4 S4, im_b01, im_isInterest p1 (by omega) I3, im_bind, im_b01]
  by_cases c : ∃ k, k < I ∧ p1 = nI k
  · rw [if_pos c, im_isSensor p2 (by omega) S3, im_bind, im_b01]
    by_cases d : ∃ k, k < S ∧ p2 = nI k
    · rw [if_pos d, if_pos ⟨c, d⟩]
      by_cases e : 0 ≤ p3
      · rw [if_pos e, if_pos e]
        obtain ⟨i, hi, rfl⟩ := c
        obtain ⟨s, hs, rfl⟩ := d
        have q := im_WF_wa hW (i := i) (s := s) (by omega) (by omega)
        obtain ⟨g1, g2, g3⟩ := hW.2.2.2.2.2 i s (by omega) (by omega)
        rw [im_wayOf, im_let, im_lenOf iw_net_20 (by omega), im_lengthOf (by omega), im_bind, (hN.2.2.2.2.2.1 i s (by omega) (by omega)).1, g1.2]
        obtain ⟨j, hj, rfl⟩ := nI_of (Int32.not_lt.mpr e)
        have g11 := g1.1
        by_cases f : im_tn (σm 85 (im_wa i s)) ≤ j
        · rw [if_pos (by rw [im_le (by omega) hj]; exact f), if_pos (by rw [im_le (by omega) hj]; exact f)]
          exact ⟨_, σx, σm, ⟨rfl, rfl⟩, ⟨rfl, rfl⟩, h⟩
        · rw [if_neg (by rw [im_le (by omega) hj]; exact f), if_neg (by rw [im_le (by omega) hj]; exact f), im_nodeOfX iw_net_20 (by omega), im_nodeOf (by omega), im_bind, (hN.2.2.2.2.2.1 i s (by omega) (by omega)).2 j (by omega)]
          exact ⟨_, σx, σm, ⟨rfl, rfl⟩, ⟨rfl, rfl⟩, h⟩
      · rw [if_neg e, if_neg e]
        exact ⟨_, σx, σm, ⟨rfl, rfl⟩, ⟨rfl, rfl⟩, h⟩
    · rw [if_neg d, if_neg (fun q => d q.2)]
      exact ⟨_, σx, σm, ⟨rfl, rfl⟩, ⟨rfl, rfl⟩, h⟩
  · rw [if_neg c, if_neg (fun q => c q.1)]
    exact ⟨_, σx, σm, ⟨rfl, rfl⟩, ⟨rfl, rfl⟩, h⟩
theorem sim_charge_ok (n : Nat) (hn : 4096 ≤ n) : sim_charge n im_RR := by
  intro p1 p2 σx σm h
  obtain ⟨hN, hW⟩ := im_0 h
  obtain ⟨⟨N, N1, N2, N3, N4⟩, -⟩ := im_cnt hN hW
  unfold f_X5_charge f_X6_charge
  rw [show f_X1_has 20 (0 : Int32) p1 σx = f_X1_has 20 (nI 0) p1 σx from rfl, im_has iw_net_20 (by decide) (by omega) p1 N4, im_isNode p1 (by omega) N3, im_bind, im_b01, im_b01, im_within, im_in, im_b01, im_b01]
  by_cases c : ∃ k, k < N ∧ p1 = nI k
  · rw [if_pos c, if_pos c]
    by_cases d : 0 ≤ p2 ∧ p2 ≤ 10000
    · rw [if_pos d, if_pos d]
      obtain ⟨k, hk, rfl⟩ := c
      obtain ⟨σm', s1, h', hr, -⟩ := im_rec hn h
      obtain ⟨hN', hW'⟩ := im_0 h'
      have e0 : im_tn (σm' 85 0) = N := by rw [hr 0 (by omega)]; exact N2
      generalize f_X0_record 20 σx = σx' at h' hN' ⊢
      unfold f_X1_energyOf f_X1_setEnergy
      rw [s1, im_bind, show (12 : Int32) = nI 12 from rfl, nI_add, im_m_rd (by omega), im_bind, im_wr (by rw [im_al85]; omega), im_bind]
      simp only [im_let]
      rw [im_at (by rw [(im_al_n 20 iw_net_20).2.1]; omega), im_put (by rw [(im_al_n 20 iw_net_20).2.1]; omega), hN'.2.1 k (by omega)]
      exact ⟨_, _, _, rfl, rfl, im_upd1 h' (fun b hb => iw_up_ne (by omega)) (by omega) (im_NR_en hN' (by omega)) (im_WF_ru hW' (Or.inl (by omega)))⟩
    · rw [if_neg d, if_neg d]
      exact ⟨_, σx, σm, rfl, rfl, h⟩
  · rw [if_neg c, if_neg c]
    exact ⟨_, σx, σm, rfl, rfl, h⟩
theorem im_isMeasure (x : Int32) : f_X6_isMeasure x = if -100 ≤ x ∧ x ≤ 100 then 1 else 0 := by
  unfold f_X6_isMeasure
  rw [im_in]
  by_cases h : -100 ≤ x ∧ x ≤ 100
  · rw [if_pos h]; rfl
  · rw [if_neg h]; rfl
theorem im_isKind (x : Int32) : f_X6_isKind x = if 0 ≤ x ∧ x ≤ 7 then 1 else 0 := by
  unfold f_X6_isKind
  rw [im_in]
  by_cases h : 0 ≤ x ∧ x ≤ 7
  · rw [if_pos h]; rfl
  · rw [if_neg h]; rfl
theorem sim_measure_ok (n : Nat) (hn : 4096 ≤ n) : sim_measure n im_RR := by
  intro p1 p2 σx σm h
  obtain ⟨hN, hW⟩ := im_0 h
  obtain ⟨-, -, ⟨N, N1, N2, N3, N4⟩, -⟩ := im_cnt hN hW
  unfold f_X5_measure f_X6_measure
  rw [show f_X1_has 20 (2 : Int32) p1 σx = f_X1_has 20 (nI 2) p1 σx from rfl, im_has iw_net_20 (by decide) (by omega) p1 N4, im_isSensor p1 (by omega) N3, im_bind, im_b01, im_b01, im_within, im_isMeasure, im_b01, im_b01]
  by_cases c : ∃ k, k < N ∧ p1 = nI k
  · rw [if_pos c, if_pos c]
    by_cases d : -100 ≤ p2 ∧ p2 ≤ 100
    · rw [if_pos d, if_pos d]
      obtain ⟨k, hk, rfl⟩ := c
      obtain ⟨σm', s1, h', hr, -⟩ := im_rec hn h
      obtain ⟨hN', hW'⟩ := im_0 h'
      have e0 : im_tn (σm' 85 2) = N := by rw [hr 2 (by omega)]; exact N2
      generalize f_X0_record 20 σx = σx' at h' hN' ⊢
      unfold f_X1_setValue
      rw [s1, im_bind, show (2 : Int32) = nI 2 from rfl, im_ofSensor (by omega), im_bind, show (82 : Int32) = nI 82 from rfl, show (3 : Int32) = nI 3 from rfl]
      simp only [im_let, pk_mul, nI_add]
      rw [im_wr (by rw [im_al85]; omega), im_bind, im_sensorPart iw_net_20 (by omega), im_put (by rw [(im_al_n 20 iw_net_20).2.2.2.1]; omega), hN'.2.2.2.1 _ (by omega), Nat.mul_comm k 3, Nat.add_assoc]
      exact ⟨_, _, _, rfl, rfl, im_upd1 h' (fun b hb => iw_up_ne (by omega)) (by omega) (im_NR_se hN' hW' (by omega)) (im_WF_ru hW' (Or.inr (Or.inl (by omega))))⟩
    · rw [if_neg d, if_neg d]
      exact ⟨_, σx, σm, rfl, rfl, h⟩
  · rw [if_neg c, if_neg c]
    exact ⟨_, σx, σm, rfl, rfl, h⟩
