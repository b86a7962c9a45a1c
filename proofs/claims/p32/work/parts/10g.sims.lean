theorem im_sm_mono {x : Int32} {a b : Nat} (h : im_sm x a) (hab : a ≤ b) : im_sm x b := ⟨Nat.lt_of_lt_of_le h.1 hab, h.2⟩
/-- all but the period -/
theorem im_WF_4 {ρ : Nat → Int32} (hw : im_WF ρ) {k : Nat} (h1 : 1 ≤ k) (h2 : k ≤ 50) : im_WF (im_ru ρ 4 (nI k)) := by
  obtain ⟨⟨a0, a1, a2, a3, a4, a5⟩, h2', h3, h4, h5, h6⟩ := id hw
  have e : ∀ j, j ≠ 4 → im_ru ρ 4 (nI k) j = ρ j := fun j hj => im_ru_ne hj
  unfold im_WF im_lk
  rw [e 0 (by omega), e 1 (by omega), e 2 (by omega), e 3 (by omega), im_ru_eq, im_tn_nI (by omega)]
  refine ⟨⟨a0, a1, a2, a3, im_sm_nI (by omega) (by decide), by omega⟩, fun l a => ?_, fun l l' x y a a' p q => ?_, fun s a => ?_, fun i a => ?_, fun i s a b => ?_⟩
  · rw [e _ (by omega), e _ (by omega), e _ (by omega)]; exact h2' l a
  · rw [e _ (by omega), e _ (by omega)] at p q
    exact h3 l l' x y a a' p q
  · rw [e _ (by omega)]; exact h4 s a
  · rw [e _ (by omega)]; exact h5 i a
  · have q2 := im_wa_ge i s
    obtain ⟨g1, g2, g3⟩ := h6 i s a b
    rw [e _ (by omega)]
    refine ⟨g1, fun k hk => by rw [e _ (by omega)]; exact g2 k hk, fun k k' hk hk' hh => ?_⟩
    rw [e _ (by omega), e _ (by omega)] at hh
    exact g3 k k' hk hk' hh
theorem im_rng1 {x : Int32} {a b : Nat} (hb : b < 2 ^ 31) (ha : a < 2 ^ 31) (h : nI a ≤ x ∧ x ≤ nI b) : ∃ w, a ≤ w ∧ w ≤ b ∧ x = nI w := by
  have h0 : ¬ x < 0 := by
    have h1 := Int32.le_iff_toInt_le.mp h.1
    rw [nI_toInt ha] at h1
    rw [Int32.lt_iff_toInt_lt, Int32.toInt_zero]
    omega
  obtain ⟨j, hj, rfl⟩ := nI_of h0
  rw [im_le ha hj, im_le hj hb] at h
  exact ⟨j, h.1, h.2, rfl⟩
theorem sim_setPeriod_ok (n : Nat) (hn : 4096 ≤ n) : sim_setPeriod n im_RR := by
  intro p1 σx σm h
  unfold f_X5_setPeriod f_X6_setPeriod
  rw [im_within, im_in, im_b01, im_b01]
  by_cases d : 1 ≤ p1 ∧ p1 ≤ 50
  · rw [if_pos d, if_pos d]
    obtain ⟨w, w1, w2, rfl⟩ := im_rng1 (a := 1) (b := 50) (by decide) (by decide) d
    obtain ⟨σm', s1, h', hr, -⟩ := im_rec hn h
    obtain ⟨hN', hW'⟩ := im_0 h'
    generalize f_X0_record 20 σx = σx' at h' hN' ⊢
    unfold f_X1_setNumber
    rw [s1, im_bind, show (4 : Int32) = nI 4 from rfl, im_m_rd (by decide), im_bind, im_wr (by decide), im_bind]
    simp only [im_let]
    rw [im_num n iw_net_20 (by decide) (by decide), im_bind, im_put (by rw [(im_al_n 20 iw_net_20).1]; decide), hN'.1 4 (by decide) (by decide)]
    exact ⟨_, _, _, rfl, rfl, im_upd1 h' (fun b hb => iw_up_ne (by omega)) (by omega) (im_NR_num hN' (by omega) (by omega)) (im_WF_4 hW' w1 w2)⟩
  · rw [if_neg d, if_neg d]
    exact ⟨_, σx, σm, rfl, rfl, h⟩
/-- the text alone is changed -/
theorem sim_undo_ok (n : Nat) (hn : 4096 ≤ n) : sim_undo n im_RR := by
  intro σx σm h
  obtain ⟨h1, h2, ⟨sz, od, g1, g2, g3, g4, g5, g6⟩, len, t1, t2, t3, t4⟩ := h
  unfold f_X5_undo f_X6_undo f_X0_restore
  by_cases e : sz = 0
  · rw [if_pos (by rw [g3, e]; decide), if_pos (by rw [g5, e]; rfl)]
    exact ⟨_, σx, σm, rfl, rfl, h1, h2, ⟨sz, od, g1, g2, g3, g4, g5, g6⟩, len, t1, t2, t3, t4⟩
  · have m1 : nI sz - 1 = nI (sz - 1) := by rw [show (1 : Int32) = nI 1 from rfl, pk_sub (by omega)]
    rw [if_neg (by rw [g3]; exact nI_nle (by omega) (by omega)), if_neg (by rw [g5]; exact nI_ne0 (by omega) (by omega)), g3, m1, im_stateAt g4 (by omega), g5, show (0 : Int32) = nI 0 from rfl, im_copies hn (by omega) (by omega) (by omega), im_bind]
    have hmod := Nat.mod_lt (od + (sz - 1)) (show 0 < 5 by decide)
    obtain ⟨k1, k2⟩ := im_copyFrom iw_net_20 (im_net44 hmod) (by omega) σx
    have c4 : f_X1_copyFrom 20 (44 + 8 * ((od + (sz - 1)) % 5)) σx 4 2 = nI sz := by rw [k1 4 (fun j _ _ => by omega)]; exact g3
    have c5 : im_cp σm sz 0 0 84 1 = nI sz := by rw [im_cp_o (by decide)]; exact g5
    unfold iw_on
    simp only [im_let]
    unfold iw_let2
    simp only []
    rw [c4, c5, m1, im_ups, im_ups, if_neg (by decide)]
    obtain ⟨a, b⟩ := g6 (sz - 1) (by omega)
    have e1 : sz - 1 + 1 = sz := by omega
    rw [e1] at a b
    have hsl : ∀ (τ : iw_M) (j : Nat) (v : Int32), im_sl (iw_up τ 84 j v) = im_sl τ := fun τ j v => by
      funext t k
      unfold im_sl
      rw [iw_up_ne (by decide)]
    have hs0 : ∀ k, k < 465 → im_sl (iw_up (im_cp σm sz 0 0) 84 1 (nI (sz - 1))) 0 k = im_sl σm sz k := fun k hk => by
      rw [hsl, im_cp_sl hk, if_pos rfl]
    refine ⟨_, _, _, rfl, rfl, ?_, im_WF_row b hs0, ⟨sz - 1, od, by omega, g2, im_ups, ?_, im_ups, fun j hj => ?_⟩, len, t1, ?_, ?_, fun k hk => ?_⟩
    · refine im_NR_congr (σ := f_X1_copyFrom 20 (44 + 8 * ((od + (sz - 1)) % 5)) σx) ?_ (fun j _ _ => iw_up_ne (by omega))
      exact im_NR_row (im_NR_cp iw_net_20 b a (fun j h1 h2 k hk => k2 j h1 h2 k hk)) b hs0
    · rw [im_upn (by decide), k1 4 (fun j _ _ => by omega)]; exact g4
    · obtain ⟨a', b'⟩ := g6 j (by omega)
      have hs : ∀ k, k < 465 → im_sl (iw_up (im_cp σm sz 0 0) 84 1 (nI (sz - 1))) (j + 1) k = im_sl σm (j + 1) k := fun k hk => by
        rw [hsl, im_cp_sl hk, if_neg (by omega)]
      refine ⟨im_NR_row (im_NR_congr a' (fun i _ _ => ?_)) b' hs, im_WF_row b' hs⟩
      rw [iw_up_ne (by omega), k1 _ (fun j' _ _ => by omega)]
    · rw [im_upo (by decide), k1 6 (fun j _ _ => by omega)]; exact t2
    · rw [im_upn (by decide), im_cp_o (by decide)]; exact t3
    · rw [iw_up_ne (by decide), iw_up_ne (by decide), k1 7 (fun j _ _ => by omega), im_cp_o (by decide)]
      exact t4 k hk
