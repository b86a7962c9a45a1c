/-! textFault and build -/
theorem im_RR_text {σx σx' σm σm' : iw_M} (h : im_RR σx σm) (hx : im_kX σx σx') (m1 : σm' 84 1 = σm 84 1) (m11 : σm' 84 11 = σm 84 11) (m92 : σm' 92 = σm 92) (mr : ∀ k, k < 2790 → σm' 85 k = σm 85 k) : im_RR σx' σm' := by
  obtain ⟨h1, h2, ⟨sz, od, s1, s2, s3, s4, s5, s6⟩, ⟨len, t1, t2, t3, t4⟩⟩ := h
  have sl : ∀ t k, t ≤ 5 → k < 465 → im_sl σm' t k = im_sl σm t k := fun t k ht hk => mr _ (by omega)
  refine ⟨im_NR_row (im_NR_congr h1 (fun j j1 j2 => hx.1 _ (by omega) (by omega))) h2 (fun k hk => sl 0 k (by omega) hk), im_WF_row h2 (fun k hk => sl 0 k (by omega) hk), ⟨sz, od, s1, s2, by rw [hx.1 4 (by decide) (by decide)]; exact s3, by rw [hx.1 4 (by decide) (by decide)]; exact s4, m1.trans s5, fun j hj => ?_⟩, ⟨len, t1, hx.2.trans t2, m11.trans t3, fun k hk => by rw [hx.1 7 (by decide) (by decide), m92]; exact t4 k hk⟩⟩
  obtain ⟨g1, g2⟩ := s6 j hj
  exact ⟨im_NR_row (im_NR_congr g1 (fun i i1 i2 => hx.1 _ (by omega) (by omega))) g2 (fun k hk => sl (j + 1) k (by omega) hk), im_WF_row g2 (fun k hk => sl (j + 1) k (by omega) hk)⟩
theorem im_texts {σx σm : iw_M} {len : Nat} (h : im_text σx σm len) : im_tX len (fun k => im_tn (σx 7 k)) σx ∧ im_tM len (fun k => im_tn (σx 7 k)) σm := by
  obtain ⟨t1, t2, t3, t4⟩ := h
  exact ⟨⟨t1, t2, fun k hk => (t4 k hk).1⟩, ⟨t1, t3, fun k hk => ⟨(t4 k hk).1.1, (t4 k hk).2.trans (t4 k hk).1.2⟩⟩⟩
theorem im_tf {n : Nat} (hn : 4096 ≤ n) {σx σm : iw_M} (h : im_RR σx σm) : (∃ τx τm, f_X4_read n 20 σx = some (1, τx) ∧ f_X6_textFault n σm = some (-1000, τm) ∧ im_RR τx τm ∧ im_kX σx τx) ∨ ∃ τx τm F, f_X4_read n 20 σx = some (0, τx) ∧ f_X6_textFault n σm = some (nI F, τm) ∧ F ≤ 120 ∧ τx 6 4 = nI F ∧ im_RR τx τm := by
  obtain ⟨hN, hW⟩ := im_0 h
  obtain ⟨-, -, -, ⟨len, T⟩⟩ := id h
  have lo : ∀ k, k < 2790 → im_cp σm 0 6 0 85 k = σm 85 k := fun k hk => by rw [im_cp_e, if_neg (by omega)]
  have hi : ∀ k, k < 465 → im_cp σm 0 6 0 85 (2790 + k) = σm 85 k := (im_fo_cp σm).1
  have o : ∀ r, r ≠ 85 → im_cp σm 0 6 0 r = σm r := fun r hr => im_cp_o hr
  obtain ⟨X, M⟩ := im_texts (σm := im_cp σm 0 6 0) (show im_text σx (im_cp σm 0 6 0) len from ⟨T.1, T.2.1, by rw [o 84 (by decide)]; exact T.2.2.1, fun k hk => by rw [o 92 (by decide)]; exact T.2.2.2 k hk⟩)
  have fin : ∀ τx τm, im_kX σx τx → im_kR (im_cp σm 0 6 0) τm → im_RR τx (im_cp τm 6 0 0) := by
    intro τx τm kx kr
    refine im_RR_text h kx ?_ ?_ ?_ (fun k hk => ?_)
    · rw [im_cp_o (by decide), kr.2.1 1 (by decide) (by decide) (by decide), o 84 (by decide)]
    · rw [im_cp_o (by decide), kr.2.1 11 (by decide) (by decide) (by decide), o 84 (by decide)]
    · rw [im_cp_o (by decide), kr.1 92 (by decide) (by decide), o 92 (by decide)]
    · rw [im_cp_e]
      by_cases z : k < 465
      · rw [if_pos (by omega), show 465 * 6 + (k - 465 * 0) = 2790 + k by omega, kr.2.2 _ (by omega), hi k z]
      · rw [if_neg (by omega), kr.2.2 _ (by omega), lo k hk]
  rcases im_jread hn X M (im_NR_row hN hW (fun k hk => lo k (by omega))) (im_WF_row hW (fun k hk => lo k (by omega))) with ⟨τx, τm, J, a1, a2, a3, a4, a5, a6, a7, a8⟩ | ⟨τx, τm, F, a1, a2, a3, a4, a5, a6, a7⟩
  · refine Or.inl ⟨τx, im_cp τm 6 0 0, a1, ?_, fin τx τm a7 a8, a7⟩
    unfold f_X6_textFault
    rw [im_cp06 hn, im_bind, a2, im_b2, im_cp60 hn, im_bind, if_neg (by decide)]
  · refine Or.inr ⟨τx, im_cp τm 6 0 0, F, a1, ?_, a3, a4, fin τx τm a6 a7⟩
    unfold f_X6_textFault
    rw [im_cp06 hn, im_bind, a2, im_b2, im_cp60 hn, im_bind, if_pos rfl, im_cp_o (by decide), a5]
theorem sim_textFault_ok (n : Nat) (hn : 4096 ≤ n) : sim_textFault n im_RR := by
  intro σx σm h
  unfold f_X5_textFault
  rcases im_tf hn h with ⟨τx, τm, a1, a2, a3, a4⟩ | ⟨τx, τm, F, a1, a2, a3, a4, a5⟩
  · rw [a1, im_b2, if_neg (by decide)]
    exact ⟨_, _, _, rfl, a2, a3⟩
  · rw [a1, im_b2, if_pos rfl, a4]
    exact ⟨_, _, _, rfl, a2, a5⟩
theorem sim_build_ok (n : Nat) (hn : 4096 ≤ n) : sim_build n im_RR := by
  intro σx σm h
  unfold f_X5_build f_X6_build
  rcases im_tf hn h with ⟨τx, τm, a1, a2, a3, a4⟩ | ⟨τx, τm, F, a1, a2, a3, a4, a5⟩
  · obtain ⟨-, -, ⟨sz, od, s1, s2, s3, s4, s5, s6⟩, -⟩ := id a3
    obtain ⟨od', c2, -, -, -, d1, d2, d3, -⟩ := im_record s1 s2 s3 s4
    have hc2 : 44 ≤ c2 := by
      by_cases z : sz < 5
      · have := (d1 z).2; omega
      · have := (d2 (by omega)).2; omega
    have fr : ∀ b, b ≠ 4 → b < 44 → f_X0_record 20 τx b = τx b := fun b b1 b2 => d3 b b1 (fun j j1 j2 => by omega)
    obtain ⟨σm2, v1, v2, v3, v4⟩ := im_rec hn a3
    rw [a1, im_b2, if_neg (by decide), im_let, im_let]
    generalize f_X0_record 20 τx = ω at v2 v4 fr ⊢
    obtain ⟨hN2, hW2⟩ := im_0 v2
    obtain ⟨-, -, -, ⟨len, T⟩⟩ := id v2
    obtain ⟨X, M⟩ := im_texts T
    have X' : im_tX len (fun k => im_tn (ω 7 k)) σx := by
      refine ⟨X.1, ?_, fun k hk => ?_⟩
      · have := X.2.1
        rw [fr 6 (by decide) (by decide), a4.2] at this
        exact this
      · have := X.2.2 k hk
        refine ⟨this.1, ?_⟩
        rw [← this.2, fr 7 (by decide) (by decide), a4.1 7 (by decide) (by decide)]
    have N' : im_NR σx 20 (σm2 85) := im_NR_congr hN2 (fun j j1 j2 => by rw [fr _ (by omega) (by omega), a4.1 _ (by omega) (by omega)])
    rcases im_jread hn X' M N' hW2 with ⟨τx', τm', J, b1, b2, b3, b4, b5, b6, b7, b8⟩ | ⟨τx', τm', F, b1, b2, -⟩
    · rw [a1] at b1
      have eτ : τx = τx' := (Prod.mk.inj (Option.some.inj b1)).2
      rw [← eτ] at b3 b5
      obtain ⟨k1, k2⟩ := im_copyFrom iw_net_20 iw_net_36 (by decide) ω
      have N36 : im_NR ω 36 (τm' 85) := im_NR_congr b3 (fun j j1 j2 => fr _ (by omega) (by omega))
      have i3 : f_X1_copyFrom 20 36 ω 6 3 = nI J := by rw [k1 6 (fun j j1 j2 => by omega), fr 6 (by decide) (by decide)]; exact b5
      rw [i3, a2, im_b2, if_pos rfl, v1, im_bind, b2, im_b2, b6]
      exact ⟨_, _, _, rfl, rfl, im_upd v2 (fun b hb => k1 b (fun j j1 j2 => by omega)) (b8.2.1 1 (by decide) (by decide) (by decide)) (b8.2.1 11 (by decide) (by decide) (by decide)) (b8.1 92 (by decide) (by decide)) (fun k k1 _ => b8.2.2 k k1) (by rw [im_sl0]; exact im_NR_cp iw_net_20 b4 N36 k2) (by rw [im_sl0]; exact b4)⟩
    · rw [a1] at b1
      have e := (Prod.mk.inj (Option.some.inj b1)).1
      exact absurd e (by decide)
  · rw [a1, im_b2, if_pos rfl, a2, im_b2, if_neg (im_neN (by omega))]
    exact ⟨_, _, _, rfl, rfl, a5⟩
