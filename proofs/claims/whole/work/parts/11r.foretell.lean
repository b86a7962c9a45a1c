/-! rounds, and what is foretold -/
theorem sim_rounds_ok (n : Nat) (hn : 4096 ≤ n) : sim_rounds n im_RR := by
  intro p1 σx σm h
  obtain ⟨hN, hW⟩ := im_0 h
  unfold f_X5_rounds f_X6_rounds
  rw [im_within, im_in, im_b01, im_b01]
  by_cases d : 1 ≤ p1 ∧ p1 ≤ 100
  · rw [if_pos d, if_pos d]
    obtain ⟨w, w1, w2, rfl⟩ := im_rng1 (a := 1) (b := 100) (by decide) (by decide) d
    have n5 : f_X1_number n 20 (5 : Int32) σx = some (σm 85 5) := (im_num n iw_net_20 (j := 5) (by omega) (by omega)).trans (congrArg some (hN.1 5 (by omega) (by omega)))
    have r5 : iw_rd σm 85 (5 : Int32) = some (σm 85 5) := im_m_rd (k := 5) (by decide)
    rw [n5, im_bind, r5, im_bind]
    by_cases e : σm 85 5 + nI w ≤ 100000
    · rw [if_pos e, if_pos e]
      obtain ⟨σm', s1, h', hr, -⟩ := im_rec hn h
      obtain ⟨hN', hW'⟩ := im_0 h'
      generalize f_X0_record 20 σx = σx' at h' hN' ⊢
      obtain ⟨σ1, a1, a2, a3, a4, a5⟩ := im_start hn hW' hN'
      obtain ⟨c, τ, τm, c1, b1, b2, b3, b4, b5⟩ := im_runs hn (N := w) (by omega) (im_run0_row hW' a2 a3 a4 (σm := σm') (fun k hk => rfl))
      obtain ⟨k1, k2⟩ := im_copyFrom iw_net_20 iw_net_28 (by decide) τ
      rw [s1, im_bind, im_let, a1, im_bind, b1, im_b2, im_let, b2, im_b2]
      refine ⟨_, _, _, rfl, rfl, im_upd h' (fun b hb => ?_) (b5.2.1 1 (by decide) (by decide)) (b5.2.1 11 (by decide) (by decide)) (b5.1 92 (by decide)) (fun k k1 _ => b5.2.2 k k1) (by rw [im_sl0]; exact im_NR_cp iw_net_20 b3.2.1 b3.1 k2) (by rw [im_sl0]; exact b3.2.1)⟩
      rw [k1 b (fun j j1 j2 => by omega), b4 b (by omega) (by omega) (by omega) (by omega), a5 b (by omega) (by omega)]
    · rw [if_neg e, if_neg e]
      exact ⟨_, _, _, rfl, rfl, h⟩
  · rw [if_neg d, if_neg d]
    exact ⟨_, _, _, rfl, rfl, h⟩
/-- foretelling: slot 6 keeps the present state -/
def im_fy (σ σ' : iw_M) : Prop := ∀ r, r ≠ 2 → r ≠ 3 → (r < 15 ∨ 19 < r) → (r < 29 ∨ 35 < r) → σ' r = σ r
def im_fo (σ τ : iw_M) : Prop := (∀ k, k < 465 → τ 85 (2790 + k) = σ 85 k) ∧ (∀ k, 465 ≤ k → k < 2790 → τ 85 k = σ 85 k) ∧ (∀ j, j ≠ 6 → j ≠ 8 → τ 84 j = σ 84 j) ∧ τ 92 = σ 92
theorem im_cp_e {σ : iw_M} {a b k : Nat} : im_cp σ a b 0 85 k = if 465 * b ≤ k ∧ k < 465 * b + 465 then σ 85 (465 * a + (k - 465 * b)) else σ 85 k := by
  unfold im_cp
  rw [if_pos rfl]
  rfl
theorem im_fo_cp (σ : iw_M) : im_fo σ (im_cp σ 0 6 0) := by
  refine ⟨fun k hk => ?_, fun k k1 k2 => ?_, fun j _ _ => by rw [im_cp_o (by decide)], im_cp_o (by decide)⟩
  · rw [im_cp_e, if_pos (by omega), show 465 * 0 + (2790 + k - 465 * 6) = k by omega]
  · rw [im_cp_e, if_neg (by omega)]
theorem im_fo_t {σ τ τ' : iw_M} (h : im_fo σ τ) (h' : im_fm τ τ') : im_fo σ τ' :=
  ⟨fun k hk => by rw [h'.2.2 _ (by omega)]; exact h.1 k hk, fun k k1 k2 => by rw [h'.2.2 _ k1]; exact h.2.1 k k1 k2, fun j j1 j2 => by rw [h'.2.1 j j1 j2]; exact h.2.2.1 j j1 j2, by rw [h'.1 92 (by decide)]; exact h.2.2.2⟩
theorem im_fo_end {σx σx' σm τm : iw_M} (h : im_RR σx σm) (hf : im_fo σm τm) (hx : im_fy σx σx') : im_RR σx' (im_cp τm 6 0 0) := by
  obtain ⟨hN, hW⟩ := im_0 h
  have hr : ∀ k, k < 465 → im_cp τm 6 0 0 85 k = σm 85 k := fun k hk => by rw [im_cp_e, if_pos (by omega), show 465 * 6 + (k - 465 * 0) = 2790 + k by omega]; exact hf.1 k hk
  refine im_upd h (fun b hb => hx b (by omega) (by omega) (by omega) (by omega)) ?_ ?_ ?_ (fun k k1 k2 => ?_) ?_ ?_
  · rw [im_cp_o (by decide)]; exact hf.2.2.1 1 (by decide) (by decide)
  · rw [im_cp_o (by decide)]; exact hf.2.2.1 11 (by decide) (by decide)
  · rw [im_cp_o (by decide)]; exact hf.2.2.2
  · rw [im_cp_e, if_neg (by omega)]; exact hf.2.1 k k1 k2
  · rw [im_sl0]
    exact im_NR_row (im_NR_congr hN (fun j j1 j2 => hx _ (by omega) (by omega) (by omega) (by omega))) hW hr
  · rw [im_sl0]
    exact im_WF_row hW hr
theorem im_cp06 {n : Nat} (hn : 4096 ≤ n) (σ : iw_M) : f_X6_copies n (0 : Int32) (6 : Int32) σ = some (im_cp σ 0 6 0) := im_copies (a := 0) (b := 6) hn (by decide) (by decide) (by decide) σ
theorem im_cp60 {n : Nat} (hn : 4096 ≤ n) (σ : iw_M) : f_X6_copies n (6 : Int32) (0 : Int32) σ = some (im_cp σ 6 0 0) := im_copies (a := 6) (b := 0) hn (by decide) (by decide) (by decide) σ
theorem sim_willDeliver_ok (n : Nat) (hn : 4096 ≤ n) : sim_willDeliver n im_RR := by
  intro p1 σx σm h
  obtain ⟨hN, hW⟩ := im_0 h
  unfold f_X5_willDeliver f_X6_willDeliver
  rw [im_within, im_in, im_b01, im_b01]
  by_cases d : 1 ≤ p1 ∧ p1 ≤ 500
  · rw [if_pos d, if_pos d]
    obtain ⟨w, w1, w2, rfl⟩ := im_rng1 (a := 1) (b := 500) (by decide) (by decide) d
    obtain ⟨σ1, a1, a2, a3, a4, a5⟩ := im_start hn hW hN
    obtain ⟨c, τ, τm, c1, b1, b2, b3, b4, b5⟩ := im_runs hn (N := w) w2 (im_run0_row hW a2 a3 a4 (σm := im_cp σm 0 6 0) (fun k hk => by rw [im_cp_e, if_neg (by omega)]))
    rw [a1, im_bind, b1, im_b2, im_cp06 hn, im_bind, b2, im_b2, im_cp60 hn, im_bind]
    exact ⟨_, _, _, rfl, rfl, im_fo_end h (im_fo_t (im_fo_cp σm) b5) (fun r r1 r2 r3 r4 => by rw [b4 r r1 r2 (by omega) r4, a5 r (by omega) r4])⟩
  · rw [if_neg d, if_neg d]
    exact ⟨_, _, _, rfl, rfl, h⟩
theorem im_fd_L {n : Nat} (hn : 4096 ≤ n) {B : Nat} (hB : B ≤ 10) (km : Int32 → iw_M → Option (Int32 × iw_M)) : ∀ (d j nn : Nat) (σx σm : iw_M), j + d = 500 → d + 1 < nn → im_run0 σx σm → ∃ r σx' σm', f_X5_firstDeath_L23 n (nI B) f_X5_firstDeath_X63_23 nn (nI (j + 1)) σx = some (r, σx') ∧ f_X6_firstDeath_L18 n (nI B) km nn (nI j) (-1000) σm = km r σm' ∧ im_fx σx σx' ∧ im_fm σm σm' := by
  intro d
  induction d with
  | zero =>
    intro j nn σx σm h1 h2 R
    obtain ⟨nn, rfl⟩ : ∃ q, nn = q + 1 := ⟨nn - 1, by omega⟩
    refine ⟨-1000, σx, σm, ?_, ?_, im_fx_0 _, im_fm_0 _⟩
    · rw [s_X5_firstDeath_23]
      unfold f_X5_firstDeath_B23
      rw [if_pos (by rw [im_lit 500, im_lt (by decide) (by omega)]; omega)]
      rfl
    · rw [s_X6_firstDeath_18]
      unfold f_X6_firstDeath_B18
      rw [if_pos (by rw [im_lit 500, im_le (by decide) (by omega)]; omega)]
  | succ d ih =>
    intro j nn σx σm h1 h2 R
    obtain ⟨nn, rfl⟩ : ∃ q, nn = q + 1 := ⟨nn - 1, by omega⟩
    obtain ⟨c, τ, τm, x1, x2, x3, x4, x5⟩ := im_run1 hn R
    have A1 := im_num6 hn iw_net_28 x3.2.1 x3.1
    have A2 := im_living hn x3.2.1
    have ca := im_cn_le (im_al (τm 85)) (im_tn (τm 85 0))
    have b0 := x3.2.1.1.1.1
    have g1 : ¬ (500 : Int32) < nI (j + 1) := by rw [im_lit 500, im_lt (by decide) (by omega)]; omega
    have g2 : ¬ (500 : Int32) ≤ nI j := by rw [im_lit 500, im_le (by decide) (by omega)]; omega
    rw [s_X5_firstDeath_23, s_X6_firstDeath_18]
    unfold f_X5_firstDeath_B23 f_X6_firstDeath_B18 f_X6_firstDeath_J56
    rw [if_neg g1, x1, im_b2, A1, im_bind, if_neg g2, if_pos rfl, x2, im_b2, im_let, im_let, A2, im_bind, nI_1 j, nI_1 (j + 1)]
    by_cases q : nI B ≤ nI (im_cn (im_al (τm 85)) (im_tn (τm 85 0)))
    · rw [if_pos q, if_pos q]
      obtain ⟨r, σx', σm', y1, y2, y3, y4⟩ := ih (j + 1) nn τ τm (by omega) (by omega) x3
      exact ⟨r, σx', σm', y1, y2, im_fx_t x4 y3, im_fm_t x5 y4⟩
    · obtain ⟨nn, rfl⟩ : ∃ q, nn = q + 1 := ⟨nn - 1, by omega⟩
      rw [if_neg q, if_neg q]
      refine ⟨nI (j + 1), τ, τm, rfl, ?_, x4, x5⟩
      rw [s_X6_firstDeath_18]
      unfold f_X6_firstDeath_B18
      by_cases z : (500 : Int32) ≤ nI (j + 1)
      · rw [if_pos z]
      · rw [if_neg z, if_neg (im_neN (by omega))]
theorem sim_firstDeath_ok (n : Nat) (hn : 4096 ≤ n) : sim_firstDeath n im_RR := by
  intro σx σm h
  obtain ⟨hN, hW⟩ := im_0 h
  have lo : ∀ k, k < 465 → im_cp σm 0 6 0 85 k = σm 85 k := fun k hk => by rw [im_cp_e, if_neg (by omega)]
  have hN1 := im_NR_row hN hW lo
  have hW1 := im_WF_row hW lo
  have b0 := hW1.1.1.1
  have ca := im_cn_le (im_al (im_cp σm 0 6 0 85)) (im_tn (im_cp σm 0 6 0 85 0))
  obtain ⟨σ1, a1, a2, a3, a4, a5⟩ := im_start hn hW hN
  obtain ⟨r, τ, τm, b1, b2, b3, b4⟩ := im_fd_L hn (B := im_cn (im_al (im_cp σm 0 6 0 85)) (im_tn (im_cp σm 0 6 0 85 0))) (by omega) (f_X6_firstDeath_X60_18 n) 500 0 n σ1 (im_cp σm 0 6 0) (by omega) (by omega) (im_run0_row hW a2 a3 a4 lo)
  refine ⟨r, τ, im_cp τm 6 0 0, ?_, ?_, im_fo_end h (im_fo_t (im_fo_cp σm) b4) (fun r r1 r2 r3 r4 => by rw [b3 r r1 r2 (by omega) r4, a5 r (by omega) r4])⟩
  · unfold f_X5_firstDeath
    rw [im_num6 hn iw_net_20 hW1 hN1, im_bind, a1, im_bind]
    exact b1
  · unfold f_X6_firstDeath
    rw [im_cp06 hn, im_bind, im_living hn hW1, im_bind, show ∀ v, f_X6_firstDeath_L18 n v (f_X6_firstDeath_X60_18 n) n (0 : Int32) (-1000 : Int32) (im_cp σm 0 6 0) = f_X6_firstDeath_L18 n v (f_X6_firstDeath_X60_18 n) n (nI 0) (-1000 : Int32) (im_cp σm 0 6 0) from fun _ => rfl, b2]
    unfold f_X6_firstDeath_X60_18
    rw [im_cp60 hn, im_bind]
/-- the most that was delivered so far, on both sides -/
def im_ms (a b : Int32) : Prop := (a = -1 ∧ b = -1000) ∨ ∃ c, c ≤ 15000 ∧ a = nI c ∧ b = nI c
theorem im_ms_le {a b : Int32} (h : im_ms a b) {c : Nat} (hc : c ≤ 15000) : (nI c ≤ a) = (nI c ≤ b) := by
  have t := nI_toInt (show c < 2 ^ 31 by omega)
  rcases h with ⟨rfl, rfl⟩ | ⟨x, x1, rfl, rfl⟩
  · apply propext
    rw [Int32.le_iff_toInt_le, Int32.le_iff_toInt_le, t, show (-1 : Int32).toInt = -1 by decide, show (-1000 : Int32).toInt = -1000 by decide]
    omega
  · rfl
theorem im_bp_L {n : Nat} (hn : 4096 ≤ n) {N : Nat} (hN5 : N ≤ 500) {ρ0 : Nat → Int32} (hw : im_WF ρ0) (kx km : Int32 → iw_M → Option (Int32 × iw_M)) : ∀ (d p nn : Nat) (σx σm : iw_M) (b mx mm : Int32), 1 ≤ p → p + d = 51 → d < nn → im_NR σx 20 ρ0 → (∀ k, k < 465 → σm 85 (2790 + k) = ρ0 k) → im_ms mx mm → ∃ r σx' σm', f_X5_bestPeriod_L22 n (nI N) kx nn b mx (nI p) σx = kx r σx' ∧ f_X6_bestPeriod_L31 n (nI N) km nn b mm (nI p) σm = km r σm' ∧ im_fy σx σx' ∧ im_fm σm σm' := by
  have hc : iw_net 28 := iw_net_28
  have a1 := (im_al_n 28 hc).1
  intro d
  induction d with
  | zero =>
    intro p nn σx σm b mx mm p1 h1 h2 h hs ms
    obtain ⟨nn, rfl⟩ : ∃ q, nn = q + 1 := ⟨nn - 1, by omega⟩
    have g : (50 : Int32) < nI p := by rw [im_lit 50, im_lt (by decide) (by omega)]; omega
    refine ⟨b, σx, σm, ?_, ?_, fun _ _ _ _ _ => rfl, im_fm_0 _⟩
    · rw [s_X5_bestPeriod_22]
      unfold f_X5_bestPeriod_B22
      rw [if_pos g]
    · rw [s_X6_bestPeriod_31]
      unfold f_X6_bestPeriod_B31
      rw [if_pos g]
  | succ d ih =>
    intro p nn σx σm b mx mm p1 h1 h2 h hs ms
    obtain ⟨nn, rfl⟩ : ∃ q, nn = q + 1 := ⟨nn - 1, by omega⟩
    have g : ¬ (50 : Int32) < nI p := by rw [im_lit 50, im_lt (by decide) (by omega)]; omega
    obtain ⟨σ1, e1, e2, e3, e4, e5⟩ := im_start hn hw h
    have wp := im_WF_4 hw p1 (show p ≤ 50 by omega)
    have d4 : im_dl (im_ru ρ0 4 (nI p)) = im_dl ρ0 := im_dl_c hw (fun k hk => im_ru_ne (by omega))
    have SN : f_X1_setNumber 28 (4 : Int32) (nI p) σ1 = iw_up σ1 (28 + 1) 4 (nI p) := by
      unfold f_X1_setNumber
      rw [im_let, show (4 : Int32) = nI 4 from rfl, im_put (by omega)]
    have w4 : iw_wr (im_cp σm 6 0 0) 85 (4 : Int32) (nI p) = some (iw_up (im_cp σm 6 0 0) 85 4 (nI p)) := im_wr (a := 85) (k := 4) (by rw [im_al85]; decide)
    have lo : ∀ k, k < 465 → iw_up (im_cp σm 6 0 0) 85 4 (nI p) 85 k = im_ru ρ0 4 (nI p) k := fun k hk => by
      rw [im_up_row]
      unfold im_ru
      by_cases z : k = 4
      · rw [if_pos z, if_pos z]
      · rw [if_neg z, if_neg z, im_cp_e, if_pos (by omega), show 465 * 6 + (k - 465 * 0) = 2790 + k by omega]
        exact hs k hk
    have R : im_run0 (iw_up σ1 (28 + 1) 4 (nI p)) (iw_up (im_cp σm 6 0 0) 85 4 (nI p)) := im_run0_row wp (im_NR_num (v := nI p) e2 (show 4 ≤ 4 by omega) (show 4 < 12 by omega)) (im_mx_c e3 d4 (iw_up_ne (by omega))) (by rw [d4]; exact im_keep_c e4 (fun r r1 r2 => iw_up_ne (by omega))) lo
    obtain ⟨c, τ, τm, c1, b1, b2, b3, b4, b5⟩ := im_runs hn hN5 R
    have fy : im_fy σx τ := fun r r1 r2 r3 r4 => by rw [b4 r r1 r2 (by omega) r4, iw_up_ne (by omega), e5 r (by omega) r4]
    have fm : im_fm σm τm := by
      refine im_fm_t ⟨fun r hr => ?_, fun j j1 j2 => ?_, fun k hk => ?_⟩ b5
      · rw [iw_up_ne (by omega), im_cp_o (by omega)]
      · rw [iw_up_ne (by decide), im_cp_o (by decide)]
      · rw [im_upn (by omega), im_cp_e, if_neg (by omega)]
    have go : ∀ (b' mx' mm' : Int32), im_ms mx' mm' → ∃ r σx' σm', f_X5_bestPeriod_L22 n (nI N) kx nn b' mx' (nI (p + 1)) τ = kx r σx' ∧ f_X6_bestPeriod_L31 n (nI N) km nn b' mm' (nI (p + 1)) τm = km r σm' ∧ im_fy σx σx' ∧ im_fm σm σm' := by
      intro b' mx' mm' ms'
      obtain ⟨r, σx', σm', y1, y2, y3, y4⟩ := ih (p + 1) nn τ τm b' mx' mm' (by omega) (by omega) (by omega) (im_NR_congr h (fun j j1 j2 => fy _ (by omega) (by omega) (by omega) (by omega))) (fun k hk => by rw [fm.2.2 _ (by omega)]; exact hs k hk) ms'
      exact ⟨r, σx', σm', y1, y2, fun r r1 r2 r3 r4 => (y3 r r1 r2 r3 r4).trans (fy r r1 r2 r3 r4), im_fm_t fm y4⟩
    rw [s_X5_bestPeriod_22, s_X6_bestPeriod_31]
    unfold f_X5_bestPeriod_B22 f_X6_bestPeriod_B31 f_X5_bestPeriod_J75 f_X6_bestPeriod_J72 f_X6_bestPeriod_J85
    rw [if_neg g, e1, im_bind, im_let, SN, b1, im_b2, if_neg g, im_cp60 hn, im_bind, w4, im_bind, b2, im_b2, nI_1]
    by_cases q : nI c ≤ mx
    · have q' : nI c ≤ mm := by rw [← im_ms_le ms c1]; exact q
      rw [if_pos q, if_pos q', if_pos q', im_let, im_let]
      exact go b mx mm ms
    · have q' : ¬ nI c ≤ mm := by rw [← im_ms_le ms c1]; exact q
      rw [if_neg q, if_neg q', if_neg q', im_let, im_let]
      exact go (nI p) (nI c) (nI c) (Or.inr ⟨c, c1, rfl, rfl⟩)
theorem sim_bestPeriod_ok (n : Nat) (hn : 4096 ≤ n) : sim_bestPeriod n im_RR := by
  intro p1 σx σm h
  obtain ⟨hN, hW⟩ := im_0 h
  unfold f_X5_bestPeriod f_X6_bestPeriod
  rw [im_within, im_in, im_b01, im_b01]
  by_cases d : 1 ≤ p1 ∧ p1 ≤ 200
  · rw [if_pos d, if_pos d]
    obtain ⟨w, w1, w2, rfl⟩ := im_rng1 (a := 1) (b := 200) (by decide) (by decide) d
    obtain ⟨r, τ, τm, b1, b2, b3, b4⟩ := im_bp_L hn (N := w) (by omega) hW f_X5_bestPeriod_X81_22 (f_X6_bestPeriod_X92_31 n) 50 1 n σx (im_cp σm 0 6 0) 1 (-1) (-1000) (by omega) (by omega) (by omega) hN (im_fo_cp σm).1 (Or.inl ⟨rfl, rfl⟩)
    refine ⟨r, τ, im_cp τm 6 0 0, b1, ?_, im_fo_end h (im_fo_t (im_fo_cp σm) b4) b3⟩
    rw [im_cp06 hn, im_bind]
    refine Eq.trans b2 ?_
    unfold f_X6_bestPeriod_X92_31
    rw [im_cp60 hn, im_bind]
  · rw [if_neg d, if_neg d]
    exact ⟨_, _, _, rfl, rfl, h⟩
