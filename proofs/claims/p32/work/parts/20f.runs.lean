/-! rounds, willDeliver, firstDeath, bestPeriod, one-sided: what a run makes of a row is what the ghost makes of it -/
theorem ip_gm_run0 {σ : iw_M} {ρ : Nat → Int32} (hw : im_WF ρ) (h : im_NR σ 28 ρ) (hm : im_mx σ 14 ρ (im_tn (ρ 1))) (hk : im_keep σ (im_dl ρ)) : im_run0 σ (ip_gm ρ) := im_run0_row hw h hm hk (fun k _ => by rw [ip_gm_85])
/-- the row after k rounds, and how often data are delivered in them -/
def ip_ro (k : Nat) (ρ : Nat → Int32) : Nat → Int32 := ip_gs 4096 k (ip_gm ρ) 85
def ip_dn (k : Nat) (ρ : Nat → Int32) : Nat := match f_X6_goesFor 4096 (nI k) (ip_gm ρ) with
  | none => 0
  | some q => im_tn q.1
theorem ip_run {σ : iw_M} {ρ : Nat → Int32} (R : im_run0 σ (ip_gm ρ)) {k : Nat} (hk : k ≤ 500) : ∃ σ', f_X3_run 4096 (nI k) σ = some (nI (ip_dn k ρ), σ') ∧ ip_dn k ρ ≤ 15000 ∧ im_NR σ' 28 (ip_ro k ρ) ∧ im_WF (ip_ro k ρ) ∧ (ip_rd k ρ (ip_ro k ρ) ∧ (im_tn (ρ 3) = 0 → ip_dn k ρ = 0) ∧ (k = 1 → ip_r1 (ip_dn k ρ) ρ (ip_ro k ρ))) ∧ im_fx σ σ' := by
  obtain ⟨c, τ, τm, c1, b1, b2, b3, ⟨bp, bg, b0c, b1c⟩, b4, b5⟩ := im_runs (n := 4096) (by decide) hk R
  have e : ip_dn k ρ = c := by
    unfold ip_dn
    rw [b2]
    exact im_tn_nI (by omega)
  have er : τm 85 = ip_ro k ρ := by
    unfold ip_ro
    rw [bg]
  rw [ip_gm_85, er] at bp b1c
  rw [ip_gm_85] at b0c
  refine ⟨τ, by rw [e]; exact b1, by omega, by rw [← er]; exact b3.1, by rw [← er]; exact b3.2.1, ⟨bp, fun z => by rw [e]; exact b0c z, fun z => by rw [e]; exact b1c z⟩, b4⟩
theorem ip_start {σ : iw_M} {ρ : Nat → Int32} (h : ip_G σ ρ) : ∃ σ1, f_X3_start 4096 20 σ = some σ1 ∧ im_run0 σ1 (ip_gm ρ) ∧ ∀ r, (r < 15 ∨ 16 < r) → (r < 29 ∨ 35 < r) → σ1 r = σ r := by
  obtain ⟨σ1, a1, a2, a3, a4, a5⟩ := im_start (n := 4096) (by decide) h.2.1 h.1
  exact ⟨σ1, a1, ip_gm_run0 h.2.1 a2 a3 a4, a5⟩
theorem op_rounds {σ : iw_M} {ρ : Nat → Int32} (h : ip_G σ ρ) (p1 : Int32) : ∃ r σ', f_X5_rounds 4096 p1 σ = some (r, σ') ∧ σ' 84 = σ 84 ∧ (¬ (1 ≤ p1 ∧ p1 ≤ 100) → r = -1002) ∧ ((r < -1000 ∧ ip_G σ' ρ ∧ (1 ≤ p1 ∧ p1 ≤ 100 → ¬ ρ 5 + p1 ≤ 100000)) ∨ ∃ w, 1 ≤ w ∧ w ≤ 100 ∧ p1 = nI w ∧ r = nI (ip_dn w ρ) ∧ ip_dn w ρ ≤ 15000 ∧ (ip_rd w ρ (ip_ro w ρ) ∧ (im_tn (ρ 3) = 0 → ip_dn w ρ = 0) ∧ (w = 1 → ip_r1 (ip_dn w ρ) ρ (ip_ro w ρ))) ∧ ip_G σ' (ip_ro w ρ) ∧ ip_T σ' ρ) := by
  have hN := h.1
  have hW := h.2.1
  unfold f_X5_rounds
  rw [im_within, im_b01]
  by_cases d : 1 ≤ p1 ∧ p1 ≤ 100
  · rw [if_pos d]
    obtain ⟨w, w1, w2, rfl⟩ := im_rng1 (a := 1) (b := 100) (by decide) (by decide) d
    have n5 : f_X1_number 4096 20 (5 : Int32) σ = some (ρ 5) := (im_num 4096 iw_net_20 (j := 5) (by omega) (by omega)).trans (congrArg some (hN.1 5 (by omega) (by omega)))
    rw [n5, im_bind]
    by_cases e : ρ 5 + nI w ≤ 100000
    · rw [if_pos e]
      obtain ⟨h', t', e84⟩ := ip_rec h
      generalize f_X0_record 20 σ = σ1 at h' t' e84 ⊢
      obtain ⟨σ2, a1, a2, a3⟩ := ip_start h'
      obtain ⟨τ, b1, b2, b3, b4, b5, b6⟩ := ip_run a2 (k := w) (by omega)
      obtain ⟨k1, k2⟩ := im_copyFrom iw_net_20 iw_net_28 (by decide) τ
      rw [im_let, a1, im_bind, b1, im_b2, im_let]
      obtain ⟨g1, g2, g3⟩ := ip_upd h' t' (σ' := f_X1_copyFrom 20 28 τ) (ρ' := ip_ro w ρ) (fun b hb => by rw [k1 b (fun j j1 j2 => by omega), b6 b (by omega) (by omega) (by omega) (by omega), a3 b (by omega) (by omega)]) (im_NR_cp iw_net_20 b4 b3 k2) b4
      exact ⟨_, _, rfl, g3.trans e84, fun q => absurd d q, Or.inr ⟨w, w1, w2, rfl, rfl, b2, b5, g1, g2⟩⟩
    · rw [if_neg e]
      exact ⟨_, _, rfl, rfl, fun q => absurd d q, Or.inl ⟨by decide, h, fun _ => e⟩⟩
  · rw [if_neg d]
    exact ⟨_, _, rfl, rfl, fun _ => rfl, Or.inl ⟨by decide, h, fun q => absurd q d⟩⟩
theorem op_willDeliver {σ : iw_M} {ρ : Nat → Int32} (h : ip_G σ ρ) {w : Nat} (w1 : 1 ≤ w) (w2 : w ≤ 500) : ∃ σ', f_X5_willDeliver 4096 (nI w) σ = some (nI (ip_dn w ρ), σ') ∧ ip_dn w ρ ≤ 15000 ∧ ip_G σ' ρ ∧ σ' 84 = σ 84 := by
  unfold f_X5_willDeliver
  rw [im_within, im_b01, if_pos ⟨by rw [im_lit 1, im_le (by omega) (by omega)]; exact w1, by rw [im_lit 500, im_le (by omega) (by omega)]; exact w2⟩]
  obtain ⟨σ2, a1, a2, a3⟩ := ip_start h
  obtain ⟨τ, b1, b2, b3, b4, b5, b6⟩ := ip_run a2 (k := w) w2
  rw [a1, im_bind, b1, im_b2]
  exact ⟨_, rfl, b2, ip_keep h (fun b hb => by rw [b6 b (by omega) (by omega) (by omega) (by omega), a3 b (by omega) (by omega)]), by rw [b6 84 (by omega) (by omega) (by omega) (by omega), a3 84 (by omega) (by omega)]⟩
/-- how many live -/
def ip_lv (ρ : Nat → Int32) : Nat := im_cn (im_al ρ) (im_tn (ρ 0))
theorem ip_lv_10 {ρ : Nat → Int32} (hw : im_WF ρ) : ip_lv ρ ≤ 10 := by
  have := hw.1.1.1
  have := im_cn_le (im_al ρ) (im_tn (ρ 0))
  unfold ip_lv
  omega
theorem ip_fd_L {B : Nat} (hB : B ≤ 10) (σ0 : iw_M) : ∀ (d j nn : Nat) (σ σm : iw_M), j + d = 500 → d + 1 < nn → im_run0 σ σm → σm = ip_gs 4096 j σ0 → (∀ k, k ≤ j → B ≤ ip_lv (ip_gs 4096 k σ0 85)) → ∃ r σ', f_X5_firstDeath_L23 4096 (nI B) f_X5_firstDeath_X63_23 nn (nI (j + 1)) σ = some (r, σ') ∧ im_fx σ σ' ∧ ((r = -1000 ∧ ∀ k, k ≤ 500 → B ≤ ip_lv (ip_gs 4096 k σ0 85)) ∨ ∃ x, 1 ≤ x ∧ x ≤ 500 ∧ r = nI x ∧ ip_lv (ip_gs 4096 x σ0 85) < B ∧ ∀ k, k < x → B ≤ ip_lv (ip_gs 4096 k σ0 85)) := by
  intro d
  induction d with
  | zero =>
    intro j nn σ σm h1 h2 R em hl
    obtain ⟨nn, rfl⟩ : ∃ q, nn = q + 1 := ⟨nn - 1, by omega⟩
    refine ⟨-1000, σ, ?_, im_fx_0 _, Or.inl ⟨rfl, fun k hk => hl k (by omega)⟩⟩
    rw [s_X5_firstDeath_23]
    unfold f_X5_firstDeath_B23
    rw [if_pos (by rw [im_lit 500, im_lt (by decide) (by omega)]; omega)]
    rfl
  | succ d ih =>
    intro j nn σ σm h1 h2 R em hl
    obtain ⟨nn, rfl⟩ : ∃ q, nn = q + 1 := ⟨nn - 1, by omega⟩
    obtain ⟨c, τ, τm, x1, x2, x3, xp, x4, x5⟩ := im_run1 (n := 4096) (by decide) R
    have A1 := im_num6 (n := 4096) (by decide) iw_net_28 x3.2.1 x3.1
    have ca := im_cn_le (im_al (τm 85)) (im_tn (τm 85 0))
    have b0 := x3.2.1.1.1.1
    have g1 : ¬ (500 : Int32) < nI (j + 1) := by rw [im_lit 500, im_lt (by decide) (by omega)]; omega
    have eg : ∀ (k : Nat) (σ0 : iw_M), ip_gs 4096 (k + 1) σ0 = (match f_X6_goesOn 4096 (ip_gs 4096 k σ0) with | none => ip_gs 4096 k σ0 | some q => q.2) := by
      intro k
      induction k with
      | zero => intro σ0; rfl
      | succ k ihk =>
        intro σ0
        show (match f_X6_goesOn 4096 σ0 with | none => σ0 | some q => ip_gs 4096 (k + 1) q.2) = _
        cases hq : f_X6_goesOn 4096 σ0 with
        | none =>
          have e0 : ip_gs 4096 (k + 1) σ0 = σ0 := by
            show (match f_X6_goesOn 4096 σ0 with | none => σ0 | some q => ip_gs 4096 k q.2) = _
            rw [hq]
          rw [e0, hq]
        | some q =>
          have e0 : ip_gs 4096 (k + 1) σ0 = ip_gs 4096 k q.2 := by
            show (match f_X6_goesOn 4096 σ0 with | none => σ0 | some q => ip_gs 4096 k q.2) = _
            rw [hq]
          rw [e0]
          exact ihk q.2
    have em' : τm = ip_gs 4096 (j + 1) σ0 := by
      rw [eg j σ0, ← em, x2]
    rw [s_X5_firstDeath_23]
    unfold f_X5_firstDeath_B23
    rw [if_neg g1, x1, im_b2, A1, im_bind, nI_1 (j + 1)]
    by_cases q : nI B ≤ nI (im_cn (im_al (τm 85)) (im_tn (τm 85 0)))
    · rw [if_pos q]
      rw [im_le (by omega) (by omega)] at q
      obtain ⟨r, σ', y1, y2, y3⟩ := ih (j + 1) nn τ τm (by omega) (by omega) x3 em' (fun k hk => by
        by_cases z : k = j + 1
        · rw [z, ← em']
          exact q
        · exact hl k (by omega))
      exact ⟨r, σ', y1, im_fx_t x4 y2, y3⟩
    · rw [if_neg q]
      rw [im_le (by omega) (by omega)] at q
      refine ⟨nI (j + 1), τ, rfl, x4, Or.inr ⟨j + 1, by omega, by omega, rfl, ?_, fun k hk => hl k (by omega)⟩⟩
      rw [← em']
      show im_cn (im_al (τm 85)) (im_tn (τm 85 0)) < B
      omega
theorem op_firstDeath {σ : iw_M} {ρ : Nat → Int32} (h : ip_G σ ρ) : ∃ r σ', f_X5_firstDeath 4096 σ = some (r, σ') ∧ ip_G σ' ρ ∧ σ' 84 = σ 84 ∧ ((r = -1000 ∧ ∀ k, k ≤ 500 → ip_lv ρ ≤ ip_lv (ip_ro k ρ)) ∨ ∃ x, 1 ≤ x ∧ x ≤ 500 ∧ r = nI x ∧ ip_lv (ip_ro x ρ) < ip_lv ρ ∧ ∀ k, k < x → ip_lv ρ ≤ ip_lv (ip_ro k ρ)) := by
  have hN := h.1
  have hW := h.2.1
  obtain ⟨σ2, a1, a2, a3⟩ := ip_start h
  have l0 : ip_lv (ip_gs 4096 0 (ip_gm ρ) 85) = ip_lv ρ := by
    show ip_lv (ip_gm ρ 85) = _
    rw [ip_gm_85]
  obtain ⟨r, τ, b1, b2, b3⟩ := ip_fd_L (B := ip_lv ρ) (ip_lv_10 hW) (ip_gm ρ) 500 0 4096 σ2 (ip_gm ρ) (by omega) (by omega) a2 rfl (fun k hk => by rw [show k = 0 by omega, l0]; exact Nat.le_refl _)
  refine ⟨r, τ, ?_, ip_keep h (fun b hb => by rw [b2 b (by omega) (by omega) (by omega) (by omega), a3 b (by omega) (by omega)]), by rw [b2 84 (by omega) (by omega) (by omega) (by omega), a3 84 (by omega) (by omega)], b3⟩
  unfold f_X5_firstDeath
  rw [im_num6 (by decide) iw_net_20 hW hN, im_bind, a1, im_bind]
  exact b1
/-- what is delivered with another period -/
def ip_dp (ρ : Nat → Int32) (k p : Nat) : Nat := ip_dn k (im_ru ρ 4 (nI p))
theorem ip_bp_L {N : Nat} (hN5 : N ≤ 500) {ρ : Nat → Int32} (hw : im_WF ρ) : ∀ (d p nn : Nat) (σ : iw_M) (b : Nat) (mx : Int32), 1 ≤ p → p + d = 51 → d < nn → ip_G σ ρ → ((p = 1 ∧ b = 1 ∧ mx = -1) ∨ (1 ≤ b ∧ b < p ∧ mx = nI (ip_dp ρ N b) ∧ ip_dp ρ N b ≤ 15000 ∧ (∀ q, 1 ≤ q → q < p → ip_dp ρ N q ≤ ip_dp ρ N b) ∧ ∀ q, 1 ≤ q → q < b → ip_dp ρ N q < ip_dp ρ N b)) → ∃ x σ', f_X5_bestPeriod_L22 4096 (nI N) f_X5_bestPeriod_X81_22 nn (nI b) mx (nI p) σ = some (nI x, σ') ∧ 1 ≤ x ∧ x ≤ 50 ∧ (∀ q, 1 ≤ q → q ≤ 50 → ip_dp ρ N q ≤ ip_dp ρ N x) ∧ (∀ q, 1 ≤ q → q < x → ip_dp ρ N q < ip_dp ρ N x) ∧ ip_G σ' ρ ∧ σ' 84 = σ 84 := by
  have hc : iw_net 28 := iw_net_28
  have a1 := (im_al_n 28 hc).1
  intro d
  induction d with
  | zero =>
    intro p nn σ b mx p1 h1 h2 h ms
    obtain ⟨nn, rfl⟩ : ∃ q, nn = q + 1 := ⟨nn - 1, by omega⟩
    have g : (50 : Int32) < nI p := by rw [im_lit 50, im_lt (by decide) (by omega)]; omega
    rcases ms with ⟨z, -, -⟩ | ⟨m1, m2, m3, m4, m5, m6⟩
    · omega
    · refine ⟨b, σ, ?_, m1, by omega, fun q q1 q2 => m5 q q1 (by omega), m6, h, rfl⟩
      rw [s_X5_bestPeriod_22]
      unfold f_X5_bestPeriod_B22
      rw [if_pos g]
      rfl
  | succ d ih =>
    intro p nn σ b mx p1 h1 h2 h ms
    obtain ⟨nn, rfl⟩ : ∃ q, nn = q + 1 := ⟨nn - 1, by omega⟩
    have g : ¬ (50 : Int32) < nI p := by rw [im_lit 50, im_lt (by decide) (by omega)]; omega
    obtain ⟨σ1, e1, e2, e3, e4, e5⟩ := im_start (n := 4096) (by decide) hw h.1
    have wp := im_WF_4 hw p1 (show p ≤ 50 by omega)
    have d4 : im_dl (im_ru ρ 4 (nI p)) = im_dl ρ := im_dl_c hw (fun k hk => im_ru_ne (by omega))
    have SN : f_X1_setNumber 28 (4 : Int32) (nI p) σ1 = iw_up σ1 (28 + 1) 4 (nI p) := by
      unfold f_X1_setNumber
      rw [im_let, show (4 : Int32) = nI 4 from rfl, im_put (by omega)]
    have R : im_run0 (iw_up σ1 (28 + 1) 4 (nI p)) (ip_gm (im_ru ρ 4 (nI p))) := ip_gm_run0 wp (im_NR_num (v := nI p) e2 (show 4 ≤ 4 by omega) (show 4 < 12 by omega)) (im_mx_c e3 d4 (iw_up_ne (by omega))) (by rw [d4]; exact im_keep_c e4 (fun r r1 r2 => iw_up_ne (by omega)))
    obtain ⟨τ, b1, b2, b3, b4, b5, b6⟩ := ip_run R (k := N) hN5
    have fy : ∀ r, r ≠ 2 → r ≠ 3 → (r < 15 ∨ 19 < r) → (r < 29 ∨ 35 < r) → τ r = σ r := fun r r1 r2 r3 r4 => by rw [b6 r r1 r2 (by omega) r4, iw_up_ne (by omega), e5 r (by omega) r4]
    have h' : ip_G τ ρ := ip_keep h (fun b hb => fy b (by omega) (by omega) (by omega) (by omega))
    have h84 : τ 84 = σ 84 := fy 84 (by omega) (by omega) (by omega) (by omega)
    rw [s_X5_bestPeriod_22]
    unfold f_X5_bestPeriod_B22
    rw [if_neg g, e1, im_bind, SN, im_let, b1, im_b2]
    unfold f_X5_bestPeriod_J75
    have ed : ip_dn N (im_ru ρ 4 (nI p)) = ip_dp ρ N p := rfl
    rw [ed] at b2 ⊢
    by_cases z : nI (ip_dp ρ N p) ≤ mx
    · rw [if_pos z, im_let, nI_1]
      rcases ms with ⟨m1, m2, m3⟩ | ⟨m1, m2, m3, m4, m5, m6⟩
      · rw [m3] at z
        have := Int32.le_iff_toInt_le.mp z
        rw [nI_toInt (by omega), show (-1 : Int32).toInt = -1 by decide] at this
        omega
      · rw [m3, im_le (by omega) (by omega)] at z
        obtain ⟨x, σ', y1, y2, y3, y4, y5, y6, y7⟩ := ih (p + 1) nn τ b mx (by omega) (by omega) (by omega) h' (Or.inr ⟨m1, by omega, m3, m4, fun q q1 q2 => by
          by_cases w : q = p
          · rw [w]; exact z
          · exact m5 q q1 (by omega), m6⟩)
        exact ⟨x, σ', y1, y2, y3, y4, y5, y6, y7.trans h84⟩
    · rw [if_neg z, im_let, nI_1]
      obtain ⟨x, σ', y1, y2, y3, y4, y5, y6, y7⟩ := ih (p + 1) nn τ p (nI (ip_dp ρ N p)) (by omega) (by omega) (by omega) h' (Or.inr ⟨p1, by omega, rfl, b2, fun q q1 q2 => by
        by_cases w : q = p
        · rw [w]; exact Nat.le_refl _
        · rcases ms with ⟨m1, m2, m3⟩ | ⟨m1, m2, m3, m4, m5, m6⟩
          · omega
          · rw [m3, im_le (by omega) (by omega)] at z
            have := m5 q q1 (by omega)
            omega, fun q q1 q2 => by
        rcases ms with ⟨m1, m2, m3⟩ | ⟨m1, m2, m3, m4, m5, m6⟩
        · omega
        · rw [m3, im_le (by omega) (by omega)] at z
          have := m5 q q1 (by omega)
          omega⟩)
      exact ⟨x, σ', y1, y2, y3, y4, y5, y6, y7.trans h84⟩
theorem op_bestPeriod {σ : iw_M} {ρ : Nat → Int32} (h : ip_G σ ρ) {N : Nat} (n1 : 1 ≤ N) (n2 : N ≤ 200) : ∃ x σ', f_X5_bestPeriod 4096 (nI N) σ = some (nI x, σ') ∧ 1 ≤ x ∧ x ≤ 50 ∧ (∀ q, 1 ≤ q → q ≤ 50 → ip_dp ρ N q ≤ ip_dp ρ N x) ∧ (∀ q, 1 ≤ q → q < x → ip_dp ρ N q < ip_dp ρ N x) ∧ ip_G σ' ρ ∧ σ' 84 = σ 84 := by
  unfold f_X5_bestPeriod
  rw [im_within, im_b01, if_pos ⟨by rw [im_lit 1, im_le (by omega) (by omega)]; exact n1, by rw [im_lit 200, im_le (by omega) (by omega)]; exact n2⟩]
  exact ip_bp_L (N := N) (by omega) h.2.1 50 1 4096 σ 1 (-1) (by omega) (by omega) (by omega) h (Or.inl ⟨rfl, rfl, rfl⟩)
theorem op_bestPeriod201 (σ : iw_M) : f_X5_bestPeriod 4096 (201 : Int32) σ = some (-1002, σ) := by
  unfold f_X5_bestPeriod
  rw [im_within, im_b01, if_neg (by decide)]
