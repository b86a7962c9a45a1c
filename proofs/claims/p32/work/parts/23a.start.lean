/-! the class's first answers, and rounds without interests -/
/-- a class's memory made of a row -/
def ip_mk (ρ : Nat → Int32) : iw_M := fun r =>
  if r = 21 then ρ else if r = 22 then (fun k => ρ (12 + k)) else if r = 23 then (fun k => ρ (22 + k)) else if r = 24 then (fun k => ρ (82 + k)) else if r = 25 then (fun k => ρ (100 + k))
  else if r = 26 then (fun j => if j % 6 < im_tn (ρ 2) then ρ (im_wa (j / 6) (j % 6)) else 0) else if r = 27 then (fun j => ρ (im_wa (j / 60) (j / 10 % 6) + 1 + j % 10)) else fun _ => 0
theorem ip_mk_G {ρ : Nat → Int32} (hw : im_WF ρ) : ip_G (ip_mk ρ) ρ := by
  have b2 := hw.1.2.2.1.1
  refine ⟨⟨fun j _ _ => rfl, fun k _ => rfl, fun k _ => rfl, fun k _ => rfl, fun k _ => rfl, fun i s hi hs => ⟨?_, fun k hk => ?_⟩, fun i s hi h1 h2 => ?_⟩, hw, 0, 0, by decide, by decide, rfl, rfl⟩
  · show (if (6 * i + s) % 6 < im_tn (ρ 2) then ρ (im_wa ((6 * i + s) / 6) ((6 * i + s) % 6)) else 0) = _
    rw [show (6 * i + s) % 6 = s by omega, show (6 * i + s) / 6 = i by omega, if_pos hs]
  · have l10 : im_tn (ρ (im_wa i s)) < 11 := (hw.2.2.2.2.2 i s hi hs).1.1
    show ρ (im_wa ((10 * (6 * i + s) + k) / 60) ((10 * (6 * i + s) + k) / 10 % 6) + 1 + (10 * (6 * i + s) + k) % 10) = _
    rw [show (10 * (6 * i + s) + k) / 60 = i by omega, show (10 * (6 * i + s) + k) / 10 % 6 = s by omega, show (10 * (6 * i + s) + k) % 10 = k by omega]
  · show (if (6 * i + s) % 6 < im_tn (ρ 2) then ρ (im_wa ((6 * i + s) / 6) ((6 * i + s) % 6)) else 0) = _
    rw [show (6 * i + s) % 6 = s by omega, if_neg (by omega)]
theorem ip_dn_0 {ρ : Nat → Int32} (hw : im_WF ρ) (h : im_tn (ρ 3) = 0) {k : Nat} (hk : k ≤ 500) : ip_dn k ρ = 0 := by
  obtain ⟨σ1, a1, a2, a3⟩ := ip_start (ip_mk_G hw)
  obtain ⟨τ, b1, b2, b3, b4, ⟨b5, b6, b7⟩, b8⟩ := ip_run a2 hk
  exact b6 h
/-- the row of a new object -/
def ip_r0 : Nat → Int32 := fun k => if k = 4 then 10 else 0
theorem ip_r0_tn : im_tn (0 : Int32) = 0 := by decide
theorem ip_WF_r0 : im_WF ip_r0 := by
  have e0 : im_tn (ip_r0 0) = 0 := by decide
  have e1 : im_tn (ip_r0 1) = 0 := by decide
  have e2 : im_tn (ip_r0 2) = 0 := by decide
  have e3 : im_tn (ip_r0 3) = 0 := by decide
  unfold im_WF
  rw [e1, e2, e3]
  refine ⟨⟨im_sm_nI (k := 0) (by decide) (by decide), im_sm_nI (k := 0) (by decide) (by decide), im_sm_nI (k := 0) (by decide) (by decide), im_sm_nI (k := 0) (by decide) (by decide), im_sm_nI (k := 10) (by decide) (by decide), by decide⟩, fun l hl => absurd hl (Nat.not_lt_zero _), fun l l' a b hl => absurd hl (Nat.not_lt_zero _), fun s hs => absurd hs (Nat.not_lt_zero _), fun i hi => absurd hi (Nat.not_lt_zero _), fun i s hi => absurd hi (Nat.not_lt_zero _)⟩
theorem ip_x0 (a k : Nat) : is_x0 a k = if 20 ≤ a ∧ a < 84 ∧ (a - 20) % 8 = 1 ∧ k = 4 then 10 else 0 := by
  unfold is_x0
  by_cases h : 20 ≤ a ∧ a < 84 ∧ (a - 20) % 8 = 1
  · rw [if_pos h]
    unfold upd
    by_cases q : k = 4
    · rw [if_pos q, if_pos ⟨h.1, h.2.1, h.2.2, q⟩]
    · rw [if_neg q, if_neg (fun z => q z.2.2.2)]
  · rw [if_neg h, if_neg (fun z => h ⟨z.1, z.2.1, z.2.2.1⟩)]
theorem ip_G_x0 : ip_G is_x0 ip_r0 := by
  have e0 : im_tn (ip_r0 0) = 0 := by decide
  have e1 : im_tn (ip_r0 1) = 0 := by decide
  have e2 : im_tn (ip_r0 2) = 0 := by decide
  have e3 : im_tn (ip_r0 3) = 0 := by decide
  refine ⟨?_, ip_WF_r0, 0, 0, by decide, by decide, ip_x0 4 2, ip_x0 4 1⟩
  unfold im_NR
  rw [e0, e1, e2, e3]
  refine ⟨fun j hj _ => ?_, fun k hk => absurd hk (Nat.not_lt_zero _), fun k hk => absurd hk (by omega), fun k hk => absurd hk (by omega), fun k hk => absurd hk (by omega), fun i s hi => absurd hi (Nat.not_lt_zero _), fun i s hi => absurd hi (Nat.not_lt_zero _)⟩
  rw [ip_x0]
  unfold ip_r0
  by_cases q : j = 4
  · rw [if_pos q, if_pos ⟨by decide, by decide, by decide, q⟩]
  · rw [if_neg q, if_neg (fun z => q z.2.2.2)]
theorem ip_undo0 : f_X5_undo is_x0 = (-1003, is_x0) := by
  unfold f_X5_undo f_X0_restore
  rw [if_pos (by rw [ip_x0]; decide)]
  rfl
theorem ip_build0 : ∃ σ', f_X5_build 4096 is_x0 = some (-1003, σ') ∧ ip_G σ' ip_r0 ∧ σ' 84 = is_x0 84 := by
  obtain ⟨k1, k2⟩ := im_copyFrom iw_net_36 iw_net_20 (by decide) is_x0
  have c6 : f_X1_copyFrom 36 20 is_x0 6 = is_x0 6 := k1 6 (fun j _ _ => by omega)
  obtain ⟨σ1, e1⟩ : ∃ x, x = iw_up (iw_up (f_X1_copyFrom 36 20 is_x0) 6 5 0) 6 3 0 := ⟨_, rfl⟩
  have h2 : σ1 6 2 = 0 := by rw [e1, im_upn (by decide), im_upn (by decide), c6, ip_x0]; rfl
  have h5 : σ1 6 5 = 0 := by rw [e1, im_upn (by decide), im_ups]
  have ho : ∀ r, r ≠ 6 → (∀ j, 1 ≤ j → j ≤ 7 → r ≠ 36 + j) → σ1 r = is_x0 r := fun r r1 r2 => by rw [e1, iw_up_ne r1, iw_up_ne r1, k1 r r2]
  have nc : f_X4_nextCode 4096 σ1 = some (-1, σ1) := by
    unfold f_X4_nextCode
    rw [show f_X4_nextCode_L0 f_X4_nextCode_X40_0 4096 σ1 = f_X4_nextCode_B0 f_X4_nextCode_X40_0 (f_X4_nextCode_L0 f_X4_nextCode_X40_0 4095) σ1 from rfl]
    unfold f_X4_nextCode_B0 f_X4_nextCode_X40_0
    rw [h2, h5, if_pos (by decide), if_pos (by decide)]
  have ri : f_X4_readItem 4096 σ1 = some (0, iw_up σ1 6 4 0) := by
    unfold f_X4_readItem
    rw [nc, im_b2, if_neg (by decide), if_neg (by decide), if_pos (by decide)]
    unfold f_X4_refuse
    rw [h5]
    show some (((0 : Int32) &&& 1), iw_up σ1 6 4 0) = _
    rw [show (0 : Int32) &&& 1 = 0 by decide]
  have rd : f_X4_read 4096 20 is_x0 = some (0, iw_up σ1 6 4 0) := by
    unfold f_X4_read
    rw [im_let, im_let, im_let, ← e1, show f_X4_read_L20 4096 f_X4_read_X72_20 4096 (0 : Int32) σ1 = f_X4_read_B20 4096 f_X4_read_X72_20 (f_X4_read_L20 4096 f_X4_read_X72_20 4095) 0 σ1 from rfl]
    unfold f_X4_read_B20
    rw [if_neg (by decide), ri, im_b2, if_pos rfl]
  refine ⟨iw_up σ1 6 4 0, ?_, ip_keep ip_G_x0 (fun b hb => by rw [iw_up_ne (by omega), ho b (by omega) (fun j _ _ => by omega)]), by rw [iw_up_ne (by decide), ho 84 (by decide) (fun j _ _ => by omega)]⟩
  unfold f_X5_build
  rw [rd, im_b2, if_pos rfl]
/-- what the law asks of a new object -/
theorem ip_first : ∃ σ ρ, (∃ σ1 σ2 σ3 σ4 σ5, f_X5_build 4096 is_x0 = some (-1003, σ1) ∧ f_X5_rounds 4096 (1 : Int32) σ1 = some (0, σ2) ∧ f_X5_firstDeath 4096 σ2 = some (-1000, σ3) ∧ f_X5_willDeliver 4096 (3 : Int32) σ3 = some (0, σ4) ∧ f_X5_bestPeriod 4096 (2 : Int32) σ4 = some (1, σ5) ∧ f_X5_quickest 4096 (0 : Int32) (0 : Int32) σ5 = some (-1001, σ)) ∧ ip_L 0 1 σ ρ ∧ im_tn (ρ 0) = 0 ∧ im_tn (ρ 2) = 0 ∧ im_tn (ρ 3) = 0 ∧ ρ 7 = 0 ∧ ρ 8 = 0 ∧ ρ 9 = 0 := by
  obtain ⟨σ1, a1, a2, a3⟩ := ip_build0
  have z0 : im_tn (ip_r0 0) = 0 := by decide
  have z2 : im_tn (ip_r0 2) = 0 := by decide
  have z3 : im_tn (ip_r0 3) = 0 := by decide
  obtain ⟨r2, σ2, b1, b2, -, b3⟩ := op_rounds a2 (nI 1)
  have c0 : r2 = 0 ∧ ip_G σ2 (im_ru ip_r0 5 1) := by
    rcases b3 with ⟨-, -, z⟩ | ⟨w, y1, y2, y3, y4, y5, ⟨y6, y7, y8⟩, y9, y10⟩
    · exact absurd (show ip_r0 5 + nI 1 ≤ 100000 by decide) (z (by decide))
    · have ew := (im_eq (by omega) (by omega)).mp y3
      subst ew
      have q := (y8 rfl).2.1 z3
      rw [q.1] at y4
      rw [q.2] at y9
      exact ⟨y4, y9⟩
  obtain ⟨c1, c2⟩ := c0
  obtain ⟨ρ1, e1⟩ : ∃ x, x = im_ru ip_r0 5 1 := ⟨_, rfl⟩
  rw [← e1] at c2
  have f0 : im_tn (ρ1 0) = 0 := by rw [e1, im_ru_ne (by decide)]; exact z0
  have f2 : im_tn (ρ1 2) = 0 := by rw [e1, im_ru_ne (by decide)]; exact z2
  have f3 : im_tn (ρ1 3) = 0 := by rw [e1, im_ru_ne (by decide)]; exact z3
  have hW := c2.2.1
  obtain ⟨r3, σ3, d1, d2, d3, d4⟩ := op_firstDeath c2
  have L0 : ∀ ρ : Nat → Int32, im_tn (ρ 0) = 0 → ip_lv ρ = 0 := fun ρ h => by
    unfold ip_lv
    rw [h]
    rfl
  have d5 : r3 = -1000 := by
    rcases d4 with ⟨z, -⟩ | ⟨x, -, -, -, z, -⟩
    · exact z
    · rw [L0 ρ1 f0] at z
      exact absurd z (Nat.not_lt_zero _)
  obtain ⟨σ4, g1, g2, g3, g4⟩ := op_willDeliver d2 (w := 3) (by decide) (by decide)
  rw [ip_dn_0 hW f3 (by decide)] at g1
  obtain ⟨x, σ5, h1, h2, h3, h4, h5, h6, h7⟩ := op_bestPeriod g3 (N := 2) (by decide) (by decide)
  have hx : x = 1 := by
    by_cases q : x = 1
    · exact q
    · have := h5 1 (by omega) (by omega)
      have hp : ∀ p, 1 ≤ p → p ≤ 50 → ip_dp ρ1 2 p = 0 := fun p p1 p2 => ip_dn_0 (im_WF_4 hW p1 p2) (by rw [im_ru_ne (by decide)]; exact f3) (by decide)
      rw [hp 1 (by omega) (by omega), hp x h2 h3] at this
      omega
  subst hx
  have q1 : f_X5_quickest 4096 (0 : Int32) (0 : Int32) σ5 = some (-1001, σ5) := by
    obtain ⟨⟨N, N1, N2, N3, N4⟩, -⟩ := ip_cnt h6.1 h6.2.1
    rw [f0] at N2
    subst N2
    unfold f_X5_quickest
    rw [show f_X1_has 20 (0 : Int32) (0 : Int32) σ5 = f_X1_has 20 (nI 0) (nI 0) σ5 from rfl, im_has iw_net_20 (by decide) (by omega) _ N4, im_b01, if_neg]
    rintro ⟨k, hk, -⟩
    exact absurd hk (Nat.not_lt_zero _)
  refine ⟨σ5, ρ1, ⟨σ1, σ2, σ3, σ4, σ5, a1, by rw [← c1]; exact b1, by rw [← d5]; exact d1, g1, h1, q1⟩, ⟨h6, ?_, by rw [e1, im_ru_eq]; rfl, ?_⟩, f0, f2, f3, by rw [e1]; rfl, by rw [e1]; rfl, by rw [e1]; rfl⟩
  · unfold ip_V
    rw [f0, f2, f3]
    refine ⟨⟨fun v hv => absurd hv (Nat.not_lt_zero _), ?_⟩, fun i s hi => absurd hi (Nat.not_lt_zero _), fun i hi => absurd hi (Nat.not_lt_zero _), fun s hs => absurd hs (Nat.not_lt_zero _)⟩
    rw [e1]
    rfl
  · rw [h7, g4, d3, b2, a3, ip_x0]
    rfl
