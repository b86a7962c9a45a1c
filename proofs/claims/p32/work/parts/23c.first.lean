/-! from the net that was built to the law's twenty changes -/
theorem ip_q_c {ρ ρ' : Nat → Int32} (e1 : im_dl ρ' = im_dl ρ) (e2 : im_av ρ' = im_av ρ) (f v : Nat) : ip_q ρ' f v = ip_q ρ f v := by
  unfold ip_q ip_tf
  rw [e1, e2]
theorem ip_q_self {ρ : Nat → Int32} (hw : im_WF ρ) {f : Nat} (hf : f < 10) (h : im_av ρ f = true) : ip_q ρ f f = 0 := by
  have hD := ip_tf_ok hw hf h
  unfold ip_q
  rw [if_pos ⟨h, h, by rw [hD.1]; decide⟩, hD.1]
  rfl
theorem ip_X195 (xs : Nat → Int32) (sL : Nat) (v1 : Int32) {many : Nat} (m3 : 3 ≤ many) (m7 : many ≤ 7) {e : Int32} {σ : iw_M} {ρ : Nat → Int32} (h : ip_N e many σ ρ) : ∃ σ' ρ', ip_L e 2 σ' ρ' ∧ 3 ≤ im_tn (ρ' 0) ∧ f_L_law_X195_99 4096 xs sL v1 (nI many) σ = f_L_law_L406 4096 xs sL (f_L_law_X568_406 4096 v1) 4096 (0 : Int32) σ' := by
  obtain ⟨⟨hG, hV, h5, h84⟩, n0, n2, n3, ⟨n7, n8, n9⟩, hal⟩ := h
  have hW := hG.2.1
  -- the sensor
  obtain ⟨a, ha, ea⟩ := ip_low (v1 >>> ((4 : Int32) &&& 31)) (m := many) (by omega) (by omega)
  obtain ⟨b, hb, eb⟩ := ip_low (v1 >>> ((8 : Int32) &&& 31)) (m := many) (by omega) (by omega)
  obtain ⟨r1, σ1, a1, a2, a3⟩ := op_addSensor (n := 4096) hG (nI a) (0 : Int32) (7 : Int32)
  have a4 : ip_G σ1 (ip_se ρ 0 a 0 7) := by
    rcases a3 with ⟨-, -, z⟩ | ⟨a', y1, y2, y3, y4, y5, y6, y7, -⟩
    · have := (z ⟨a, by omega, rfl⟩).2 ⟨by decide, by decide⟩ ⟨by decide, by decide⟩
      omega
    · have := (im_eq (by omega) (by omega)).mp y2
      rw [n2, ← this] at y7
      exact y7
  have V1 : ip_V e (30 * 1) (ip_se ρ 0 a 0 7) := by
    have := ip_V_se (a := a) (p2 := 0) (p3 := 7) hV hW (by omega) (by decide)
    rw [n2] at this
    exact this
  obtain ⟨s1, s2, s3, s4, s5, s6⟩ := ip_se_v (ρ := ρ) (S := 0) (a := a) (p2 := 0) (p3 := 7) (by decide)
  have lo1 : ∀ k, k < 82 → k ≠ 2 → ip_se ρ 0 a 0 7 k = ρ k := fun k k1 k2 => s6 k k2 (by omega) (fun i _ => by have := im_wa_ge i 0; omega)
  obtain ⟨ρ1, e1⟩ : ∃ x, x = ip_se ρ 0 a 0 7 := ⟨_, rfl⟩
  rw [← e1] at a4 V1 s1 s2 s3 s4 lo1
  have N1 : im_tn (ρ1 0) = many := by rw [lo1 0 (by omega) (by omega)]; exact n0
  have I1 : im_tn (ρ1 3) = 0 := by rw [lo1 3 (by omega) (by omega)]; exact n3
  have R1 : ρ1 5 = nI 1 := by rw [lo1 5 (by omega) (by omega)]; exact h5
  -- the interest
  obtain ⟨r2, σ2, b1, b2, b3⟩ := op_ask (n := 4096) (by decide) a4 (nI b) (0 : Int32) (-100 : Int32) (100 : Int32) (1000 : Int32)
  have b4 : ip_G σ2 (ip_in ρ1 0 b 0 (-100) 100 1000) := by
    rcases b3 with ⟨-, -, z⟩ | ⟨b', y1, y2, y3, y4, y5, -⟩
    · have := (z ⟨b, by omega, rfl⟩ ⟨by decide, by decide⟩ ⟨by decide, by decide⟩).2 ⟨by decide, by decide⟩ ⟨by rw [R1]; decide, by decide⟩
      omega
    · have := (im_eq (by omega) (by omega)).mp y2
      rw [I1, ← this] at y5
      exact y5
  have V2 : ip_V e (30 * 1) (ip_in ρ1 0 b 0 (-100) 100 1000) := by
    have := ip_V_in (a := b) (p2 := 0) (p3 := -100) (p4 := 100) (p5 := 1000) V1 a4.2.1 (by omega)
    rw [I1] at this
    exact this
  obtain ⟨⟨i3, i0, i1, i2, i33, i4, i5, i6⟩, iz, ie⟩ := ip_in_v (ρ := ρ1) (I := 0) (a := b) (p2 := 0) (p3 := -100) (p4 := 100) (p5 := 1000) (by decide)
  have lo2 : ∀ k, k < 100 → k ≠ 3 → ip_in ρ1 0 b 0 (-100) 100 1000 k = ρ1 k := fun k k1 k2 => ie k k2 (by omega) (fun s _ => by have := im_wa_ge 0 s; omega)
  have iz0 := iz 0 (by decide)
  obtain ⟨ρ2, e2⟩ : ∃ x, x = ip_in ρ1 0 b 0 (-100) 100 1000 := ⟨_, rfl⟩
  rw [← e2] at b4 V2 i3 i0 i1 i2 i33 i4 i5 i6 iz0 lo2
  have N2 : im_tn (ρ2 0) = many := by rw [lo2 0 (by omega) (by omega)]; exact N1
  have S2 : im_tn (ρ2 2) = 1 := by rw [lo2 2 (by omega) (by omega), s1]; exact im_tn_nI (by decide)
  have I2 : im_tn (ρ2 3) = 1 := by rw [i3]; exact im_tn_nI (by decide)
  have p82 : ρ2 82 = nI a := by rw [lo2 82 (by omega) (by omega)]; exact s2
  have p100 : ρ2 100 = nI b := i0
  have al2 : ∀ v, v < many → 0 < ρ2 (12 + v) := fun v hv => by rw [lo2 _ (by omega) (by omega), lo1 _ (by omega) (by omega)]; exact hal v hv
  have w2 := b4.2.1
  have av2 : ∀ v, v < many → im_av ρ2 v = true := fun v hv => by rw [ip_av_al (by omega)]; exact decide_eq_true (al2 v hv)
  obtain ⟨σ3, c1, c2, c3⟩ := op_quickest (n := 4096) (by decide) b4 (f := a) (v := b) (by omega) (by omega)
  -- the period
  obtain ⟨r4, σ4, d1, d2, d3⟩ := op_setPeriod 4096 c2 (1 : Int32)
  have d4 : ip_G σ4 (im_ru ρ2 4 (nI 1)) := by
    rcases d3 with ⟨-, -, z⟩ | ⟨w, y1, y2, y3, y4, y5, -⟩
    · exact absurd ⟨by decide, by decide⟩ z
    · have : (1 : Nat) = w := (im_eq (a := 1) (by omega) (by omega)).mp y3
      rw [← this] at y5
      exact y5
  have V3 := ip_V_4 (x := nI 1) V2
  obtain ⟨ρ3, e3⟩ : ∃ x, x = im_ru ρ2 4 (nI 1) := ⟨_, rfl⟩
  have lo3 : ∀ k, k ≠ 4 → ρ3 k = ρ2 k := fun k hk => by rw [e3, im_ru_ne hk]
  have p4 : ρ3 4 = nI 1 := by rw [e3, im_ru_eq]
  rw [← e3] at d4 V3
  have p5 : ρ3 5 = nI 1 := by rw [lo3 5 (by decide), lo2 5 (by omega) (by omega)]; exact R1
  have dl3 : im_dl ρ3 = im_dl ρ2 := im_dl_c w2 (fun k hk => lo3 k (by omega))
  have av3 : im_av ρ3 = im_av ρ2 := im_av_c (lo3 0 (by decide)) (fun v hv => by rw [lo3 _ (by omega)])
  have q3 := ip_q_c dl3 av3 a b
  have w3 := d4.2.1
  -- the round
  obtain ⟨r5, σ5, g1, g2, -, g3⟩ := op_rounds d4 (1 : Int32)
  have g4 : r5 = nI (ip_dn 1 ρ3) ∧ ip_rd 1 ρ3 (ip_ro 1 ρ3) ∧ ip_r1 (ip_dn 1 ρ3) ρ3 (ip_ro 1 ρ3) ∧ ip_G σ5 (ip_ro 1 ρ3) := by
    rcases g3 with ⟨-, -, z⟩ | ⟨w, y1, y2, y3, y4, y5, ⟨y6, y7, y8⟩, y9, -⟩
    · exact absurd (show ρ3 5 + 1 ≤ 100000 by rw [p5]; decide) (z ⟨by decide, by decide⟩)
    · have : (1 : Nat) = w := (im_eq (a := 1) (by omega) (by omega)).mp y3
      subst this
      exact ⟨y4, y6, y8 rfl, y9⟩
  obtain ⟨g4, g5, g6, g7⟩ := g4
  obtain ⟨c, ec⟩ : ∃ x, x = ip_dn 1 ρ3 := ⟨_, rfl⟩
  obtain ⟨ρ4, e4⟩ : ∃ x, x = ip_ro 1 ρ3 := ⟨_, rfl⟩
  rw [← ec, ← e4] at g6
  rw [← ec] at g4
  rw [← e4] at g5 g7
  have mt : im_mt ρ3 0 0 := by
    have k1 : ρ3 83 = 0 := by rw [lo3 83 (by decide), lo2 83 (by omega) (by omega)]; exact s3
    have k2 : ρ3 101 = 0 := by rw [lo3 101 (by decide)]; exact i1
    have k3 : ρ3 102 = -100 := by rw [lo3 102 (by decide)]; exact i2
    have k4 : ρ3 84 = 7 := by rw [lo3 84 (by decide), lo2 84 (by omega) (by omega)]; exact s4
    have k5 : ρ3 103 = 100 := by rw [lo3 103 (by decide)]; exact i33
    show ρ3 83 = ρ3 101 ∧ ρ3 102 ≤ ρ3 84 ∧ ρ3 84 ≤ ρ3 103
    rw [k1, k2, k3, k4, k5]
    exact ⟨rfl, by decide, by decide⟩
  have go : ip_go ρ3 1 = 0 := by
    have k4 : ρ3 104 = 1000 := by rw [lo3 104 (by decide)]; exact i4
    show 0 + (if ρ3 104 < ρ3 5 then 1 else 0) = 0
    rw [k4, p5, if_neg (by decide)]
  have x106 : ρ3 106 = 0 := by rw [lo3 106 (by decide)]; exact i6
  obtain ⟨t2, t3, t7, t9, m, m10, tm, t8, tq⟩ := ip_round1 (ρ := ρ3) (ρ' := ρ4) (c := c) (f := a) (g := b) w3 (by rw [lo3 2 (by decide)]; exact S2) (by rw [lo3 3 (by decide)]; exact I2) (by rw [lo3 82 (by decide), p82]; exact im_tn_nI (by omega)) (by rw [lo3 100 (by decide), p100]; exact im_tn_nI (by omega)) (by rw [av3]; exact av2 a ha) (by rw [av3]; exact av2 b hb) mt (by rw [p5, p4]; decide) go (by show im_tn (ρ3 135) = 0; rw [lo3 135 (by decide)]; show im_tn (ρ2 135) = 0; rw [show ρ2 135 = 0 from iz0]; decide) g6
  have z7 : ρ3 7 = 0 := by rw [lo3 7 (by decide), lo2 7 (by omega) (by omega), lo1 7 (by omega) (by omega)]; exact n7
  have z8 : ρ3 8 = 0 := by rw [lo3 8 (by decide), lo2 8 (by omega) (by omega), lo1 8 (by omega) (by omega)]; exact n8
  have z9 : ρ3 9 = 0 := by rw [lo3 9 (by decide), lo2 9 (by omega) (by omega), lo1 9 (by omega) (by omega)]; exact n9
  have S4 : im_tn (ρ4 2) = 1 := by rw [t2, lo3 2 (by decide)]; exact S2
  have I4 : im_tn (ρ4 3) = 1 := by rw [t3, lo3 3 (by decide)]; exact I2
  refine ⟨σ5, ρ4, ⟨g7, (g5.1.2 e (30 * 1) V3).1, by rw [g5.2.1, p5]; rfl, by rw [g2, d2, c3, b2, a2]; exact h84⟩, by rw [g5.1.1, lo3 0 (by decide), N2]; exact m3, ?_⟩
  have es : f_X5_sensor (0 : Int32) (0 : Int32) σ2 = nI a := (op_sensor b4 (s := 0) (w := 0) (by omega) (by decide)).trans p82
  have ei : f_X5_interest 4096 (0 : Int32) (0 : Int32) σ2 = some (nI b) := (op_interest (by decide) b4 (i := 0) (w := 0) (by omega) (by decide)).trans (congrArg some p100)
  have ew : f_X5_wayLength (0 : Int32) (0 : Int32) σ5 = nI m := (op_wayLength g7 (i := 0) (s := 0) (by omega) (by omega)).trans (congrArg nI tm)
  have e6 : f_X5_interest 4096 (0 : Int32) (6 : Int32) σ5 = some (ρ4 106) := op_interest (by decide) g7 (i := 0) (w := 6) (by omega) (by decide)
  have k7 : f_X5_count 4096 (7 : Int32) σ5 = some 1 := (op_count (by decide) g7 (w := 7) (by decide)).trans (congrArg some (by show ρ4 7 = 1; rw [t7, z7]; rfl))
  have k8 : f_X5_count 4096 (8 : Int32) σ5 = some (nI (m - 1)) := (op_count (by decide) g7 (w := 8) (by decide)).trans (congrArg some (by show ρ4 8 = nI (m - 1); rw [t8, z8]; exact Int32.zero_add _))
  have k9 : f_X5_count 4096 (9 : Int32) σ5 = some 0 := (op_count (by decide) g7 (w := 9) (by decide)).trans (congrArg some (by show ρ4 9 = 0; rw [t9, z9]))
  unfold f_L_law_X195_99
  rw [ea, im_bind, a1, im_b2, eb, im_bind, b1, im_b2, es, im_let, ei, im_bind, c1, im_b2, d1, im_b2, g1, im_b2, ew, im_let, ← q3]
  -- the end of the checks
  have j389 : ∀ v52 : Int32, v52 = nI (m - 1) → f_L_law_J389 4096 xs sL v1 σ5 (nI (m - 1)) v52 = f_L_law_L406 4096 xs sL (f_L_law_X568_406 4096 v1) 4096 (0 : Int32) σ5 := fun v52 ev => by
    unfold f_L_law_J389
    rw [ev, if_pos rfl, k9, im_bind, if_pos rfl]
  have j357 : ∀ v : Int32, f_L_law_J357 4096 xs sL v1 σ5 (nI m) v v = f_L_law_L406 4096 xs sL (f_L_law_X568_406 4096 v1) 4096 (0 : Int32) σ5 := fun v => by
    unfold f_L_law_J357
    rw [if_pos rfl, k7, im_bind, if_pos rfl, k8, im_bind]
    by_cases z : m = 0
    · rw [if_pos (by rw [z]; decide)]
      exact j389 0 (by rw [z]; rfl)
    · rw [if_neg (by rw [im_lit 0, im_le (by omega) (by omega)]; omega)]
      exact j389 _ (by rw [show (1 : Int32) = nI 1 from rfl, pk_sub (by omega)])
  rcases tq with ⟨y1, y2, y3, y4⟩ | ⟨t, y1, y2, y3, y4, y5, y6⟩
  · have hab : ¬ nI a = nI b := fun z => by
      have z1 := (im_eq (by omega) (by omega)).mp z
      rw [← z1, ip_q_self w3 (by omega) (by rw [av3]; exact av2 a ha)] at y1
      exact absurd y1 (by decide)
    rw [if_pos y1]
    unfold f_L_law_J295
    rw [if_pos (by rw [g4, y2]; rfl), e6, im_bind, if_pos y1]
    unfold f_L_law_J319
    rw [if_pos (by rw [y3, x106]), if_pos y1, if_pos (by rw [y4]; rfl)]
    unfold f_L_law_J335
    rw [if_neg (by rw [y1]; decide)]
    unfold f_L_law_J345
    rw [if_neg hab]
    exact j357 0
  · have nq : ¬ ip_q ρ3 a b = -1000 := by rw [y1]; exact im_neN (by omega)
    rw [if_neg nq]
    unfold f_L_law_J295
    rw [if_pos (by rw [g4, y3]; rfl), e6, im_bind, if_neg nq]
    unfold f_L_law_J319
    rw [if_pos (by rw [y4, x106, y1]; exact Int32.zero_add _), if_neg nq]
    unfold f_L_law_J335
    by_cases z : a = b
    · have tz := y6.mpr z
      rw [if_pos (by rw [y1, tz]; rfl)]
      unfold f_L_law_J345
      rw [if_pos (by rw [z])]
      exact j357 1
    · have tz : ¬ t = 0 := fun x => z (y6.mp x)
      rw [if_neg (by rw [y1, im_lit 0, im_eq (by omega) (by omega)]; exact tz)]
      unfold f_L_law_J345
      rw [if_neg (by rw [im_eq (by omega) (by omega)]; exact z)]
      exact j357 0
