/-! the law's end -/
theorem s_L_law_589 (n : Nat) (m : iw_M) (v : Int32) (k : Int32 → Option Int32) (nn : Nat) : f_L_law_L589 n m v k (nn + 1) = f_L_law_B589 n m v k (f_L_law_L589 n m v k nn) := rfl
theorem im_ru_ru (ρ : Nat → Int32) (j : Nat) (a b : Int32) : im_ru (im_ru ρ j a) j b = im_ru ρ j b := by
  funext k
  unfold im_ru
  by_cases h : k = j
  · rw [if_pos h, if_pos h]
  · rw [if_neg h, if_neg h, if_neg h]
theorem ip_L589 {σ : iw_M} {ρ : Nat → Int32} (hG : ip_G σ ρ) (k : Int32 → Option Int32) : ∀ (d i nn : Nat), i + d = im_tn (ρ 3) → d < nn → f_L_law_L589 4096 σ (ρ 5) k nn (nI (ip_go ρ i)) (nI i) = k (nI (ip_go ρ (im_tn (ρ 3)))) := by
  have b3 := hG.2.1.1.2.2.2.1.1
  intro d
  induction d with
  | zero =>
    intro i nn h1 h2
    obtain ⟨nn, rfl⟩ : ∃ q, nn = q + 1 := ⟨nn - 1, by omega⟩
    rw [s_L_law_589]
    unfold f_L_law_B589
    rw [ip_c3 hG, im_bind, if_pos (by rw [im_le (by omega) (by omega)]; omega), show i = im_tn (ρ 3) by omega]
  | succ d ih =>
    intro i nn h1 h2
    obtain ⟨nn, rfl⟩ : ∃ q, nn = q + 1 := ⟨nn - 1, by omega⟩
    have e4 : f_X5_interest 4096 (nI i) (4 : Int32) σ = some (ρ (100 + 7 * i + 4)) := op_interest (by decide) hG (w := 4) (by omega) (by decide)
    have hi := ih (i + 1) nn (by omega) (by omega)
    rw [ip_go_s] at hi
    rw [s_L_law_589]
    unfold f_L_law_B589
    rw [ip_c3 hG, im_bind, if_neg (by rw [im_le (by omega) (by omega)]; omega), e4, im_bind]
    unfold f_L_law_J618
    by_cases c : ρ 5 ≤ ρ (100 + 7 * i + 4)
    · rw [if_neg (Int32.not_lt.mpr c)] at hi
      rw [if_pos c, im_let, im_let, Int32.add_zero, nI_1]
      exact hi
    · rw [if_pos (Int32.not_le.mp c)] at hi
      rw [if_neg c, im_let, im_let, nI_1, nI_1]
      exact hi
theorem ip_J746 {σ : iw_M} {ρ : Nat → Int32} (hG : ip_G σ ρ) (hN : 3 ≤ im_tn (ρ 0)) {p : Nat} (p1 : 1 ≤ p) (p2 : p ≤ 50) : f_L_law_J746 4096 (nI p) σ = some 1 := by
  -- the period is set again
  have b4 := hG.2.1.1.2.2.2.2
  have b41 := b4.1.1
  obtain ⟨r1, σ1, a1, -, a2⟩ := op_setPeriod 4096 hG (nI p)
  have a3 : r1 = ρ 4 ∧ ip_G σ1 (im_ru ρ 4 (nI p)) := by
    rcases a2 with ⟨-, -, z⟩ | ⟨w, y1, y2, y3, y4, y5, -⟩
    · exact absurd ⟨by rw [im_lit 1, im_le (by omega) (by omega)]; exact p1, by rw [im_lit 50, im_le (by omega) (by omega)]; exact p2⟩ z
    · rw [y3]
      exact ⟨y4, y5⟩
  obtain ⟨a3, g1⟩ := a3
  have hN1 : 3 ≤ im_tn (im_ru ρ 4 (nI p) 0) := by rw [im_ru_ne (by decide)]; exact hN
  have le1 : (1 : Int32) ≤ r1 := by rw [a3, b4.1.2, im_lit 1, im_le (by omega) (by omega)]; omega
  generalize im_ru ρ 4 (nI p) = ρ1 at g1 hN1
  have c0 := g1.2.1.1.1.1
  have c1 := g1.2.1.1.2.1.1
  have c2 := g1.2.1.1.2.2.1.1
  have c3 := g1.2.1.1.2.2.2.1.1
  have nd : ∀ k, k < 3 → ∃ j, j < im_tn (ρ1 0) ∧ nI k = nI j := fun k hk => ⟨k, by omega, rfl⟩
  have no : ∀ {n m : Nat}, n ≤ m → m < 1000 → ¬ ∃ k, k < n ∧ nI m = nI k := fun h1 h2 ⟨k, k1, k2⟩ => by
    have := (im_eq (by omega) (by omega)).mp k2
    omega
  -- addNode(0)
  obtain ⟨r2, σ2, d1, -, d2, d3⟩ := op_addNode 4096 g1 (0 : Int32)
  have d4 : r2 = -1002 := d2 (by decide)
  have g2 : ip_G σ2 ρ1 := by
    rcases d3 with ⟨-, z, -⟩ | ⟨-, z, -⟩
    · exact z
    · exact absurd z (by decide)
  -- charge(10, 0)
  obtain ⟨r3, σ3, e1, -, ⟨e2, -⟩, e3⟩ := op_charge g2 (10 : Int32) (0 : Int32)
  have no10 : ¬ ∃ k, k < im_tn (ρ1 0) ∧ (10 : Int32) = nI k := no (n := im_tn (ρ1 0)) (m := 10) (by omega) (by decide)
  have e4 : r3 = -1001 := e2 no10
  have g3 : ip_G σ3 ρ1 := by
    rcases e3 with ⟨-, z⟩ | ⟨k, z1, z2, -⟩
    · exact z
    · exact absurd ⟨k, z1, z2⟩ no10
  -- link(0, 0, 1)
  obtain ⟨r4, σ4, f1, -, f2⟩ := op_link (n := 4096) (by decide) g3 (0 : Int32) (0 : Int32) (1 : Int32)
  have f3 : r4 = -1003 ∧ ip_G σ4 ρ1 := by
    rcases f2 with ⟨-, z, y⟩ | ⟨a, b, w, w1, w2, -, -, z, z1, z2, -⟩
    · exact ⟨(y (nd 0 (by decide)) (nd 0 (by decide))).2.1 (by decide) rfl, z⟩
    · have y1 : (0 : Nat) = a := (im_eq (a := 0) (by omega) (by omega)).mp z1
      have y2 : (0 : Nat) = b := (im_eq (a := 0) (by omega) (by omega)).mp z2
      omega
  obtain ⟨f3, g4⟩ := f3
  -- link(0, 1, 21)
  obtain ⟨r5, σ5, h1, -, h2⟩ := op_link (n := 4096) (by decide) g4 (0 : Int32) (1 : Int32) (21 : Int32)
  have h3 : r5 = -1002 ∧ ip_G σ5 ρ1 := by
    rcases h2 with ⟨-, z, y⟩ | ⟨a, b, w, -, -, w1, w2, -, -, -, z1, -⟩
    · exact ⟨(y (nd 0 (by decide)) (nd 1 (by decide))).1 (by decide), z⟩
    · have : (21 : Nat) = w := (im_eq (a := 21) (by omega) (by omega)).mp z1
      omega
  obtain ⟨h3, g5⟩ := h3
  -- cut(20)
  obtain ⟨r6, σ6, i1, -, i2, i3⟩ := op_cut (n := 4096) (by decide) g5 (20 : Int32)
  have no20 : ¬ ∃ k, k < im_tn (ρ1 1) ∧ (20 : Int32) = nI k := no (n := im_tn (ρ1 1)) (m := 20) (by omega) (by decide)
  have i4 : r6 = -1001 := i2 no20
  have g6 : ip_G σ6 ρ1 := by
    rcases i3 with ⟨-, z⟩ | ⟨k, z1, z2, -⟩
    · exact z
    · exact absurd ⟨k, z1, z2⟩ no20
  -- addSensor(0, 8, 0)
  obtain ⟨r7, σ7, j1, -, j2⟩ := op_addSensor (n := 4096) g6 (0 : Int32) (8 : Int32) (0 : Int32)
  have j3 : r7 = -1002 ∧ ip_G σ7 ρ1 := by
    rcases j2 with ⟨-, z, y⟩ | z
    · exact ⟨(y (nd 0 (by decide))).1 (by decide), z⟩
    · have : f_X5_addSensor 4096 (0 : Int32) (8 : Int32) (0 : Int32) σ6 = some (-1002, σ6) := by
        obtain ⟨⟨N, N1, N2, N3, N4⟩, -⟩ := ip_cnt g6.1 g6.2.1
        unfold f_X5_addSensor
        rw [show f_X1_has 20 (0 : Int32) (0 : Int32) σ6 = f_X1_has 20 (nI 0) (nI 0) σ6 from rfl, im_has iw_net_20 (by decide) (by omega) _ N4, im_b01, im_within, im_b01, if_pos ⟨0, by omega, rfl⟩, if_neg (by decide)]
      rw [this] at j1
      cases j1
      exact ⟨rfl, g6⟩
  obtain ⟨j3, g7⟩ := j3
  -- measure(6, 0)
  obtain ⟨r8, σ8, k1, -, k2, k3⟩ := op_measure g7 (6 : Int32) (0 : Int32)
  have no6 : ¬ ∃ k, k < im_tn (ρ1 2) ∧ (6 : Int32) = nI k := no (n := im_tn (ρ1 2)) (m := 6) (by omega) (by decide)
  have k4 : r8 = -1001 := k2 no6
  have g8 : ip_G σ8 ρ1 := by
    rcases k3 with ⟨-, z⟩ | ⟨k, z1, z2, -⟩
    · exact z
    · exact absurd ⟨k, z1, z2⟩ no6
  -- ask(0, 0, 5, 4, 100000)
  have l1 : f_X5_ask 4096 (0 : Int32) (0 : Int32) (5 : Int32) (4 : Int32) (100000 : Int32) σ8 = some (-1002, σ8) := by
    obtain ⟨⟨N, N1, N2, N3, N4⟩, -⟩ := ip_cnt g8.1 g8.2.1
    unfold f_X5_ask
    rw [show f_X1_has 20 (0 : Int32) (0 : Int32) σ8 = f_X1_has 20 (nI 0) (nI 0) σ8 from rfl, im_has iw_net_20 (by decide) (by omega) _ N4, im_b01, im_within, im_b01, im_within, im_b01, im_within, im_b01, if_pos ⟨0, by omega, rfl⟩, if_pos (by decide), if_pos (by decide), if_neg (by decide)]
  -- withdraw(5)
  obtain ⟨r9, σ9, m1, -, m2, m3⟩ := op_withdraw (n := 4096) (by decide) g8 (5 : Int32)
  have no5 : ¬ ∃ k, k < im_tn (ρ1 3) ∧ (5 : Int32) = nI k := no (n := im_tn (ρ1 3)) (m := 5) (by omega) (by decide)
  have m4 : r9 = -1001 := m2 no5
  have g9 : ip_G σ9 ρ1 := by
    rcases m3 with ⟨-, z⟩ | ⟨k, z1, z2, -⟩
    · exact z
    · exact absurd ⟨k, z1, z2⟩ no5
  -- rounds(101)
  obtain ⟨r10, σ10, n1, -, n2, n3⟩ := op_rounds g9 (101 : Int32)
  have n4 : r10 = -1002 := n2 (by decide)
  have g10 : ip_G σ10 ρ1 := by
    rcases n3 with ⟨-, z, -⟩ | ⟨w, w1, w2, w3, -⟩
    · exact z
    · have : (101 : Nat) = w := (im_eq (a := 101) (by omega) (by omega)).mp w3
      omega
  unfold f_L_law_J746
  rw [a1, im_b2, if_pos le1, op_digest (by decide) g1, im_bind, d1, im_b2, if_pos d4, e1]
  unfold iw_let2
  simp only []
  rw [if_pos e4, f1, im_b2, if_pos f3, h1, im_b2, if_pos h3, i1, im_b2, if_pos i4, j1, im_b2, if_pos j3, k1]
  simp only []
  rw [if_pos k4, l1, im_b2, if_pos rfl, m1, im_b2, if_pos m4, n1, im_b2, if_pos n4, op_count12, im_bind, if_pos rfl, op_load20 4096 g10, im_bind, if_pos rfl, op_bestPeriod201, im_b2, if_pos rfl, op_digest (by decide) g10, im_bind, if_pos rfl]
/-- behind the changes: what ends, the best period, errors that change nothing -/
theorem ip_X568 (v1 : Int32) {e : Int32} {R : Nat} (hR : R ≤ 200) {σ : iw_M} {ρ : Nat → Int32} (h : ip_L e R σ ρ) (hN : 3 ≤ im_tn (ρ 0)) : f_L_law_X568_406 4096 v1 σ = some 1 := by
  obtain ⟨hG, hV, h5, h84⟩ := h
  have b3 := hG.2.1.1.2.2.2.1.1
  obtain ⟨r1, σ1, a1, -, -, a2⟩ := op_rounds hG (1 : Int32)
  have a3 : ip_rd 1 ρ (ip_ro 1 ρ) ∧ ip_r1 (ip_dn 1 ρ) ρ (ip_ro 1 ρ) ∧ ip_G σ1 (ip_ro 1 ρ) := by
    rcases a2 with ⟨-, -, z⟩ | ⟨w, y1, y2, y3, y4, y5, ⟨y6, y7, y8⟩, y9, -⟩
    · refine absurd ?_ (z ⟨by decide, by decide⟩)
      rw [h5, nI_1, im_lit 100000, im_le (by omega) (by omega)]
      omega
    · have : (1 : Nat) = w := (im_eq (a := 1) (by omega) (by omega)).mp y3
      subst this
      exact ⟨y6, y8 rfl, y9⟩
  obtain ⟨a3, a4, g1⟩ := a3
  have hN1 : 3 ≤ im_tn (ip_ro 1 ρ 0) := by rw [a3.1.1]; exact hN
  have e5 : ip_ro 1 ρ 5 = ρ 5 + 1 := a3.2.1
  have e11 : ip_ro 1 ρ 11 = ρ 11 + nI (ip_go ρ (im_tn (ρ 3))) := a4.1
  generalize ip_ro 1 ρ = ρ1 at g1 hN1 e5 e11
  have hW1 := g1.2.1
  have b4 := hW1.1.2.2.2.2
  have b41 := b4.1.1
  obtain ⟨x, σ2, c1, c2, c3, c4, c5, g2, -⟩ := op_bestPeriod g1 (N := 6) (by decide) (by decide)
  obtain ⟨r3, σ3, d1, -, d2⟩ := op_setPeriod 4096 g2 (nI x)
  have d3 : r3 = ρ1 4 ∧ ip_G σ3 (im_ru ρ1 4 (nI x)) := by
    rcases d2 with ⟨-, -, z⟩ | ⟨w, y1, y2, y3, y4, y5, -⟩
    · exact absurd ⟨by rw [im_lit 1, im_le (by omega) (by omega)]; exact c2, by rw [im_lit 50, im_le (by omega) (by omega)]; exact c3⟩ z
    · rw [y3]
      exact ⟨y4, y5⟩
  obtain ⟨d3, g3⟩ := d3
  obtain ⟨σ4, f1, f2, g4, -⟩ := op_willDeliver g3 (w := 6) (by decide) (by decide)
  obtain ⟨y, hy, ey⟩ := ip_lo (v1 >>> ((12 : Int32) &&& 31)) (c := 50) (m := 50) rfl (by decide) (by decide)
  have e1y : (1 : Int32) + nI y = nI (1 + y) := nI_add 1 y
  obtain ⟨r5, σ5, h1, -, h2⟩ := op_setPeriod 4096 g4 (nI (1 + y))
  have h3 : ip_G σ5 (im_ru ρ1 4 (nI (1 + y))) := by
    rcases h2 with ⟨-, -, z⟩ | ⟨w, y1, y2, y3, y4, y5, -⟩
    · exact absurd ⟨by rw [im_lit 1, im_le (by omega) (by omega)]; omega, by rw [im_lit 50, im_le (by omega) (by omega)]; omega⟩ z
    · rw [im_ru_ru] at y5
      rw [y3]
      exact y5
  obtain ⟨σ6, i1, i2, g6, -⟩ := op_willDeliver h3 (w := 6) (by decide) (by decide)
  obtain ⟨σ7, j1, j2, g7, -⟩ := op_willDeliver g6 (w := 6) (by decide) (by decide)
  have q1 : ip_dn 6 (im_ru ρ1 4 (nI x)) = ip_dp ρ1 6 x := rfl
  have q2 : ip_dn 6 (im_ru ρ1 4 (nI (1 + y))) = ip_dp ρ1 6 (1 + y) := rfl
  rw [q1] at f1 f2
  rw [q2] at i1 i2 j1
  have fin : f_L_law_J746 4096 r3 σ7 = some 1 := by
    rw [d3, b4.1.2]
    exact ip_J746 g7 (by rw [im_ru_ne (by decide)]; exact hN1) b4.2 (by omega)
  have k5 : f_X5_count 4096 (5 : Int32) σ = some (ρ 5) := op_count (by decide) hG (w := 5) (by decide)
  have k11 : f_X5_count 4096 (11 : Int32) σ = some (ρ 11) := op_count (by decide) hG (w := 11) (by decide)
  have l5 : f_X5_count 4096 (5 : Int32) σ1 = some (ρ1 5) := op_count (by decide) g1 (w := 5) (by decide)
  have l11 : f_X5_count 4096 (11 : Int32) σ1 = some (ρ1 11) := op_count (by decide) g1 (w := 11) (by decide)
  have l4 : f_X5_count 4096 (4 : Int32) σ7 = some (nI (1 + y)) := (op_count (by decide) g7 (w := 4) (by decide)).trans (congrArg some (by unfold im_n12; rw [if_neg (by decide), im_ru_eq]))
  unfold f_L_law_X568_406
  rw [k5, im_bind, k11, im_bind, show ∀ kk, f_L_law_L589 4096 σ (ρ 5) kk 4096 (0 : Int32) (0 : Int32) = f_L_law_L589 4096 σ (ρ 5) kk 4096 (nI (ip_go ρ 0)) (nI 0) from fun _ => rfl, ip_L589 hG _ (im_tn (ρ 3)) 0 4096 (by omega) (by omega)]
  unfold f_L_law_X627_589
  rw [a1, im_b2, l11, im_bind, if_pos e11, l5, im_bind, if_pos e5, show f_X5_bestPeriod 4096 (6 : Int32) σ1 = f_X5_bestPeriod 4096 (nI 6) σ1 from rfl, c1, im_b2, d1, im_b2, show f_X5_willDeliver 4096 (6 : Int32) σ3 = f_X5_willDeliver 4096 (nI 6) σ3 from rfl, f1, im_b2, ey, im_bind, e1y, h1, im_b2, if_neg (by rw [im_lit 1, im_lt (by omega) (by omega)]; omega), if_neg (by rw [im_lit 50, im_lt (by omega) (by omega)]; omega), show f_X5_willDeliver 4096 (6 : Int32) σ5 = f_X5_willDeliver 4096 (nI 6) σ5 from rfl, i1, im_b2]
  have best := c4 (1 + y) (by omega) (by omega)
  rw [if_neg (by rw [im_lt (by omega) (by omega)]; omega), show f_X5_willDeliver 4096 (6 : Int32) σ6 = f_X5_willDeliver 4096 (nI 6) σ6 from rfl, j1, im_b2]
  by_cases z : nI (ip_dp ρ1 6 (1 + y)) = nI (ip_dp ρ1 6 x)
  · have z' := (im_eq (by omega) (by omega)).mp z
    rw [if_pos z, l4, im_bind, if_neg (by
      rw [im_lt (by omega) (by omega)]
      intro w
      have := c5 (1 + y) (by omega) w
      omega)]
    exact fin
  · rw [if_neg z]
    exact fin
/-- the law answers true on every script -/
theorem ip_law (xs : Nat → Int32) (sL : Nat) : f_L_law 4096 xs sL is_x0 = some 1 := by
  obtain ⟨v1, ev⟩ := ip_cell xs sL (k := 0) (by decide)
  obtain ⟨σ, ρ, ⟨σ1, σ2, σ3, σ4, σ5, a1, a2, a3, a4, a5, a6⟩, L0, n0, n2, n3, n7, n8, n9⟩ := ip_first
  obtain ⟨j, hj, ej⟩ := ip_lo v1 (c := 5) (m := 5) rfl (by decide) (by decide)
  obtain ⟨e', σ', ρ', N1, b1⟩ := ip_L99 xs sL (many := 3 + j) (by omega) (f_L_law_X195_99 4096 xs sL v1 (nI (3 + j))) (3 + j) 0 4096 0 σ ρ (by omega) (by omega) ⟨L0, n0, n2, n3, ⟨n7, n8, n9⟩, fun v hv => absurd hv (Nat.not_lt_zero _)⟩
  obtain ⟨σ'', ρ'', L2, N2, b2⟩ := ip_X195 xs sL v1 (many := 3 + j) (by omega) (by omega) N1
  obtain ⟨e3, R3, σ3', ρ3, h1, L3, N3, b3⟩ := ip_L406 xs sL (f_L_law_X568_406 4096 v1) 20 0 4096 e' 2 σ'' ρ'' (by omega) (by omega) (by omega) L2 N2
  unfold f_L_law
  rw [show f_L_cell xs sL (0 : Int32) = f_L_cell xs sL (nI 0) from rfl, ev, im_bind, ip_undo0]
  unfold iw_let2
  simp only []
  rw [if_pos trivial, a1, im_b2, if_pos rfl, a2, im_b2, if_pos rfl, a3, im_b2, if_pos rfl, a4, im_b2, if_pos rfl, a5, im_b2, if_pos rfl, a6, im_b2, if_pos rfl, ej, im_bind, show (3 : Int32) + nI j = nI (3 + j) from nI_add 3 j, im_let, show ∀ kk, f_L_law_L99 4096 xs sL (nI (3 + j)) kk 4096 (0 : Int32) σ = f_L_law_L99 4096 xs sL (nI (3 + j)) kk 4096 (nI 0) σ from fun _ => rfl, b1, b2, show ∀ kk, f_L_law_L406 4096 xs sL kk 4096 (0 : Int32) σ'' = f_L_law_L406 4096 xs sL kk 4096 (nI 0) σ'' from fun _ => rfl, b3]
  exact ip_X568 v1 h1 L3 N3
