/-! what the calls that read answer, by the row -/
def ip_gm (ρ : Nat → Int32) : iw_M := fun r => if r = 85 then ρ else fun _ => 0
theorem ip_gm_85 (ρ : Nat → Int32) : ip_gm ρ 85 = ρ := if_pos rfl
theorem op_energy {σ : iw_M} {ρ : Nat → Int32} (h : ip_G σ ρ) {k : Nat} (hk : k < im_tn (ρ 0)) : f_X5_energy (nI k) σ = ρ (12 + k) := by
  obtain ⟨⟨N, N1, N2, N3, N4⟩, -⟩ := ip_cnt h.1 h.2.1
  unfold f_X5_energy
  rw [show (0 : Int32) = nI 0 from rfl, im_has iw_net_20 (by decide) (by omega) _ N4, show nI 0 = (0 : Int32) from rfl, im_b01, if_pos ⟨k, by omega, rfl⟩]
  unfold f_X1_energyOf
  rw [im_at (by rw [(im_al_n 20 iw_net_20).2.1]; omega), h.1.2.1 k hk]
theorem op_linkPart {σ : iw_M} {ρ : Nat → Int32} (h : ip_G σ ρ) {l w : Nat} (hl : l < im_tn (ρ 1)) (hw : w ≤ 2) : f_X5_linkPart (nI l) (nI w) σ = ρ (22 + 3 * l + w) := by
  obtain ⟨-, ⟨N, N1, N2, N3, N4⟩, -⟩ := ip_cnt h.1 h.2.1
  unfold f_X5_linkPart
  rw [show f_X1_has 20 (1 : Int32) (nI l) σ = f_X1_has 20 (nI 1) (nI l) σ from rfl, im_has iw_net_20 (by decide) (by omega) _ N4, im_b01, im_within, im_b01, if_pos ⟨l, by omega, rfl⟩, if_pos ⟨nI_pos' (by omega), by rw [im_lit 2, im_le (by omega) (by omega)]; exact hw⟩, im_partOfLink iw_net_20 (by omega), h.1.2.2.1 _ (by omega), Nat.add_assoc]
theorem op_sensor {σ : iw_M} {ρ : Nat → Int32} (h : ip_G σ ρ) {s w : Nat} (hl : s < im_tn (ρ 2)) (hw : w ≤ 2) : f_X5_sensor (nI s) (nI w) σ = ρ (82 + 3 * s + w) := by
  obtain ⟨-, -, ⟨N, N1, N2, N3, N4⟩, -⟩ := ip_cnt h.1 h.2.1
  unfold f_X5_sensor
  rw [show f_X1_has 20 (2 : Int32) (nI s) σ = f_X1_has 20 (nI 2) (nI s) σ from rfl, im_has iw_net_20 (by decide) (by omega) _ N4, im_b01, im_within, im_b01, if_pos ⟨s, by omega, rfl⟩, if_pos ⟨nI_pos' (by omega), by rw [im_lit 2, im_le (by omega) (by omega)]; exact hw⟩, im_sensorPart iw_net_20 (by omega), h.1.2.2.2.1 _ (by omega), Nat.add_assoc]
theorem op_wayLength {σ : iw_M} {ρ : Nat → Int32} (h : ip_G σ ρ) {i s : Nat} (hi : i < im_tn (ρ 3)) (hs : s < im_tn (ρ 2)) : f_X5_wayLength (nI i) (nI s) σ = nI (im_wlen ρ i s) := by
  obtain ⟨-, -, ⟨S, S1, S2, S3, S4⟩, ⟨I, I1, I2, I3, I4⟩⟩ := ip_cnt h.1 h.2.1
  unfold f_X5_wayLength
  rw [im_hasWay I1 S1 I4 S4, im_b01, if_pos ⟨⟨i, by omega, rfl⟩, ⟨s, by omega, rfl⟩⟩, im_wayOf, im_lenOf iw_net_20 (by omega), (h.1.2.2.2.2.2.1 i s (by omega) (by omega)).1]
  exact (h.2.1.2.2.2.2.2 i s (by omega) (by omega)).1.2
theorem op_wayNode {σ : iw_M} {ρ : Nat → Int32} (h : ip_G σ ρ) {i s : Nat} (hi : i < im_tn (ρ 3)) (hs : s < im_tn (ρ 2)) {k : Nat} (hk : k < 1000) : f_X5_wayNode (nI i) (nI s) (nI k) σ = if k < im_wlen ρ i s then nI (im_wn ρ i s k) else -1000 := by
  obtain ⟨-, -, ⟨S, S1, S2, S3, S4⟩, ⟨I, I1, I2, I3, I4⟩⟩ := ip_cnt h.1 h.2.1
  obtain ⟨g1, g2, g3⟩ := h.2.1.2.2.2.2.2 i s hi hs
  have g11 := g1.1
  have e1 : im_wlen ρ i s = im_tn (ρ (im_wa i s)) := rfl
  unfold f_X5_wayNode
  rw [im_hasWay I1 S1 I4 S4, im_b01, if_pos ⟨⟨i, by omega, rfl⟩, ⟨s, by omega, rfl⟩⟩, if_pos (nI_pos' (by omega)), im_wayOf, im_let, im_lenOf iw_net_20 (by omega), (h.1.2.2.2.2.2.1 i s (by omega) (by omega)).1, g1.2]
  by_cases f : k < im_wlen ρ i s
  · rw [if_neg (by rw [im_le (by omega) (by omega)]; omega), if_pos f, im_nodeOfX iw_net_20 (by omega), (h.1.2.2.2.2.2.1 i s (by omega) (by omega)).2 k (by omega)]
    exact (g2 k (by omega)).2
  · rw [if_pos (by rw [im_le (by omega) (by omega)]; omega), if_neg f]
theorem op_count {n : Nat} (hn : 4096 ≤ n) {σ : iw_M} {ρ : Nat → Int32} (h : ip_G σ ρ) {w : Nat} (hw : w ≤ 11) : f_X5_count n (nI w) σ = some (im_n12 ρ w) := by
  unfold f_X5_count
  rw [im_within, im_b01, if_pos ⟨nI_pos' (by omega), by rw [im_lit 11, im_le (by omega) (by omega)]; exact hw⟩]
  unfold im_n12
  by_cases e : w = 6
  · subst e
    rw [show f_X1_number n 20 (nI 6) σ = f_X1_number n 20 6 σ from rfl, im_num6 hn iw_net_20 h.2.1 h.1, im_bind, if_pos rfl]
  · rw [im_num n iw_net_20 (by omega) e, im_bind, h.1.1 w (by omega) e, if_neg e]
theorem op_count12 (n : Nat) (σ : iw_M) : f_X5_count n (12 : Int32) σ = some (-1002) := by
  unfold f_X5_count
  rw [im_within, im_b01, if_neg (by decide)]
theorem op_interest {n : Nat} (hn : 4096 ≤ n) {σ : iw_M} {ρ : Nat → Int32} (h : ip_G σ ρ) {i w : Nat} (hi : i < im_tn (ρ 3)) (hw : w ≤ 7) : f_X5_interest n (nI i) (nI w) σ = some (if w = 7 then nI (im_cn (im_wl ρ i) (im_tn (ρ 2))) else ρ (100 + 7 * i + w)) := by
  obtain ⟨-, -, -, ⟨I, I1, I2, I3, I4⟩⟩ := ip_cnt h.1 h.2.1
  unfold f_X5_interest
  rw [show f_X1_has 20 (3 : Int32) (nI i) σ = f_X1_has 20 (nI 3) (nI i) σ from rfl, im_has iw_net_20 (by decide) (by omega) _ I4, im_b01, im_within, im_b01, if_pos ⟨i, by omega, rfl⟩, if_pos ⟨nI_pos' (by omega), by rw [im_lit 7, im_le (by omega) (by omega)]; exact hw⟩]
  by_cases e : w = 7
  · subst e
    unfold f_X1_interestPart
    rw [if_pos (show nI 7 = (7 : Int32) from rfl), im_waysOf hn iw_net_20 h.2.1 h.1 hi, im_bind, im_bind, if_pos rfl]
  · rw [im_intPart n iw_net_20 (by omega) (by omega), im_bind, h.1.2.2.2.2.1 _ (by omega), Nat.add_assoc, if_neg e]
/-- a link's load -/
def ip_ld (ρ : Nat → Int32) (l : Nat) : Nat := im_su (fun i => im_su (im_o1 ρ l i) (im_tn (ρ 2)) 0) (im_tn (ρ 3)) 0
theorem op_load {n : Nat} (hn : 4096 ≤ n) {σ : iw_M} {ρ : Nat → Int32} (h : ip_G σ ρ) {l : Nat} (hl : l < im_tn (ρ 1)) : f_X5_load n (nI l) σ = some (nI (ip_ld ρ l)) := by
  obtain ⟨-, ⟨L, L1, L2, L3, L4⟩, -⟩ := ip_cnt h.1 h.2.1
  have b3 := h.2.1.1.2.2.2.1.1
  unfold f_X5_load
  rw [show f_X1_has 20 (1 : Int32) (nI l) σ = f_X1_has 20 (nI 1) (nI l) σ from rfl, im_has iw_net_20 (by decide) (by omega) _ L4, im_b01, if_pos ⟨l, by omega, rfl⟩]
  have e := im_ends iw_net_20 h.2.1 h.1 hl
  unfold f_X1_waysOver
  rw [e.1, e.2.1, show (0 : Int32) = nI 0 from rfl, im_waysOver_L5 hn iw_net_20 h.2.1 h.1 hl _ (im_tn (ρ 3)) 0 n 0 (by omega) (by omega)]
  unfold f_X1_waysOver_X65_5
  rw [im_bind, Nat.zero_add]
  rfl
theorem op_load20 (n : Nat) {σ : iw_M} {ρ : Nat → Int32} (h : ip_G σ ρ) : f_X5_load n (20 : Int32) σ = some (-1001) := by
  obtain ⟨-, ⟨L, L1, L2, L3, L4⟩, -⟩ := ip_cnt h.1 h.2.1
  unfold f_X5_load
  rw [show f_X1_has 20 (1 : Int32) (20 : Int32) σ = f_X1_has 20 (nI 1) (nI 20) σ from rfl, im_has iw_net_20 (by decide) (by omega) _ L4, im_b01, if_neg]
  rintro ⟨k, hk, e⟩
  have := (im_eq (by decide) (by omega)).mp e
  omega
theorem op_isWhole {n : Nat} (hn : 4096 ≤ n) {σ : iw_M} {ρ : Nat → Int32} (h : ip_G σ ρ) {i s : Nat} (hi : i < im_tn (ρ 3)) (hs : s < im_tn (ρ 2)) : ∃ σ', f_X5_isWhole n (nI i) (nI s) σ = some (if im_ww ρ i s = true then 1 else 0, σ') ∧ ip_G σ' ρ ∧ σ' 84 = σ 84 := by
  have hN := h.1
  have hW := h.2.1
  obtain ⟨-, -, ⟨S, S1, S2, S3, S4⟩, ⟨I, I1, I2, I3, I4⟩⟩ := ip_cnt hN hW
  unfold f_X5_isWhole
  rw [im_hasWay I1 S1 I4 S4, im_b01, if_pos ⟨⟨i, by omega, rfl⟩, ⟨s, by omega, rfl⟩⟩]
  obtain ⟨σx', e1, e2, e3, e4⟩ := im_learn hn (Or.inl rfl : im_path 8) iw_net_20 (by decide) hW hN
  have hN' : im_NR σx' 20 ρ := im_NR_congr hN (fun j j1 j2 => e4 _ (by omega) (by omega))
  rw [e1, im_bind, im_aliveNodes hn iw_net_20 hW hN', im_bind, im_wayOf, im_carry hn (Or.inl rfl : im_path 8) iw_net_20 hW hN' e2 hi hs, im_bind, im_b01]
  have hR : ip_G σx' ρ := ip_keep h (fun b hb => e4 b (by omega) (by omega))
  by_cases q : im_ww ρ i s = true
  · rw [if_pos q, if_pos q]
    exact ⟨_, rfl, hR, e4 84 (by decide) (by decide)⟩
  · rw [if_neg q, if_neg q]
    exact ⟨_, rfl, hR, e4 84 (by decide) (by decide)⟩
theorem op_digest {n : Nat} (hn : 4096 ≤ n) {σ : iw_M} {ρ : Nat → Int32} (h : ip_G σ ρ) : f_X5_digest n σ = some (im_dg ρ) := by
  unfold f_X5_digest
  rw [im_hash hn iw_net_20 h.2.1 h.1, im_bind]
/-- the least times from f -/
noncomputable def ip_tf (ρ : Nat → Int32) (f : Nat) : Nat → Nat := Classical.epsilon (fun T => im_D (im_dl ρ) (im_av ρ) f T)
theorem ip_tf_ok {ρ : Nat → Int32} (hw : im_WF ρ) {f : Nat} (hf : f < 10) (hA : im_av ρ f = true) : im_D (im_dl ρ) (im_av ρ) f (ip_tf ρ f) := by
  have hW : im_WF (ip_gm ρ 85) := by rw [ip_gm_85]; exact hw
  obtain ⟨τ0, a1, a2, a3⟩ := im_looks (n := 4096) (by decide) hW
  obtain ⟨τ, T, x1, x2, x3, x4, x5⟩ := im_reaches (n := 4096) (by decide) hw hf ((a3 85 (by decide)).trans (ip_gm_85 ρ)) (by rw [ip_gm_85] at a2; exact a2)
  exact Classical.epsilon_spec (p := fun T => im_D (im_dl ρ) (im_av ρ) f T) ⟨T, x3 hA⟩
noncomputable def ip_q (ρ : Nat → Int32) (f v : Nat) : Int32 := if im_av ρ f = true ∧ im_av ρ v = true ∧ ip_tf ρ f v < 1000000 then nI (ip_tf ρ f v) else -1000
theorem op_quickest {n : Nat} (hn : 4096 ≤ n) {σ : iw_M} {ρ : Nat → Int32} (h : ip_G σ ρ) {f v : Nat} (hf : f < im_tn (ρ 0)) (hv : v < im_tn (ρ 0)) : ∃ σ', f_X5_quickest n (nI f) (nI v) σ = some (ip_q ρ f v, σ') ∧ ip_G σ' ρ ∧ σ' 84 = σ 84 := by
  have hN := h.1
  have hW := h.2.1
  obtain ⟨⟨N, N1, N2, N3, N4⟩, -⟩ := ip_cnt hN hW
  have hM := im_mk_1024 (im_al ρ) (show im_tn (ρ 0) ≤ 10 by omega)
  unfold f_X5_quickest
  rw [show f_X1_has 20 (0 : Int32) (nI f) σ = f_X1_has 20 (nI 0) (nI f) σ from rfl, show f_X1_has 20 (0 : Int32) (nI v) σ = f_X1_has 20 (nI 0) (nI v) σ from rfl, im_has iw_net_20 (by decide) (by omega) _ N4, im_has iw_net_20 (by decide) (by omega) _ N4, im_b01, im_b01, if_pos ⟨f, by omega, rfl⟩, if_pos ⟨v, by omega, rfl⟩, im_aliveNodes hn iw_net_20 hW hN, im_bind, im_holds hM (by omega), im_holds hM (by omega), im_av_bit, im_av_bit, im_b01, im_b01]
  unfold ip_q
  by_cases q : im_av ρ f = true
  · rw [if_pos q]
    have hD := ip_tf_ok hW (show f < 10 by omega) q
    generalize ip_tf ρ f = T at hD ⊢
    have hTv := hD.2.1 v
    by_cases q2 : im_av ρ v = true
    · rw [if_pos q2]
      obtain ⟨σ1, e1, e2, e3, e4⟩ := im_learn hn (Or.inl rfl : im_path 8) iw_net_20 (by decide) hW hN
      obtain ⟨σ2, g1, g2, g3, g4, g5, g6⟩ := im_explore hn (Or.inl rfl : im_path 8) (show f < 10 by omega) hM (A := im_av ρ) (fun u _ => im_av_bit) (im_dl_lt hW) hD (σ := σ1) e2 (fun z => by
        rw [e3 f (by omega)] at z
        have z1 := (im_eq (show 0 < 2 ^ 31 by decide) (show im_mk (im_al ρ) (im_tn (ρ 0)) < 2 ^ 31 by omega)).mp z
        have z2 := im_av_bit (ρ := ρ) (v := f)
        rw [← z1, Nat.zero_testBit, q] at z2
        cases z2)
      have hmk := im_mk_1024 (fun v => decide (T v < 1000000)) (show 10 ≤ 10 by omega)
      have er : f_X5_holds (f_X2_reachedFrom 8 (nI f) σ2) (nI v) = if T v < 1000000 then 1 else 0 := by
        unfold f_X2_reachedFrom
        rw [im_at (by rw [(im_al_p 8 (Or.inl rfl)).2.2.1]; omega), g2.2.2, im_holds hmk (by omega), im_mk_bit, decide_eq_true (show v < 10 by omega), Bool.true_and]
        by_cases z : T v < 1000000
        · rw [if_pos (decide_eq_true z), if_pos z]
        · rw [if_neg (by rw [decide_eq_true_iff]; exact z), if_neg z]
      have et : f_X2_timeOf 8 (nI f) (nI v) σ2 = nI (T v) := by
        unfold f_X2_timeOf
        rw [show (10 : Int32) = nI 10 from rfl, pk_mul, nI_add, im_at (by rw [(im_al_p 8 (Or.inl rfl)).2.2.2.1]; omega)]
        exact g2.1 v (by omega)
      have hR : ip_G σ2 ρ := ip_keep h (fun b hb => by rw [g4 b (by omega) (by omega) (by omega) (by omega), e4 b (by omega) (by omega)])
      have h84 : σ2 84 = σ 84 := by rw [g4 84 (by omega) (by omega) (by omega) (by omega), e4 84 (by omega) (by omega)]
      rw [e1, im_bind, g1, im_bind, er, im_b01, et]
      by_cases z : T v < 1000000
      · rw [if_pos z, if_pos ⟨q, q2, z⟩]
        exact ⟨_, rfl, hR, h84⟩
      · rw [if_neg z, if_neg (fun y => z y.2.2)]
        exact ⟨_, rfl, hR, h84⟩
    · rw [if_neg q2, if_neg (fun y => q2 y.2.1)]
      exact ⟨_, rfl, h, rfl⟩
  · rw [if_neg q, if_neg (fun y => q y.1)]
    exact ⟨_, rfl, h, rfl⟩
