/-! a round, and many rounds, on both sides -/
def ip_rd (d : Nat) (ρ ρ' : Nat → Int32) : Prop := ip_pg (30 * d) ρ ρ' ∧ ρ' 5 = ρ 5 + nI d ∧ (im_tn (ρ 3) = 0 → ρ' 10 = ρ 10 ∧ im_tn (ρ' 3) = 0)
theorem ip_rd_t {d d' : Nat} {ρ ρ' ρ'' : Nat → Int32} (h : ip_rd d ρ ρ') (h' : ip_rd d' ρ' ρ'') : ip_rd (d + d') ρ ρ'' := ⟨by rw [Nat.mul_add]; exact ip_pg_t h.1 h'.1, by rw [h'.2.1, h.2.1, Int32.add_assoc, nI_add], fun z => ⟨(h'.2.2 (h.2.2 z).2).1.trans (h.2.2 z).1, (h'.2.2 (h.2.2 z).2).2⟩⟩
theorem ip_rd_0 (ρ : Nat → Int32) : ip_rd 0 ρ ρ := ⟨ip_pg_0 ρ, (Int32.add_zero _).symm, fun z => ⟨rfl, z⟩⟩
def im_run0 (σx σm : iw_M) : Prop := im_NR σx 28 (σm 85) ∧ im_WF (σm 85) ∧ im_mx σx 14 (σm 85) (im_tn (σm 85 1)) ∧ im_keep σx (im_dl (σm 85))
/-- one round, exactly: what ends, nothing delivered without interests, and the first turn of all -/
def ip_r1 (c : Nat) (ρ ρ' : Nat → Int32) : Prop :=
  ρ' 11 = ρ 11 + nI (ip_go ρ (im_tn (ρ 3))) ∧ (im_tn (ρ 3) = 0 → c = 0 ∧ ρ' = im_ru ρ 5 (ρ 5 + 1)) ∧ (im_tn (ρ 3) = 1 → im_tn (ρ 2) = 1 → ip_go ρ 1 = 0 → ∃ ρ3, ip_t1 c ρ 0 0 ρ3 ∧ ρ' = im_ru ρ3 5 (ρ3 5 + 1))
theorem im_round {n : Nat} (hn : 4096 ≤ n) {σx σm : iw_M} (R : im_run0 σx σm) : ∃ c σx' σm', c ≤ 30 ∧ (∀ (r4 : Int32 → Int32 → iw_M → Option (Int32 × iw_M)) (v4 : Int32) (v : Nat), ((f_X1_endInterests n 28 σx).bind fun m7 => (f_J7_fill_53178 n 3 (0 : Int32) m7).bind fun m8 => f_X3_run_L27 n (f_X3_run_X82_27 r4 v4) n (nI v) (0 : Int32) m8) = r4 (nI (v + c)) (v4 + 1) σx') ∧ f_X6_goesOn n σm = some (nI c, σm') ∧ im_run0 σx' σm' ∧ (ip_rd 1 (σm 85) (σm' 85) ∧ ip_r1 c (σm 85) (σm' 85)) ∧ im_fx σx σx' ∧ im_fm σm σm' := by
  obtain ⟨hN, hw, hm, hk⟩ := id R
  have hc : iw_net 28 := iw_net_28
  have a1 := (im_al_n 28 hc).1
  have b3 := hw.1.2.2.2.1
  have b3' := b3.1
  have X3 : f_X5_at (28 + 1) (3 : Int32) σx = nI (im_tn (σm 85 3)) := by
    rw [show f_X5_at (28 + 1) (3 : Int32) σx = f_X5_at (28 + 1) (nI 3) σx from rfl, im_at (by omega), hN.1 3 (by omega) (by omega)]
    exact b3.2
  have Y3 : iw_rd σm 85 (3 : Int32) = some (nI (im_tn (σm 85 3))) := by
    rw [show iw_rd σm 85 (3 : Int32) = iw_rd σm 85 (nI 3) from rfl, im_m_rd (by omega)]
    exact congrArg some b3.2
  obtain ⟨σx1, σm1, x1, x2, x3, x4, x5, ⟨xp, xe, xl, xz⟩, x6, x7⟩ := im_ends_L hn f_X1_endInterests_X53_11 (f_X6_goesOn_X50_9 n) (im_tn (σm 85 3)) n σx σm (Nat.le_refl _) (by omega) hN hw
  have F := im_fill hn (a := 3) (by decide) 0 σx1
  obtain ⟨σx2, q2⟩ : ∃ x, x = im_fl σx1 3 0 (iw_al 3) 0 := ⟨_, rfl⟩
  rw [← q2] at F
  obtain ⟨σm2, p2⟩ : ∃ x, x = im_fl σm1 91 0 600 0 := ⟨_, rfl⟩
  have G := im_clear_L (f_X6_goesOn_X72_52 n) 600 0 n σm1 (by omega) (by omega)
  rw [← p2] at G
  have ox : ∀ r, r ≠ 3 → σx2 r = σx1 r := fun r hr => by rw [q2, im_fl_o hr]
  have om : ∀ r, r ≠ 91 → σm2 r = σm1 r := fun r hr => by rw [p2, im_fl_o hr]
  have o85 := om 85 (by decide)
  have d1 : im_dl (σm1 85) = im_dl (σm 85) := im_dl_c hw (fun k hk => x5 k (by omega))
  have R2 : im_run σx2 σm2 := by
    refine ⟨by rw [o85]; exact im_NR_congr x3 (fun j j1 j2 => ox _ (by omega)), by rw [o85]; exact x4, by rw [o85]; exact im_mx_c hm d1 (by rw [ox _ (by omega), x6 _ (by omega) (by omega)]), by rw [o85, d1]; exact im_keep_c hk (fun r r1 r2 => by rw [ox r (by omega), x6 r (by omega) (by omega)]), fun s a hs ha => ⟨0, by omega, ?_, fun b hb => ?_⟩⟩
    · rw [q2, im_fl_e, if_pos ⟨Nat.zero_le _, show 10 * s + a < 60 by omega⟩]
      rfl
    · rw [p2, im_fl_e, if_pos ⟨Nat.zero_le _, by omega⟩, Nat.zero_testBit]
      rfl
  have i3 : im_tn (σm2 85 3) ≤ 5 := by have := R2.2.1.1.2.2.2.1.1; omega
  obtain ⟨c, σx3, σm3, c1, y1, y2, y3, y4, ⟨yp, y0, y1t⟩, y5, y6⟩ := im_ints_L hn (I := im_tn (σm2 85 3)) (S := im_tn (σm2 85 2)) (im_tn (σm2 85 3)) 0 n σx2 σm2 (by omega) (by omega) rfl rfl R2
  obtain ⟨hN3, hw3, hm3, hk3, -⟩ := y3
  have R5 : f_X1_raise 28 (5 : Int32) (1 : Int32) σx3 = iw_up σx3 (28 + 1) 5 (σm3 85 5 + 1) := by
    rw [show (5 : Int32) = nI 5 from rfl, im_raise hc (by omega), hN3.1 5 (by omega) (by omega)]
  have r5 : iw_rd σm3 85 (5 : Int32) = some (σm3 85 5) := im_m_rd (k := 5) (by decide)
  have w5 : ∀ x, iw_wr σm3 85 (5 : Int32) x = some (iw_up σm3 85 5 x) := fun x => im_wr (a := 85) (k := 5) (by rw [im_al85]; decide)
  have e5 : iw_up σm3 85 5 (σm3 85 5 + 1) 85 = im_ru (σm3 85) 5 (σm3 85 5 + 1) := im_up_row
  have d5 : im_dl (im_ru (σm3 85) 5 (σm3 85 5 + 1)) = im_dl (σm3 85) := im_dl_c hw3 (fun k hk => im_ru_ne (by omega))
  have rdp : ip_rd 1 (σm 85) (iw_up σm3 85 5 (σm3 85 5 + 1) 85) := by
    rw [e5]
    refine ⟨?_, ?_, fun z => ?_⟩
    · refine ip_pg_t (d := 0) (d' := 30) xp (ip_pg_t (d := 30) (d' := 0) (ip_pg_m (d := 6 * im_tn (σm2 85 3)) ?_ (by omega)) (ip_pg_c (fun k hk => im_ru_ne (by omega)) (ip_pe_c (fun k hk => im_ru_ne (by omega)))))
      rw [← o85]
      exact yp.1
    · rw [im_ru_eq, y4 5 (by omega), o85, x5 5 (by omega)]
      rfl
    · have z2 : im_tn (σm2 85 3) = 0 := by rw [o85]; omega
      have z3 := y0 z2
      rw [im_ru_ne (by decide), im_ru_ne (by decide), z3, o85]
      exact ⟨x5 10 (by omega), by omega⟩
  have ed : iw_up σm3 85 5 (σm3 85 5 + 1) 85 11 = σm 85 11 + nI (ip_go (σm 85) (im_tn (σm 85 3))) := by
    rw [im_upn (by decide), yp.2, o85, xe]
  refine ⟨c, iw_up σx3 (28 + 1) 5 (σm3 85 5 + 1), iw_up σm3 85 5 (σm3 85 5 + 1), by omega, fun r4 v4 v => ?_, ?_, ⟨?_, ?_, ?_, ?_⟩, ⟨rdp, ed, fun z => by
    have z2 : im_tn (σm2 85 3) = 0 := by rw [o85]; omega
    have e0 : σm1 = σm := xz (by rw [z]; rfl)
    refine ⟨by omega, ?_⟩
    rw [e5, y0 z2, o85, e0], fun z1 z2 z3 => by
    have e0 : σm1 = σm := xz (by rw [z1]; exact z3)
    have e2 : σm2 85 = σm 85 := by rw [o85, e0]
    refine ⟨σm3 85, ?_, e5⟩
    rw [← e2]
    exact y1t (by rw [e2]; exact z1) (by rw [e2]; exact z2)⟩, fun r r1 r2 r3 r4 => ?_, fun r hr => ?_, fun j j1 j2 => ?_, fun k hk => ?_⟩
  · unfold f_X1_endInterests
    rw [X3, im_let, x1]
    unfold f_X1_endInterests_X53_11
    rw [im_bind, F, im_bind, show ∀ k, f_X3_run_L27 n k n (nI v) (0 : Int32) σx2 = f_X3_run_L27 n k n (nI v) (nI 0) σx2 from fun _ => rfl, y1]
    unfold f_X3_run_X82_27
    rw [R5, im_let, im_let]
  · unfold f_X6_goesOn
    rw [Y3, im_bind, im_let, x2]
    unfold f_X6_goesOn_X50_9
    rw [show ∀ k, f_X6_goesOn_L52 k n (0 : Int32) σm1 = f_X6_goesOn_L52 k n (nI 0) σm1 from fun _ => rfl, G]
    unfold f_X6_goesOn_X72_52
    rw [show ∀ k, f_X6_goesOn_L76 n k n (0 : Int32) (0 : Int32) σm2 = f_X6_goesOn_L76 n k n (nI 0) (nI 0) σm2 from fun _ => rfl, y2]
    unfold f_X6_goesOn_X127_76
    rw [r5, im_bind, w5, im_bind, Nat.zero_add]
  · rw [e5]
    exact im_NR_num (v := σm3 85 5 + 1) hN3 (show 4 ≤ 5 by omega) (show 5 < 12 by omega)
  · rw [e5]
    exact im_WF_ru hw3 (Or.inl (by omega))
  · rw [e5]
    exact im_mx_c hm3 d5 (iw_up_ne (by omega))
  · rw [e5, d5]
    exact im_keep_c hk3 (fun r r1 r2 => iw_up_ne (by omega))
  · rw [iw_up_ne (by omega), y5 r r1 r2 r3 r4, ox r r2, x6 r (by omega) (by omega)]
  · rw [iw_up_ne (by omega), y6.1 r hr, om r (by omega), x7 r (by omega)]
  · rw [iw_up_ne (by decide), y6.2.1 j j1 j2, om 84 (by decide), x7 84 (by decide)]
  · rw [im_upn (by omega), y6.2.2 k hk, o85]
    exact x5 k (Or.inr hk)
theorem im_runs_L {n : Nat} (hn : 4096 ≤ n) {N : Nat} (hN : N ≤ 500) (kx : Int32 → iw_M → Option (Int32 × iw_M)) (km : Int32 → iw_M → Option (Int32 × iw_M)) : ∀ (d j nn : Nat) (σx σm : iw_M) (v : Nat), j + d = N → d < nn → im_run0 σx σm → ∃ c σx' σm', c ≤ 30 * d ∧ f_X3_run_L4 n (nI N) kx nn (nI v) (nI j) σx = kx (nI (v + c)) σx' ∧ f_X6_goesFor_L4 n (nI N) km nn (nI v) (nI j) σm = km (nI (v + c)) σm' ∧ im_run0 σx' σm' ∧ (ip_rd d (σm 85) (σm' 85) ∧ σm' = ip_gs n d σm ∧ (im_tn (σm 85 3) = 0 → c = 0) ∧ (d = 1 → ip_r1 c (σm 85) (σm' 85))) ∧ im_fx σx σx' ∧ im_fm σm σm' := by
  intro d
  induction d with
  | zero =>
    intro j nn σx σm v h1 h2 R
    obtain ⟨nn, rfl⟩ : ∃ q, nn = q + 1 := ⟨nn - 1, by omega⟩
    refine ⟨0, σx, σm, Nat.zero_le _, ?_, ?_, R, ⟨ip_rd_0 _, rfl, fun _ => rfl, fun z => by omega⟩, im_fx_0 _, im_fm_0 _⟩
    · rw [s_X3_run_4]
      unfold f_X3_run_B4
      rw [if_pos (by rw [im_le (by omega) (by omega)]; omega)]
      rfl
    · rw [s_X6_goesFor_4]
      unfold f_X6_goesFor_B4
      rw [if_pos (by rw [im_le (by omega) (by omega)]; omega)]
      rfl
  | succ d ih =>
    intro j nn σx σm v h1 h2 R
    obtain ⟨nn, rfl⟩ : ∃ q, nn = q + 1 := ⟨nn - 1, by omega⟩
    obtain ⟨c, τ, τm, c1, x1, x2, x3, ⟨xp, xr⟩, x4, x5⟩ := im_round hn R
    obtain ⟨c', σx', σm', c2, y1, y2, y3, ⟨yp, yg, y0, -⟩, y4, y5⟩ := ih (j + 1) nn τ τm (v + c) (by omega) (by omega) x3
    refine ⟨c + c', σx', σm', by omega, ?_, ?_, y3, ⟨by rw [Nat.add_comm]; exact ip_rd_t xp yp, by rw [ip_gs_s x2]; exact yg, fun z => by rw [(xr.2.1 z).1, y0 (xp.2.2 z).2], fun z => by
      have z0 : d = 0 := by omega
      subst z0
      have e1 : σm' = τm := yg
      rw [e1, show c + c' = c by omega]
      exact xr⟩, im_fx_t x4 y4, im_fm_t x5 y5⟩
    · rw [s_X3_run_4]
      unfold f_X3_run_B4
      rw [if_neg (by rw [im_le (by omega) (by omega)]; omega), x1, nI_1, y1, Nat.add_assoc]
    · rw [s_X6_goesFor_4]
      unfold f_X6_goesFor_B4
      rw [if_neg (by rw [im_le (by omega) (by omega)]; omega), x2, im_b2, im_let, im_let, nI_1, nI_add, y2, Nat.add_assoc]
theorem im_runs {n : Nat} (hn : 4096 ≤ n) {N : Nat} (hN : N ≤ 500) {σx σm : iw_M} (R : im_run0 σx σm) : ∃ c σx' σm', c ≤ 15000 ∧ f_X3_run n (nI N) σx = some (nI c, σx') ∧ f_X6_goesFor n (nI N) σm = some (nI c, σm') ∧ im_run0 σx' σm' ∧ (ip_rd N (σm 85) (σm' 85) ∧ σm' = ip_gs n N σm ∧ (im_tn (σm 85 3) = 0 → c = 0) ∧ (N = 1 → ip_r1 c (σm 85) (σm' 85))) ∧ im_fx σx σx' ∧ im_fm σm σm' := by
  obtain ⟨c, σx', σm', c1, x1, x2, x3, xp, x4, x5⟩ := im_runs_L hn hN f_X3_run_X97_4 f_X6_goesFor_X22_4 N 0 n σx σm 0 (by omega) (by omega) R
  rw [Nat.zero_add] at x1 x2
  exact ⟨c, σx', σm', by omega, x1, x2, x3, xp, x4, x5⟩
/-- one round of the class, one of the reference -/
theorem im_run1 {n : Nat} (hn : 4096 ≤ n) {σx σm : iw_M} (R : im_run0 σx σm) : ∃ c σx' σm', f_X3_run n (1 : Int32) σx = some (nI c, σx') ∧ f_X6_goesOn n σm = some (nI c, σm') ∧ im_run0 σx' σm' ∧ (ip_rd 1 (σm 85) (σm' 85) ∧ ip_r1 c (σm 85) (σm' 85)) ∧ im_fx σx σx' ∧ im_fm σm σm' := by
  obtain ⟨n1, e1⟩ : ∃ q, n = q + 1 + 1 := ⟨n - 2, by omega⟩
  obtain ⟨c, τ, τm, c1, x1, x2, x3, xp, x4, x5⟩ := im_round hn R
  refine ⟨c, τ, τm, ?_, x2, x3, xp, x4, x5⟩
  unfold f_X3_run
  rw [show f_X3_run_L4 n (1 : Int32) f_X3_run_X97_4 n (0 : Int32) (0 : Int32) σx = f_X3_run_L4 n (1 : Int32) f_X3_run_X97_4 (n1 + 1 + 1) (nI 0) (0 : Int32) σx by rw [← e1]; rfl, s_X3_run_4]
  unfold f_X3_run_B4
  rw [if_neg (by decide), x1, s_X3_run_4]
  unfold f_X3_run_B4
  rw [if_pos (by decide), Nat.zero_add]
  rfl
/-- a run begins: the class's draft is the net, its paths are learnt -/
theorem im_start {n : Nat} (hn : 4096 ≤ n) {σx : iw_M} {ρ : Nat → Int32} (hw : im_WF ρ) (h : im_NR σx 20 ρ) : ∃ σx', f_X3_start n 20 σx = some σx' ∧ im_NR σx' 28 ρ ∧ im_mx σx' 14 ρ (im_tn (ρ 1)) ∧ im_keep σx' (im_dl ρ) ∧ ∀ r, (r < 15 ∨ 16 < r) → (r < 29 ∨ 35 < r) → σx' r = σx r := by
  obtain ⟨k1, k2⟩ := im_copyFrom iw_net_28 iw_net_20 (by decide) σx
  have h28 : im_NR (f_X1_copyFrom 28 20 σx) 28 ρ := im_NR_cp iw_net_28 hw h k2
  have h20 : im_NR (f_X1_copyFrom 28 20 σx) 20 ρ := im_NR_congr h (fun j j1 j2 => k1 _ (fun j' j1' j2' => by omega))
  obtain ⟨σ', x1, x2, x3, x4⟩ := im_learn (c := 14) hn (Or.inr rfl) iw_net_20 (Nat.le_refl _) hw h20
  refine ⟨σ', ?_, im_NR_congr h28 (fun j j1 j2 => x4 _ (by omega) (by omega)), x2, fun f hf => Or.inl (x3 f hf), fun r r1 r2 => by rw [x4 r (by omega) (by omega), k1 r (fun j j1 j2 => by omega)]⟩
  unfold f_X3_start
  rw [im_let, x1, im_bind]
theorem im_run0_row {σx σm : iw_M} {ρ : Nat → Int32} (hw : im_WF ρ) (h : im_NR σx 28 ρ) (hm : im_mx σx 14 ρ (im_tn (ρ 1))) (hk : im_keep σx (im_dl ρ)) (hr : ∀ k, k < 465 → σm 85 k = ρ k) : im_run0 σx σm := by
  have d : im_dl (σm 85) = im_dl ρ := im_dl_c hw (fun k hk => hr k (by omega))
  exact ⟨im_NR_row h hw hr, im_WF_row hw hr, im_mx_c hm d rfl, by rw [d]; exact hk⟩
