/-! interests end, on both sides -/
def im_hh (ρ ρ0 : Nat → Int32) : Prop := ∀ k, (k < 100 ∧ k ≠ 3 ∧ k ≠ 11) ∨ 465 ≤ k → ρ k = ρ0 k
theorem im_ends_L {n : Nat} (hn : 4096 ≤ n) (kx : iw_M → Option iw_M) (km : iw_M → Option (Int32 × iw_M)) : ∀ (j nn : Nat) (σx σm : iw_M), j ≤ im_tn (σm 85 3) → j < nn → im_NR σx 28 (σm 85) → im_WF (σm 85) → ∃ σx' σm', f_X1_endInterests_L11 n 28 kx nn (nI j - 1) σx = kx σx' ∧ f_X6_goesOn_L9 n km nn (nI j - 1) σm = km σm' ∧ im_NR σx' 28 (σm' 85) ∧ im_WF (σm' 85) ∧ im_hh (σm' 85) (σm 85) ∧ (ip_pg 0 (σm 85) (σm' 85) ∧ σm' 85 11 = σm 85 11 + nI (ip_go (σm 85) j) ∧ im_tn (σm' 85 3) ≤ im_tn (σm 85 3) ∧ (ip_go (σm 85) j = 0 → σm' = σm)) ∧ (∀ r, r ≠ 29 → (r < 33 ∨ 35 < r) → σx' r = σx r) ∧ ∀ r, r ≠ 85 → σm' r = σm r := by
  have hc : iw_net 28 := iw_net_28
  have a1 := (im_al_n 28 hc).1
  intro j
  induction j with
  | zero =>
    intro nn σx σm h1 h2 h hw
    obtain ⟨nn, rfl⟩ : ∃ q, nn = q + 1 := ⟨nn - 1, by omega⟩
    refine ⟨σx, σm, ?_, ?_, h, hw, fun _ _ => rfl, ⟨ip_pg_0 _, (Int32.add_zero _).symm, Nat.le_refl _, fun _ => rfl⟩, fun _ _ _ => rfl, fun _ _ => rfl⟩
    · rw [s_X1_endInterests_11]
      unfold f_X1_endInterests_B11
      rw [if_pos (by decide)]
    · rw [s_X6_goesOn_9]
      unfold f_X6_goesOn_B9
      rw [if_pos (by decide)]
  | succ j ih =>
    intro nn σx σm h1 h2 h hw
    obtain ⟨nn, rfl⟩ : ∃ q, nn = q + 1 := ⟨nn - 1, by omega⟩
    have b3 := hw.1.2.2.2.1.1
    have ej : nI (j + 1) - 1 = nI j := by rw [show (1 : Int32) = nI 1 from rfl, pk_sub (by omega)]; rfl
    have em : nI j + (-1 : Int32) = nI j - 1 := by rw [show (-1 : Int32) = - (1 : Int32) from rfl, ← Int32.sub_eq_add_neg]
    have ng : ¬ nI j < (0 : Int32) := by rw [show (0 : Int32) = nI 0 from rfl, im_lt (by omega) (by omega)]; omega
    have X1 : f_X1_interestPart n 28 (nI j) (4 : Int32) σx = some (σm 85 (100 + 7 * j + 4)) := by
      rw [show f_X1_interestPart n 28 (nI j) (4 : Int32) σx = f_X1_interestPart n 28 (nI j) (nI 4) σx from rfl, im_intPart n hc (by omega) (by omega), h.2.2.2.2.1 _ (by omega), Nat.add_assoc]
    have X2 : f_X5_at (28 + 1) (5 : Int32) σx = σm 85 5 := by
      rw [show f_X5_at (28 + 1) (5 : Int32) σx = f_X5_at (28 + 1) (nI 5) σx from rfl, im_at (by omega)]
      exact h.1 5 (by omega) (by omega)
    have Y1 : f_X6_ofInterest (nI j) (4 : Int32) σm = some (σm 85 (100 + 7 * j + 4)) := im_ofInterest (w := 4) (by omega)
    have Y2 : iw_rd σm 85 (5 : Int32) = some (σm 85 5) := im_m_rd (k := 5) (by decide)
    rw [ej, s_X1_endInterests_11, s_X6_goesOn_9]
    unfold f_X1_endInterests_B11 f_X6_goesOn_B9 f_X1_endInterests_J47 f_X6_goesOn_J44
    rw [if_neg ng, if_neg ng, X1, im_bind, X2, Y1, im_bind, Y2, im_bind]
    by_cases q : σm 85 5 ≤ σm 85 (100 + 7 * j + 4)
    · rw [if_pos q, if_pos q, im_let, im_let, em]
      rw [ip_go_s, if_neg (Int32.not_lt.mpr q), Nat.add_zero]
      exact ih nn σx σm (by omega) (by omega) h hw
    · obtain ⟨τ, τm, y1, y2, y3, y4, y5, y6, y7, y8⟩ := im_drops hn hc hw h rfl (show j < im_tn (σm 85 3) by omega)
      have R11 : iw_rd τm 85 (11 : Int32) = some (τm 85 11) := im_m_rd (k := 11) (by decide)
      have W11 : ∀ x, iw_wr τm 85 (11 : Int32) x = some (iw_up τm 85 11 x) := fun x => im_wr (a := 85) (k := 11) (by rw [im_al85]; decide)
      have I11 : f_X5_increase (28 + 1) (11 : Int32) (1 : Int32) τ = iw_up τ (28 + 1) 11 (τm 85 11 + 1) := by
        rw [show f_X5_increase (28 + 1) (11 : Int32) (1 : Int32) τ = f_X5_increase (28 + 1) (nI 11) (1 : Int32) τ from rfl, im_inc (by omega), y4.1 11 (by omega) (by omega)]
      have e3 : im_tn (τm 85 3) = im_tn (σm 85 3) - 1 := by rw [y5.1, im_tn_nI (by omega)]
      have nr := im_NR_num (v := τm 85 11 + 1) y4 (show 4 ≤ 11 by omega) (show 11 < 12 by omega)
      have wf : im_WF (im_ru (τm 85) 11 (τm 85 11 + 1)) := im_WF_ru y3 (Or.inl (by omega))
      obtain ⟨σx', σm', z1, z2, z3, z4, z5, ⟨zp, ze, zl, -⟩, z6, z7⟩ := ih nn (iw_up τ (28 + 1) 11 (τm 85 11 + 1)) (iw_up τm 85 11 (τm 85 11 + 1)) (by rw [im_upn (by decide), e3]; omega) (by omega) (by rw [im_up_row]; exact nr) (by rw [im_up_row]; exact wf)
      rw [if_neg q, if_neg q, y1, im_bind, im_let, I11, im_let, em, y2, im_bind, R11, im_bind, W11, im_bind, im_let]
      have pgd : ip_pg 0 (σm 85) (σm' 85) := by
        rw [im_up_row] at zp
        exact ip_pg_t (d := 0) (d' := 0) (ip_pg_end hw rfl (show j < im_tn (σm 85 3) by omega) y5) (ip_pg_t (d := 0) (d' := 0) (ip_pg_c (fun k hk => im_ru_ne (by omega)) (ip_pe_c (fun k hk => im_ru_ne (by have := y3.1.1.1; omega)))) zp)
      have ee : σm' 85 11 = σm 85 11 + nI (ip_go (σm 85) (j + 1)) := by
        rw [ze, im_ups, ip_go_s, if_pos (Int32.not_le.mp q), y5.2.2.2 11 (by omega) (by omega) (by omega), ip_go_c (ρ := σm 85) j (fun i hi => by rw [im_upn (by omega)]; exact y5.2.2.2 _ (by omega) (by omega) (by omega)) (by rw [im_upn (by decide)]; exact y5.2.2.2 5 (by omega) (by omega) (by omega)), Int32.add_assoc, show (1 : Int32) = nI 1 from rfl, nI_add, Nat.add_comm]
      have ll : im_tn (σm' 85 3) ≤ im_tn (σm 85 3) := by
        rw [im_upn (by decide), e3] at zl
        omega
      refine ⟨σx', σm', z1, z2, z3, z4, fun k hk => ?_, ⟨pgd, ee, ll, fun w => by
        rw [ip_go_s, if_pos (Int32.not_le.mp q)] at w
        omega⟩, fun r r1 r2 => by rw [z6 r r1 r2, iw_up_ne (by omega), y6 r (by omega) (by omega) (by omega) (by omega)], fun r hr => by rw [z7 r hr, iw_up_ne hr, y7 r hr]⟩
      rw [z5 k hk, im_upn (by omega)]
      exact y5.2.2.2 k (by omega) (by omega) (by omega)
/-- the reference forgets what was sent -/
theorem im_clear_L (kk : iw_M → Option (Int32 × iw_M)) : ∀ (d i nn : Nat) (σ : iw_M), i + d = 600 → d < nn → f_X6_goesOn_L52 kk nn (nI i) σ = kk (im_fl σ 91 i 600 0) := by
  have e91 : iw_al 91 = 600 := rfl
  intro d
  induction d with
  | zero =>
    intro i nn σ h1 h2
    obtain ⟨nn, rfl⟩ : ∃ q, nn = q + 1 := ⟨nn - 1, by omega⟩
    rw [s_X6_goesOn_52]
    unfold f_X6_goesOn_B52
    rw [if_pos (by rw [im_lit 600, im_le (by decide) (by omega)]; omega), show i = 600 by omega, im_fl_end]
  | succ d ih =>
    intro i nn σ h1 h2
    obtain ⟨nn, rfl⟩ : ∃ q, nn = q + 1 := ⟨nn - 1, by omega⟩
    rw [s_X6_goesOn_52]
    unfold f_X6_goesOn_B52
    rw [if_neg (by rw [im_lit 600, im_le (by decide) (by omega)]; omega), show (0 : Int32) &&& 1 = 0 by decide, im_wr (by omega), im_bind, im_let, nI_1, ih (i + 1) nn _ (by omega) (by omega), im_fl_step (by omega)]
/-- what the class may change in a run, and what the reference may -/
def im_fx (σ σ' : iw_M) : Prop := ∀ r, r ≠ 2 → r ≠ 3 → (r < 16 ∨ 19 < r) → (r < 29 ∨ 35 < r) → σ' r = σ r
def im_fm (σ σ' : iw_M) : Prop := (∀ r, r < 84 ∨ 91 < r → σ' r = σ r) ∧ (∀ j, j ≠ 6 → j ≠ 8 → σ' 84 j = σ 84 j) ∧ ∀ k, 465 ≤ k → σ' 85 k = σ 85 k
theorem im_fx_t {σ σ' σ'' : iw_M} (h : im_fx σ σ') (h' : im_fx σ' σ'') : im_fx σ σ'' := fun r r1 r2 r3 r4 => (h' r r1 r2 r3 r4).trans (h r r1 r2 r3 r4)
theorem im_fm_t {σ σ' σ'' : iw_M} (h : im_fm σ σ') (h' : im_fm σ' σ'') : im_fm σ σ'' := ⟨fun r hr => (h'.1 r hr).trans (h.1 r hr), fun j j1 j2 => (h'.2.1 j j1 j2).trans (h.2.1 j j1 j2), fun k hk => (h'.2.2 k hk).trans (h.2.2 k hk)⟩
theorem im_fx_0 (σ : iw_M) : im_fx σ σ := fun _ _ _ _ _ => rfl
theorem im_fm_0 (σ : iw_M) : im_fm σ σ := ⟨fun _ _ => rfl, fun _ _ _ => rfl, fun _ _ => rfl⟩
theorem im_sens_L {n : Nat} (hn : 4096 ≤ n) {i I S : Nat} (hi : i < I) : ∀ (d s nn : Nat) (σx σm : iw_M), s + d = S → d < nn → im_tn (σm 85 3) = I → im_tn (σm 85 2) = S → im_run σx σm → ∃ c σx' σm', c ≤ d ∧ (∀ kx v, f_X3_run_L43 n (nI i) kx nn (nI v) (nI s) σx = kx (nI (v + c)) σx') ∧ (∀ km v, f_X6_goesOn_L88 n (nI i) km nn (nI v) (nI s) σm = km (nI (v + c)) σm') ∧ im_run σx' σm' ∧ im_tq (σm' 85) (σm 85) ∧ (ip_tg d (σm 85) (σm' 85) ∧ (d = 0 → σm' = σm) ∧ (d = 1 → ip_t1 c (σm 85) i s (σm' 85))) ∧ im_fx σx σx' ∧ im_fm σm σm' := by
  have hc : iw_net 28 := iw_net_28
  intro d
  induction d with
  | zero =>
    intro s nn σx σm h1 h2 h3 h4 R
    obtain ⟨nn, rfl⟩ : ∃ q, nn = q + 1 := ⟨nn - 1, by omega⟩
    have b2 := R.2.1.1.2.2.1
    have b2' := b2.1
    have X2 : f_X1_number n 28 (2 : Int32) σx = some (nI S) := by rw [show f_X1_number n 28 (2 : Int32) σx = f_X1_number n 28 (nI 2) σx from rfl, im_num n hc (by omega) (by omega), R.1.1 2 (by omega) (by omega), b2.2, h4]
    have Y2 : iw_rd σm 85 (2 : Int32) = some (nI S) := by rw [show iw_rd σm 85 (2 : Int32) = iw_rd σm 85 (nI 2) from rfl, im_m_rd (by omega), b2.2, h4]
    refine ⟨0, σx, σm, Nat.le_refl _, fun kx v => ?_, fun km v => ?_, R, fun _ _ => rfl, ⟨⟨ip_pg_0 _, rfl⟩, fun _ => rfl, fun z => by omega⟩, im_fx_0 _, im_fm_0 _⟩
    · rw [s_X3_run_43]
      unfold f_X3_run_B43
      rw [X2, im_bind, if_pos (by rw [im_le (by omega) (by omega)]; omega)]
      rfl
    · rw [s_X6_goesOn_88]
      unfold f_X6_goesOn_B88
      rw [Y2, im_bind, if_pos (by rw [im_le (by omega) (by omega)]; omega)]
      rfl
  | succ d ih =>
    intro s nn σx σm h1 h2 h3 h4 R
    obtain ⟨nn, rfl⟩ : ∃ q, nn = q + 1 := ⟨nn - 1, by omega⟩
    have b2 := R.2.1.1.2.2.1
    have b2' := b2.1
    have X2 : f_X1_number n 28 (2 : Int32) σx = some (nI S) := by rw [show f_X1_number n 28 (2 : Int32) σx = f_X1_number n 28 (nI 2) σx from rfl, im_num n hc (by omega) (by omega), R.1.1 2 (by omega) (by omega), b2.2, h4]
    have Y2 : iw_rd σm 85 (2 : Int32) = some (nI S) := by rw [show iw_rd σm 85 (2 : Int32) = iw_rd σm 85 (nI 2) from rfl, im_m_rd (by omega), b2.2, h4]
    obtain ⟨r, τ, τm, r1, x1, x2, x3, x4, ⟨xp, xt⟩, x5, x6, x7⟩ := im_turn hn (i := i) (s := s) R (by omega) (by omega)
    obtain ⟨c, σx', σm', c1, y1, y2, y3, y4, ⟨yp, y0, -⟩, y5, y6⟩ := ih (s + 1) nn τ τm (by omega) (by omega) (by rw [x4 3 (by omega)]; exact h3) (by rw [x4 2 (by omega)]; exact h4) x3
    refine ⟨r + c, σx', σm', by omega, fun kx v => ?_, fun km v => ?_, y3, fun k hk => by rw [y4 k hk, x4 k hk], ⟨ip_tg_m (ip_tg_t xp yp) (by omega), fun z => by omega, fun z => by
      have z0 : d = 0 := by omega
      rw [y0 z0, show r + c = r by omega]
      exact xt⟩, im_fx_t (fun r r1 r2 r3 r4 => x5 r r1 r2 r3 r4) y5, im_fm_t ⟨x6, x7, fun k hk => x4 k (by omega)⟩ y6⟩
    · rw [s_X3_run_43]
      unfold f_X3_run_B43 f_X3_run_J70
      rw [X2, im_bind, if_neg (by rw [im_le (by omega) (by omega)]; omega), x1, im_b2]
      by_cases z : r = 0
      · rw [z, if_pos (show nI 0 = (0 : Int32) from rfl), im_let, nI_1, y1, Nat.zero_add]
      · rw [show r = 1 by omega, if_neg (by decide), im_let, im_let, nI_1, nI_1, y1, Nat.add_assoc]
    · rw [s_X6_goesOn_88]
      unfold f_X6_goesOn_B88 f_X6_goesOn_J113
      rw [Y2, im_bind, if_neg (by rw [im_le (by omega) (by omega)]; omega), x2, im_b2]
      by_cases z : r = 0
      · rw [z, if_pos (show nI 0 = (0 : Int32) from rfl), im_let, im_let, nI_1, Int32.add_zero, y2, Nat.zero_add]
      · rw [show r = 1 by omega, if_neg (by decide), im_let, im_let, nI_1, nI_1, y2, Nat.add_assoc]
theorem im_ints_L {n : Nat} (hn : 4096 ≤ n) {I S : Nat} : ∀ (d i nn : Nat) (σx σm : iw_M), i + d = I → d < nn → im_tn (σm 85 3) = I → im_tn (σm 85 2) = S → im_run σx σm → ∃ c σx' σm', c ≤ 6 * d ∧ (∀ kx v, f_X3_run_L27 n kx nn (nI v) (nI i) σx = kx (nI (v + c)) σx') ∧ (∀ km v, f_X6_goesOn_L76 n km nn (nI v) (nI i) σm = km (nI (v + c)) σm') ∧ im_run σx' σm' ∧ im_tq (σm' 85) (σm 85) ∧ (ip_tg (6 * d) (σm 85) (σm' 85) ∧ (d = 0 → σm' = σm) ∧ (d = 1 → S = 1 → ip_t1 c (σm 85) i 0 (σm' 85))) ∧ im_fx σx σx' ∧ im_fm σm σm' := by
  have hc : iw_net 28 := iw_net_28
  intro d
  induction d with
  | zero =>
    intro i nn σx σm h1 h2 h3 h4 R
    obtain ⟨nn, rfl⟩ : ∃ q, nn = q + 1 := ⟨nn - 1, by omega⟩
    have b3 := R.2.1.1.2.2.2.1
    have b3' := b3.1
    have X3 : f_X1_number n 28 (3 : Int32) σx = some (nI I) := by rw [show f_X1_number n 28 (3 : Int32) σx = f_X1_number n 28 (nI 3) σx from rfl, im_num n hc (by omega) (by omega), R.1.1 3 (by omega) (by omega), b3.2, h3]
    have Y3 : iw_rd σm 85 (3 : Int32) = some (nI I) := by rw [show iw_rd σm 85 (3 : Int32) = iw_rd σm 85 (nI 3) from rfl, im_m_rd (by omega), b3.2, h3]
    refine ⟨0, σx, σm, Nat.zero_le _, fun kx v => ?_, fun km v => ?_, R, fun _ _ => rfl, ⟨⟨ip_pg_0 _, rfl⟩, fun _ => rfl, fun z => by omega⟩, im_fx_0 _, im_fm_0 _⟩
    · rw [s_X3_run_27]
      unfold f_X3_run_B27
      rw [X3, im_bind, if_pos (by rw [im_le (by omega) (by omega)]; omega)]
      rfl
    · rw [s_X6_goesOn_76]
      unfold f_X6_goesOn_B76
      rw [Y3, im_bind, if_pos (by rw [im_le (by omega) (by omega)]; omega)]
      rfl
  | succ d ih =>
    intro i nn σx σm h1 h2 h3 h4 R
    obtain ⟨nn, rfl⟩ : ∃ q, nn = q + 1 := ⟨nn - 1, by omega⟩
    have b2' := R.2.1.1.2.2.1.1
    have b3 := R.2.1.1.2.2.2.1
    have b3' := b3.1
    have X3 : f_X1_number n 28 (3 : Int32) σx = some (nI I) := by rw [show f_X1_number n 28 (3 : Int32) σx = f_X1_number n 28 (nI 3) σx from rfl, im_num n hc (by omega) (by omega), R.1.1 3 (by omega) (by omega), b3.2, h3]
    have Y3 : iw_rd σm 85 (3 : Int32) = some (nI I) := by rw [show iw_rd σm 85 (3 : Int32) = iw_rd σm 85 (nI 3) from rfl, im_m_rd (by omega), b3.2, h3]
    obtain ⟨r, τ, τm, r1, x1, x2, x3, x4, ⟨xp, -, xt⟩, x5, x6⟩ := im_sens_L hn (i := i) (I := I) (S := S) (by omega) S 0 n σx σm (by omega) (by omega) h3 h4 R
    obtain ⟨c, σx', σm', c1, y1, y2, y3, y4, ⟨yp, y0, -⟩, y5, y6⟩ := ih (i + 1) nn τ τm (by omega) (by omega) (by rw [x4 3 (by omega)]; exact h3) (by rw [x4 2 (by omega)]; exact h4) x3
    refine ⟨r + c, σx', σm', by omega, fun kx v => ?_, fun km v => ?_, y3, fun k hk => by rw [y4 k hk, x4 k hk], ⟨ip_tg_m (ip_tg_t xp yp) (by omega), fun z => by omega, fun z z1 => by
      have z0 : d = 0 := by omega
      rw [y0 z0, show r + c = r by omega]
      exact xt z1⟩, im_fx_t x5 y5, im_fm_t x6 y6⟩
    · rw [s_X3_run_27]
      unfold f_X3_run_B27
      rw [X3, im_bind, if_neg (by rw [im_le (by omega) (by omega)]; omega), show ∀ k, f_X3_run_L43 n (nI i) k n (nI v) (0 : Int32) σx = f_X3_run_L43 n (nI i) k n (nI v) (nI 0) σx from fun _ => rfl, x1]
      unfold f_X3_run_X76_43
      rw [im_let, nI_1, y1, Nat.add_assoc]
    · rw [s_X6_goesOn_76]
      unfold f_X6_goesOn_B76
      rw [Y3, im_bind, if_neg (by rw [im_le (by omega) (by omega)]; omega), show ∀ k, f_X6_goesOn_L88 n (nI i) k n (nI v) (0 : Int32) σm = f_X6_goesOn_L88 n (nI i) k n (nI v) (nI 0) σm from fun _ => rfl, x2]
      unfold f_X6_goesOn_X121_88
      rw [im_let, nI_1, y2, Nat.add_assoc]
