/-! data are sent over a way, on both sides at once -/
theorem im_WF_er {ρ : Nat → Int32} (hw : im_WF ρ) {i s f g m : Nat} {T : Nat → Nat} (hi : i < im_tn (ρ 3)) (hs : s < im_tn (ρ 2)) (hf : im_av ρ f = true) (hD : im_D (im_dl ρ) (im_av ρ) f T) (hy : im_wy (im_dl ρ) T f g m) : im_WF (im_er ρ i s T g m) := by
  have b0 := hw.1.1.1
  have fN := im_av_lt hf
  have hN : ∀ v, T v < 1000000 → v < im_tn (ρ 0) := fun v hv => by
    by_cases z : v = f
    · rw [z]; exact fN
    · exact im_av_lt (hD.2.2.1 v z hv).1
  obtain ⟨m10, hp, hu, hnf⟩ := im_wy_f hy
  unfold im_er
  have o : ∀ k, k < 7 → ∀ x y z : Int32, im_ru (im_ru (im_ru (im_spN (fun v => decide (T v < 1000000)) (im_tn (ρ 0)) 0 ρ) 7 x) 8 y) 9 z k = ρ k := fun k hk x y z => by
    rw [im_ru_ne (by omega), im_ru_ne (by omega), im_ru_ne (by omega), im_spN_o (by omega) _ _ _ (by omega)]
  refine im_WF_sw (im_WF_ru (im_WF_ru (im_WF_ru (im_WF_spN _ _ _ (by omega) hw) (Or.inl (by omega))) (Or.inl (by omega))) (Or.inl (by omega))) (by rw [o 3 (by omega)]; exact hi) (by rw [o 2 (by omega)]; exact hs) m10 (fun k hk => by rw [o 0 (by omega)]; exact hN _ (hp _ (by omega)).2) (fun k k' hk hk' e => ?_)
  have := hu (m - 1 - k) (m - 1 - k') (by omega) (by omega) e
  omega
/-- a link leads from each node of the way to the next -/
def im_lw (ρ : Nat → Int32) (i s k : Nat) : Nat := im_dl ρ (im_wn ρ i s (k - 1)) (im_wn ρ i s k)
def im_lnk (ρ : Nat → Int32) (i s : Nat) : Prop := ∀ k, 1 ≤ k → k < im_wlen ρ i s → 0 < im_lw ρ i s k
theorem im_er_o {ρ : Nat → Int32} {i s g m k : Nat} {T : Nat → Nat} (h : k < im_wa i s ∨ im_wa i s + 1 + m ≤ k) (h1 : k < 7 ∨ 22 ≤ k ∨ k = 11) (hN : im_tn (ρ 0) ≤ 10) : im_er ρ i s T g m k = ρ k := by
  unfold im_er
  rw [im_sw_o h, im_ru_ne (by omega), im_ru_ne (by omega), im_ru_ne (by omega), im_spN_o (by omega) _ _ _ (by omega)]
theorem im_er_w {ρ : Nat → Int32} {i s g m : Nat} {T : Nat → Nat} (hm : m ≤ 10) (hp : ∀ k, k < m → im_pk (im_dl ρ) T g k < 10) : im_wlen (im_er ρ i s T g m) i s = m ∧ ∀ k, k < m → im_wn (im_er ρ i s T g m) i s k = im_pk (im_dl ρ) T g (m - 1 - k) := by
  refine ⟨?_, fun k hk => ?_⟩
  · unfold im_wlen im_er
    rw [im_sw_l, im_tn_nI (by omega)]
  · have := hp (m - 1 - k) (by omega)
    unfold im_wn im_er
    rw [im_sw_n hk, im_tn_nI (by omega)]
theorem im_lnk_er {ρ : Nat → Int32} (hw : im_WF ρ) {i s f g m : Nat} {T : Nat → Nat} (hD : im_D (im_dl ρ) (im_av ρ) f T) (hy : im_wy (im_dl ρ) T f g m) : im_lnk (im_er ρ i s T g m) i s := by
  have b0 := hw.1.1.1
  have w0 := im_wa_ge i s
  obtain ⟨m10, hp, hu, hnf⟩ := im_wy_f hy
  obtain ⟨e1, e2⟩ := im_er_w (ρ := ρ) (i := i) (s := s) (g := g) (T := T) m10 (fun k hk => (hp k hk).1)
  have e3 : im_dl (im_er ρ i s T g m) = im_dl ρ := im_dl_c hw (fun k hk => im_er_o (by omega) (by omega) (by omega))
  intro k k1 k2
  rw [e1] at k2
  unfold im_lw
  rw [e3, e2 k k2, e2 (k - 1) (by omega), show m - 1 - (k - 1) = (m - 1 - k) + 1 by omega]
  exact im_wy_l hD hy (by omega)
theorem im_hop {n : Nat} (hn : 4096 ≤ n) {σ : iw_M} (hw : im_WF (σ 85)) {a b : Nat} (ha : a < 2 ^ 31) (hb : b < 2 ^ 31) (h : 0 < im_dl (σ 85) a b) : ∃ l, f_X6_linkOf n (nI a) (nI b) σ = some (nI l) ∧ f_X6_ofLink (nI l) (2 : Int32) σ = some (nI (im_dl (σ 85) a b)) := by
  have b1 := hw.1.2.1.1
  obtain ⟨B1, B2⟩ := im_linkOf hn hw ha hb
  by_cases q : ∃ l, l < im_tn (σ 85 1) ∧ im_lkb (σ 85) l a b = true
  · obtain ⟨l, l1, l2⟩ := q
    have l3 := im_lkb_iff.mp l2
    obtain ⟨d1, d2, d3⟩ := im_dl_1 hw l1 l3
    refine ⟨l, B2 l l1 l3, ?_⟩
    rw [show (2 : Int32) = nI 2 from rfl, im_ofLink (by omega), d1]
    exact congrArg some (hw.2.1 l l1).2.2.1.2
  · rw [im_dl_0 (fun l h1 h2 => q ⟨l, h1, im_lkb_iff.mpr h2⟩)] at h
    omega
/-- the same but for energies and what is spent -/
def im_st (ρ ρ0 : Nat → Int32) : Prop := ∀ k, k ≠ 10 → ¬ (12 ≤ k ∧ k < 22) → ρ k = ρ0 k
/-- over which links data of a sensor went in the round -/
def im_snt (σx σm : iw_M) : Prop := ∀ s a, s < 6 → a < 10 → ∃ M, M < 1024 ∧ σx 3 (10 * s + a) = nI M ∧ ∀ b, b < 10 → σm 91 (100 * s + 10 * a + b) = if M.testBit b = true then 1 else 0
theorem im_snt_c {σx σx' σm σm' : iw_M} (h : im_snt σx σm) (h3 : σx' 3 = σx 3) (h91 : σm' 91 = σm 91) : im_snt σx' σm' := by
  intro s a hs ha
  rw [h3, h91]
  exact h s a hs ha
theorem im_snt_up {σx σm : iw_M} (h : im_snt σx σm) {s a b M : Nat} (hs : s < 6) (ha : a < 10) (hb : b < 10) (hM : M < 1024) (e : σx 3 (10 * s + a) = nI M) : im_snt (iw_up σx 3 (10 * s + a) (nI (M ||| 2 ^ b))) (iw_up σm 91 (100 * s + 10 * a + b) 1) := by
  intro s' a' hs' ha'
  obtain ⟨M', m1, m2, m3⟩ := h s' a' hs' ha'
  by_cases z : s' = s ∧ a' = a
  · obtain ⟨rfl, rfl⟩ := z
    rw [e, im_eq (by omega) (by omega)] at m2
    refine ⟨M ||| 2 ^ b, Nat.or_lt_two_pow (n := 10) hM (Nat.pow_lt_pow_right (by decide) hb), im_ups, fun b' hb' => ?_⟩
    rw [Nat.testBit_or, Nat.testBit_two_pow]
    by_cases y : b' = b
    · rw [y, im_ups, decide_eq_true rfl, Bool.or_true, if_pos rfl]
    · rw [im_upn (by omega), m3 b' hb', ← m2, decide_eq_false (fun z => y z.symm), Bool.or_false]
  · refine ⟨M', m1, ?_, fun b' hb' => ?_⟩
    · rw [im_upn (by omega)]; exact m2
    · rw [im_upn (by omega)]; exact m3 b' hb'
theorem im_st_sp {ρ ρ0 : Nat → Int32} (h : im_st ρ ρ0) {v : Nat} (hv : v < 10) {amt : Int32} : im_st (im_sp ρ v amt) ρ0 := fun k k1 k2 => by rw [im_sp_o k1 (by omega)]; exact h k k1 k2
theorem im_send_L {n : Nat} (hn : 4096 ≤ n) {ρ0 : Nat → Int32} (hw0 : im_WF ρ0) {i s : Nat} (hi : i < im_tn (ρ0 3)) (hs : s < im_tn (ρ0 2)) (hl : im_lnk ρ0 i s) (kx : iw_M → Option iw_M) (km : Int32 → iw_M → Option iw_M) : ∀ (d j nn : Nat) (σx σm : iw_M) (v : Nat), 1 ≤ j → j + d = max 1 (im_wlen ρ0 i s) → d < nn → im_NR σx 28 (σm 85) → im_WF (σm 85) → im_st (σm 85) ρ0 → im_snt σx σm → ∃ σx' σm', f_X3_send_L2 (nI (6 * i + s)) (nI s) kx nn (nI j) σx = kx σx' ∧ f_X6_sends_L5 n (nI i) (nI s) km nn (nI v) (nI j) σm = km (nI (v + im_su (im_lw ρ0 i s) d j)) σm' ∧ im_NR σx' 28 (σm' 85) ∧ im_WF (σm' 85) ∧ im_st (σm' 85) ρ0 ∧ im_snt σx' σm' ∧ ip_pe (im_tn (ρ0 0)) (σm 85) (σm' 85) ∧ (∀ r, r ≠ 3 → r ≠ 29 → r ≠ 30 → σx' r = σx r) ∧ ∀ r, r ≠ 85 → r ≠ 91 → σm' r = σm r := by
  have b0 := hw0.1.1.1
  have b2 := hw0.1.2.2.1.1
  have b3 := hw0.1.2.2.2.1.1
  have hwa := im_WF_wa hw0 hi hs
  have e3 : iw_al 3 = 60 := rfl
  have e91 : iw_al 91 = 600 := rfl
  have w0 := im_wa_ge i s
  have hc : iw_net 28 := iw_net_28
  have gw := hw0.2.2.2.2.2 i s hi hs
  have l10 : im_wlen ρ0 i s < 11 := gw.1.1
  intro d
  induction d with
  | zero =>
    intro j nn σx σm v j0 h1 h2 h hw st sn
    obtain ⟨nn, rfl⟩ : ∃ q, nn = q + 1 := ⟨nn - 1, by omega⟩
    have hi' : i < im_tn (σm 85 3) := by rw [st 3 (by omega) (by omega)]; exact hi
    have hs' : s < im_tn (σm 85 2) := by rw [st 2 (by omega) (by omega)]; exact hs
    obtain ⟨c1, c2⟩ := im_wn_c (ρ := ρ0) (ρ' := σm 85) (fun k hk => st k (by omega) (by omega)) i s
    obtain ⟨w1, w2, w3⟩ := im_way_X hc hw h hi' hs'
    refine ⟨σx, σm, ?_, ?_, h, hw, st, sn, ip_pe_0 _ _, fun _ _ _ _ => rfl, fun _ _ _ => rfl⟩
    · rw [s_X3_send_2]
      unfold f_X3_send_B2 f_X1_lengthOf
      rw [w2, c1, if_pos (by rw [im_le (by omega) (by omega)]; omega)]
    · rw [s_X6_sends_5]
      unfold f_X6_sends_B5
      rw [im_lengthOf (by omega), im_bind, (hw.2.2.2.2.2 i s hi' hs').1.2, show im_tn (σm 85 (im_wa i s)) = im_wlen ρ0 i s from c1, if_pos (by rw [im_le (by omega) (by omega)]; omega)]
      rfl
  | succ d ih =>
    intro j nn σx σm v j0 h1 h2 h hw st sn
    obtain ⟨nn, rfl⟩ : ∃ q, nn = q + 1 := ⟨nn - 1, by omega⟩
    have hi' : i < im_tn (σm 85 3) := by rw [st 3 (by omega) (by omega)]; exact hi
    have hs' : s < im_tn (σm 85 2) := by rw [st 2 (by omega) (by omega)]; exact hs
    obtain ⟨c1, c2⟩ := im_wn_c (ρ := ρ0) (ρ' := σm 85) (fun k hk => st k (by omega) (by omega)) i s
    have c3 : im_dl (σm 85) = im_dl ρ0 := im_dl_c hw0 (fun k hk => st k (by omega) (by omega))
    obtain ⟨w1, w2, w3⟩ := im_way_X hc hw h hi' hs'
    rw [c1, c2] at w3
    rw [c1] at w2
    obtain ⟨a1, a2⟩ := w3 (j - 1) (by omega)
    obtain ⟨d1, d2⟩ := w3 j (by omega)
    have eN : im_tn (σm 85 0) = im_tn (ρ0 0) := by rw [st 0 (by omega) (by omega)]
    have lw := hl j j0 (by omega)
    obtain ⟨a, ea⟩ : ∃ x, x = im_wn ρ0 i s (j - 1) := ⟨_, rfl⟩
    obtain ⟨b, eb⟩ : ∃ x, x = im_wn ρ0 i s j := ⟨_, rfl⟩
    have elw : im_lw ρ0 i s j = im_dl ρ0 a b := by unfold im_lw; rw [ea, eb]
    rw [elw] at lw
    rw [← ea] at a1 a2
    rw [← eb] at d1 d2
    have j1 : nI j - (1 : Int32) = nI (j - 1) := by rw [show (1 : Int32) = nI 1 from rfl, pk_sub (by omega)]
    obtain ⟨M, m1, m2, m3⟩ := sn s a (by omega) (by omega)
    have X1 : f_X1_lengthOf 28 (nI (6 * i + s)) σx = nI (im_wlen ρ0 i s) := by unfold f_X1_lengthOf; exact w2
    have X2 : f_X1_nodeOf 28 (nI (6 * i + s)) (nI (j - 1)) σx = nI a := by
      unfold f_X1_nodeOf
      rw [show (10 : Int32) = nI 10 from rfl, pk_mul, nI_add, Nat.mul_comm (6 * i + s) 10]
      exact a2
    have X3 : f_X1_nodeOf 28 (nI (6 * i + s)) (nI j) σx = nI b := by
      unfold f_X1_nodeOf
      rw [show (10 : Int32) = nI 10 from rfl, pk_mul, nI_add, Nat.mul_comm (6 * i + s) 10]
      exact d2
    have X4 : nI s * (10 : Int32) + nI a = nI (10 * s + a) := by rw [show (10 : Int32) = nI 10 from rfl, pk_mul, nI_add, Nat.mul_comm s 10]
    have Y4 : (100 : Int32) * nI s + (10 : Int32) * nI a + nI b = nI (100 * s + 10 * a + b) := by rw [show (100 : Int32) = nI 100 from rfl, show (10 : Int32) = nI 10 from rfl, pk_mul, pk_mul, nI_add, nI_add]
    obtain ⟨l, y1, y2⟩ := im_hop hn hw (a := a) (b := b) (by omega) (by omega) (by rw [c3]; exact lw)
    rw [c3] at y2
    have Y1 : σm 85 (im_wa i s) = nI (im_wlen ρ0 i s) := by rw [(hw.2.2.2.2.2 i s hi' hs').1.2, show im_tn (σm 85 (im_wa i s)) = im_wlen ρ0 i s from c1]
    have nd : ∀ k, k < im_wlen ρ0 i s → σm 85 (im_wa i s + 1 + k) = nI (im_wn ρ0 i s k) := fun k hk => by
      rw [st _ (by omega) (by omega)]
      exact (gw.2.1 k hk).2
    have Y2 : σm 85 (im_wa i s + 1 + (j - 1)) = nI a := by rw [nd _ (by omega), ea]
    have Y3 : σm 85 (im_wa i s + 1 + j) = nI b := by rw [nd _ (by omega), eb]
    have go : ∀ (σx1 σm1 : iw_M), im_NR σx1 28 (σm1 85) → im_WF (σm1 85) → im_st (σm1 85) ρ0 → im_snt σx1 σm1 → ip_pe (im_tn (ρ0 0)) (σm 85) (σm1 85) → (∀ r, r ≠ 3 → r ≠ 29 → r ≠ 30 → σx1 r = σx r) → (∀ r, r ≠ 85 → r ≠ 91 → σm1 r = σm r) → f_X3_send_L2 (nI (6 * i + s)) (nI s) kx (nn + 1) (nI j) σx = f_X3_send_L2 (nI (6 * i + s)) (nI s) kx nn (nI (j + 1)) σx1 → f_X6_sends_L5 n (nI i) (nI s) km (nn + 1) (nI v) (nI j) σm = f_X6_sends_L5 n (nI i) (nI s) km nn (nI (v + im_dl ρ0 a b)) (nI (j + 1)) σm1 → ∃ σx' σm', f_X3_send_L2 (nI (6 * i + s)) (nI s) kx (nn + 1) (nI j) σx = kx σx' ∧ f_X6_sends_L5 n (nI i) (nI s) km (nn + 1) (nI v) (nI j) σm = km (nI (v + im_su (im_lw ρ0 i s) (d + 1) j)) σm' ∧ im_NR σx' 28 (σm' 85) ∧ im_WF (σm' 85) ∧ im_st (σm' 85) ρ0 ∧ im_snt σx' σm' ∧ ip_pe (im_tn (ρ0 0)) (σm 85) (σm' 85) ∧ (∀ r, r ≠ 3 → r ≠ 29 → r ≠ 30 → σx' r = σx r) ∧ ∀ r, r ≠ 85 → r ≠ 91 → σm' r = σm r := by
      intro σx1 σm1 g1 g2 g3 g4 gp g5 g6 g7 g8
      obtain ⟨σx', σm', z1, z2, z3, z4, z5, z6, zp, z7, z8⟩ := ih (j + 1) nn σx1 σm1 (v + im_dl ρ0 a b) (by omega) (by omega) (by omega) g1 g2 g3 g4
      refine ⟨σx', σm', by rw [g7]; exact z1, ?_, z3, z4, z5, z6, ip_pe_t gp zp, fun r r1 r2 r3 => (z7 r r1 r2 r3).trans (g5 r r1 r2 r3), fun r r1 r2 => (z8 r r1 r2).trans (g6 r r1 r2)⟩
      rw [g8, z2, im_su_s, elw, Nat.add_assoc]
    by_cases q : M.testBit b = true
    · refine go σx σm h hw st sn (ip_pe_0 _ _) (fun _ _ _ _ => rfl) (fun _ _ _ => rfl) ?_ ?_
      · rw [s_X3_send_2]
        unfold f_X3_send_B2 f_X3_send_J105
        rw [X1, if_neg (by rw [im_le (by omega) (by omega)]; omega), j1, X2, X3, im_let, im_let, X4, im_at (by omega), m2, im_let, im_holds m1 (by omega), if_pos q, if_neg (by decide), im_let, nI_1]
      · rw [s_X6_sends_5]
        unfold f_X6_sends_B5 f_X6_sends_J108
        rw [im_lengthOf (by omega), im_bind, Y1, if_neg (by rw [im_le (by omega) (by omega)]; omega), j1, im_nodeOf (by omega), im_bind, Y2, im_nodeOf (by omega), im_bind, Y3, y1, im_bind, y2, im_bind, im_let, Y4, im_rd (by omega), im_bind, m3 b (by omega), if_pos q, if_neg (by decide), im_let, nI_1, nI_add]
    · obtain ⟨p1, p2⟩ := im_spend (σ := iw_up σx 3 (10 * s + a) (nI (M ||| 2 ^ b))) hc (im_NR_congr h (fun u u1 u2 => iw_up_ne (by omega))) a1 (by omega) 2
      obtain ⟨p3, p4⟩ := im_spend hc p1 (show b < im_tn (im_sp (σm 85) a 2 0) by rw [im_sp_o (by omega) (by omega)]; exact d1) (by omega) 1
      obtain ⟨σm2, r1, r2, r3⟩ := im_spends (σ := iw_up σm 91 (100 * s + 10 * a + b) 1) (show a < 10 by omega) 2
      obtain ⟨σm3, r4, r5, r6⟩ := im_spends (σ := σm2) (show b < 10 by omega) 1
      have e85 : σm3 85 = im_sp (im_sp (σm 85) a 2) b 1 := by rw [r5, r2, iw_up_ne (by decide)]
      have lorM : nI M ||| ((1 : Int32) <<< (nI b &&& 31)) = nI (M ||| 2 ^ b) := im_lor ⟨M, m1⟩ ⟨b, by omega⟩
      refine go (f_X1_spend 28 (nI b) 1 (f_X1_spend 28 (nI a) 2 (iw_up σx 3 (10 * s + a) (nI (M ||| 2 ^ b))))) σm3 (by rw [e85]; exact p3) (by rw [e85]; exact im_WF_sp (im_WF_sp hw (by omega)) (by omega)) (by rw [e85]; exact im_st_sp (im_st_sp st (by omega)) (by omega)) (im_snt_c (im_snt_up sn (s := s) (a := a) (b := b) (by omega) (by omega) (by omega) m1 m2) (by rw [p4 3 (by decide) (by decide), p2 3 (by decide) (by decide)]) (by rw [r6 91 (by decide), r3 91 (by decide)])) (by rw [e85]; exact ip_pe_t (ip_pe_sp (by omega) (by decide)) (ip_pe_sp (by omega) (by decide))) (fun r r1 r2 r3 => by rw [p4 r r2 r3, p2 r r2 r3, iw_up_ne r1]) (fun r y5 y6 => by rw [r6 r y5, r3 r y5, iw_up_ne y6]) ?_ ?_
      · rw [s_X3_send_2]
        unfold f_X3_send_B2 f_X3_send_J105
        rw [X1, if_neg (by rw [im_le (by omega) (by omega)]; omega), j1, X2, X3, im_let, im_let, X4, im_at (by omega), m2, im_let, im_holds m1 (by omega), if_neg q, if_pos rfl, lorM, im_put (by omega), im_let, im_let, im_let, im_let, nI_1]
      · rw [s_X6_sends_5]
        unfold f_X6_sends_B5 f_X6_sends_J108
        rw [im_lengthOf (by omega), im_bind, Y1, if_neg (by rw [im_le (by omega) (by omega)]; omega), j1, im_nodeOf (by omega), im_bind, Y2, im_nodeOf (by omega), im_bind, Y3, y1, im_bind, y2, im_bind, im_let, Y4, im_rd (by omega), im_bind, m3 b (by omega), if_neg q, if_pos rfl, im_wr (by omega), im_bind, show (1 : Int32) &&& 1 = 1 by decide, r1, im_bind, r4, im_bind, im_let, nI_1, nI_add]
