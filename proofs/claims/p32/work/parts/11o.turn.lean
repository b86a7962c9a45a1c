/-! a turn of an interest and a sensor, on both sides -/
def im_mt (ρ : Nat → Int32) (i s : Nat) : Prop := ρ (82 + 3 * s + 1) = ρ (100 + 7 * i + 1) ∧ ρ (100 + 7 * i + 2) ≤ ρ (82 + 3 * s + 2) ∧ ρ (82 + 3 * s + 2) ≤ ρ (100 + 7 * i + 3)
theorem im_matchX (n : Nat) {c : Nat} {ρ : Nat → Int32} {σ : iw_M} (hc : iw_net c) (hw : im_WF ρ) (h : im_NR σ c ρ) {i s : Nat} (hi : i < im_tn (ρ 3)) (hs : s < im_tn (ρ 2)) : (im_mt ρ i s → f_X1_matches n c (nI s) (nI i) σ = some 1) ∧ (¬ im_mt ρ i s → f_X1_matches n c (nI s) (nI i) σ = some 0) := by
  have b2 := hw.1.2.2.1.1
  have b3 := hw.1.2.2.2.1.1
  have P : ∀ w, w < 7 → f_X1_interestPart n c (nI i) (nI w) σ = some (ρ (100 + 7 * i + w)) := fun w hw7 => by rw [im_intPart n hc (by omega) hw7, h.2.2.2.2.1 _ (by omega), Nat.add_assoc]
  have S : ∀ w, w < 3 → f_X1_sensorPart c (nI s) (nI w) σ = ρ (82 + 3 * s + w) := fun w hw3 => by rw [im_sensorPart hc (by omega), h.2.2.2.1 _ (by omega), Nat.add_assoc]
  have P1 : f_X1_interestPart n c (nI i) (1 : Int32) σ = some (ρ (100 + 7 * i + 1)) := P 1 (by omega)
  have P2 : f_X1_interestPart n c (nI i) (2 : Int32) σ = some (ρ (100 + 7 * i + 2)) := P 2 (by omega)
  have P3 : f_X1_interestPart n c (nI i) (3 : Int32) σ = some (ρ (100 + 7 * i + 3)) := P 3 (by omega)
  have S1 : f_X1_sensorPart c (nI s) (1 : Int32) σ = ρ (82 + 3 * s + 1) := S 1 (by omega)
  have S2 : f_X1_sensorPart c (nI s) (2 : Int32) σ = ρ (82 + 3 * s + 2) := S 2 (by omega)
  unfold f_X1_matches im_mt
  rw [P1, im_bind, S1, P2, im_bind, P3, im_bind, S2, im_within, im_b01]
  refine ⟨fun q => by rw [if_pos q.1, if_pos q.2], fun q => ?_⟩
  by_cases z : ρ (82 + 3 * s + 1) = ρ (100 + 7 * i + 1)
  · rw [if_pos z, if_neg (fun y => q ⟨z, y⟩)]
  · rw [if_neg z]
theorem im_matchM {σ : iw_M} (hw : im_WF (σ 85)) {i s : Nat} (hi : i < im_tn (σ 85 3)) (hs : s < im_tn (σ 85 2)) : (im_mt (σ 85) i s → f_X6_matches (nI i) (nI s) σ = some 1) ∧ (¬ im_mt (σ 85) i s → f_X6_matches (nI i) (nI s) σ = some 0) := by
  have b2 := hw.1.2.2.1.1
  have b3 := hw.1.2.2.2.1.1
  have P1 : f_X6_ofInterest (nI i) (1 : Int32) σ = some (σ 85 (100 + 7 * i + 1)) := im_ofInterest (w := 1) (by omega)
  have P2 : f_X6_ofInterest (nI i) (2 : Int32) σ = some (σ 85 (100 + 7 * i + 2)) := im_ofInterest (w := 2) (by omega)
  have P3 : f_X6_ofInterest (nI i) (3 : Int32) σ = some (σ 85 (100 + 7 * i + 3)) := im_ofInterest (w := 3) (by omega)
  have S1 : f_X6_ofSensor (nI s) (1 : Int32) σ = some (σ 85 (82 + 3 * s + 1)) := im_ofSensor (w := 1) (by omega)
  have S2 : f_X6_ofSensor (nI s) (2 : Int32) σ = some (σ 85 (82 + 3 * s + 2)) := im_ofSensor (w := 2) (by omega)
  unfold f_X6_matches im_mt
  rw [P1, im_bind, S1, im_bind, S2, im_bind, P2, im_bind, P3, im_bind, im_in, im_b01]
  refine ⟨fun q => by rw [if_pos q.1.symm, if_pos q.2], fun q => ?_⟩
  by_cases z : σ 85 (100 + 7 * i + 1) = σ 85 (82 + 3 * s + 1)
  · rw [if_pos z, if_neg (fun y => q ⟨z.symm, y⟩)]
  · rw [if_neg z]
theorem im_ab_all {g : Nat → Bool} : ∀ (d a : Nat), im_ab g d a = true → ∀ k, a ≤ k → k < a + d → g k = true := by
  intro d
  induction d with
  | zero => intro a _ k k1 k2; omega
  | succ d ih =>
    intro a h k k1 k2
    rw [im_ab_s, Bool.and_eq_true] at h
    by_cases z : k = a
    · rw [z]; exact h.1
    · exact ih (a + 1) h.2 k (by omega) (by omega)
theorem im_ww_l {ρ : Nat → Int32} {i s : Nat} (h : im_ww ρ i s = true) : im_lnk ρ i s := by
  unfold im_ww at h
  rw [Bool.and_eq_true] at h
  intro k k1 k2
  have q := im_ab_all _ _ h.2 k (Nat.zero_le _) (by omega)
  unfold im_gd at q
  rw [Bool.and_eq_true, Bool.or_eq_true, decide_eq_true_iff, decide_eq_true_iff] at q
  rcases q.2 with z | z
  · omega
  · exact z
/-- an exploring turn, exactly -/
def ip_t1 (r : Nat) (ρ : Nat → Int32) (i s : Nat) (ρ' : Nat → Int32) : Prop :=
  im_mt ρ i s → im_av ρ (im_tn (ρ (82 + 3 * s))) = true → im_av ρ (im_tn (ρ (100 + 7 * i))) = true → ρ 5 - ρ 5 / ρ 4 * ρ 4 = 0 → ∃ T m, im_D (im_dl ρ) (im_av ρ) (im_tn (ρ (82 + 3 * s))) T ∧ im_wy (im_dl ρ) T (im_tn (ρ (82 + 3 * s))) (im_tn (ρ (100 + 7 * i))) m ∧ ip_f1 r (im_er ρ i s T (im_tn (ρ (100 + 7 * i))) m) i s ρ'
theorem im_turn {n : Nat} (hn : 4096 ≤ n) {i s : Nat} {σx σm : iw_M} (R : im_run σx σm) (hi : i < im_tn (σm 85 3)) (hs : s < im_tn (σm 85 2)) : ∃ r σx' σm', r ≤ 1 ∧ f_X3_takeTurn n (nI i) (nI s) σx = some (nI r, σx') ∧ f_X6_turns n (nI i) (nI s) σm = some (nI r, σm') ∧ im_run σx' σm' ∧ im_tq (σm' 85) (σm 85) ∧ (ip_tg 1 (σm 85) (σm' 85) ∧ ip_t1 r (σm 85) i s (σm' 85)) ∧ (∀ r, r ≠ 2 → r ≠ 3 → (r < 16 ∨ 19 < r) → (r < 29 ∨ 35 < r) → σx' r = σx r) ∧ (∀ r, r < 84 ∨ 91 < r → σm' r = σm r) ∧ ∀ j, j ≠ 6 → j ≠ 8 → σm' 84 j = σm 84 j := by
  obtain ⟨hN, hw, hm, hk, hsn⟩ := id R
  have b0 := hw.1.1.1
  have b2 := hw.1.2.2.1.1
  have b3 := hw.1.2.2.2.1.1
  have hwa := im_WF_wa hw hi hs
  have w0 := im_wa_ge i s
  have hc : iw_net 28 := iw_net_28
  obtain ⟨ρ, eρ⟩ : ∃ x, x = σm 85 := ⟨_, rfl⟩
  rw [← eρ] at hN hw hm hk hi hs b0 b2 b3
  obtain ⟨f, ef⟩ : ∃ x, x = im_tn (ρ (82 + 3 * s)) := ⟨_, rfl⟩
  obtain ⟨g, eg⟩ : ∃ x, x = im_tn (ρ (100 + 7 * i)) := ⟨_, rfl⟩
  have sf := hw.2.2.2.1 s hs
  have sg := hw.2.2.2.2.1 i hi
  have vf : ρ (82 + 3 * s) = nI f := by rw [ef]; exact sf.2
  have vg : ρ (100 + 7 * i) = nI g := by rw [eg]; exact sg.2
  have fN : f < im_tn (ρ 0) := by rw [ef]; exact sf.1
  have gN : g < im_tn (ρ 0) := by rw [eg]; exact sg.1
  obtain ⟨σ1, l1, l2, l3⟩ := im_looks hn (σ := σm) (by rw [← eρ]; exact hw)
  rw [← eρ] at l2
  have s1 : σ1 85 = ρ := by rw [l3 85 (by decide), eρ]
  have R1 : im_run σx σ1 := ⟨by rw [s1]; exact hN, by rw [s1]; exact hw, by rw [s1]; exact hm, by rw [s1]; exact hk, im_snt_c hsn rfl (l3 91 (by decide))⟩
  have e87 : iw_al 87 = 10 := rfl
  -- the class's looks
  have X1 : f_X5_wayOf (nI i) (nI s) = nI (6 * i + s) := im_wayOf i s
  have X2 : f_X1_sensorPart 28 (nI s) (0 : Int32) σx = nI f := by
    rw [show f_X1_sensorPart 28 (nI s) (0 : Int32) σx = f_X1_sensorPart 28 (nI s) (nI 0) σx from rfl, im_sensorPart hc (by omega), hN.2.2.2.1 _ (by omega)]
    exact vf
  have X3 : f_X1_interestPart n 28 (nI i) (0 : Int32) σx = some (nI g) := by
    rw [show f_X1_interestPart n 28 (nI i) (0 : Int32) σx = f_X1_interestPart n 28 (nI i) (nI 0) σx from rfl, im_intPart n hc (by omega) (by omega), hN.2.2.2.2.1 _ (by omega)]
    exact congrArg some vg
  have X4 := im_aliveNodes hn hc hw hN
  have hM : im_mk (im_al ρ) (im_tn (ρ 0)) < 1024 := im_mk_1024 _ (by omega)
  have H : ∀ v, v < 10 → f_X5_holds (nI (im_mk (im_al ρ) (im_tn (ρ 0)))) (nI v) = if im_av ρ v = true then 1 else 0 := fun v hv => by rw [im_holds hM hv, im_av_bit]
  obtain ⟨mx1, mx0⟩ := im_matchX n hc hw hN hi hs
  obtain ⟨mm1, mm0⟩ := im_matchM (σ := σ1) (by rw [s1]; exact hw) (by rw [s1]; exact hi) (by rw [s1]; exact hs)
  rw [s1] at mm1 mm0
  have Y2 : f_X6_ofSensor (nI s) (0 : Int32) σ1 = some (nI f) := by rw [im_ofS0 (by omega), s1, vf]
  have Y3 : f_X6_ofInterest (nI i) (0 : Int32) σ1 = some (nI g) := by rw [im_ofI0 (by omega), s1, vg]
  have Y4 : ∀ v, v < 10 → iw_rd σ1 87 (nI v) = some (if im_av ρ v = true then 1 else 0) := fun v hv => by rw [im_rd (by omega), l2 v hv]
  -- the way is dropped
  obtain ⟨dx1, dx2⟩ := im_dropWay hw hN hi hs hc
  have drop : ∃ r σx' σm', r ≤ 1 ∧ f_X3_takeTurn_J69 σx (nI (6 * i + s)) = some (nI r, σx') ∧ f_X6_turns_J41 (nI i) (nI s) σ1 = some (nI r, σm') ∧ im_run σx' σm' ∧ im_tq (σm' 85) ρ ∧ ip_tg 1 ρ (σm' 85) ∧ (∀ r, r ≠ 2 → r ≠ 3 → (r < 16 ∨ 19 < r) → (r < 29 ∨ 35 < r) → σx' r = σx r) ∧ (∀ r, r < 84 ∨ 91 < r → σm' r = σm r) ∧ ∀ j, j ≠ 6 → j ≠ 8 → σm' 84 j = σm 84 j := by
    have e5 : iw_up σ1 85 (im_wa i s) 0 85 = im_ru ρ (im_wa i s) 0 := by rw [im_up_row, s1]
    have tq : im_tq (im_ru ρ (im_wa i s) 0) ρ := fun k hk => im_ru_ne (by omega)
    have e6 : im_dl (im_ru ρ (im_wa i s) 0) = im_dl ρ := im_dl_c hw (fun k hk => tq k (by omega))
    refine ⟨0, f_X1_dropWay 28 (nI (6 * i + s)) σx, iw_up σ1 85 (im_wa i s) 0, by omega, ?_, ?_, ⟨by rw [e5]; exact dx1, by rw [e5]; exact im_WF_drp hw hi hs, by rw [e5]; exact im_mx_c hm e6 (dx2 _ (by omega)), by rw [e5, e6]; exact im_keep_c hk (fun r r1 r2 => dx2 r (by omega)), im_snt_c hsn (dx2 3 (by omega)) (by rw [iw_up_ne (by decide), l3 91 (by decide)])⟩, by rw [e5]; exact tq, by rw [e5]; exact ⟨ip_pg_m (ip_pg_drop hw hi hs) (by omega), im_ru_ne (by omega)⟩, fun r r1 r2 r3 r4 => dx2 r (by omega), fun r hr => by rw [iw_up_ne (by omega), l3 r (by omega)], fun j j1 j2 => by rw [iw_up_ne (by decide), l3 84 (by decide)]⟩
    · unfold f_X3_takeTurn_J69
      rw [im_let]
      rfl
    · unfold f_X6_turns_J41
      rw [im_wayAt, im_wr (by rw [im_al85]; omega), im_bind]
      rfl
  unfold f_X3_takeTurn f_X6_turns
  rw [X1, im_let, X2, im_let, X3, im_bind, X4, im_bind, l1, im_bind, ← eρ]
  by_cases z1 : im_mt ρ i s
  · rw [mx1 z1, mm1 z1, im_bind, im_bind, if_neg (show ¬ (1 : Int32) = 0 by decide), if_neg (show ¬ (1 : Int32) = 0 by decide), H f (by omega), H g (by omega), Y2, im_bind, Y4 f (by omega), im_bind, im_b01, im_b01, im_b01]
    by_cases z2 : im_av ρ f = true
    · rw [if_pos z2, if_pos z2, Y3, im_bind, Y4 g (by omega), im_bind, im_b01]
      by_cases z3 : im_av ρ g = true
      · rw [if_pos z3, if_pos z3]
        -- explored
        have ex : ∃ r σx' σm' T m, (im_D (im_dl ρ) (im_av ρ) f T ∧ im_wy (im_dl ρ) T f g m ∧ ip_f1 r (im_er ρ i s T g m) i s (σm' 85)) ∧ r ≤ 1 ∧ f_X3_takeTurn_J103 n (nI i) (nI s) σx (nI (6 * i + s)) (nI f) (nI g) (nI (im_mk (im_al ρ) (im_tn (ρ 0)))) = some (nI r, σx') ∧ f_X6_turns_J80 n (nI i) (nI s) σ1 = some (nI r, σm') ∧ im_run σx' σm' ∧ im_tq (σm' 85) ρ ∧ ip_tg 1 ρ (σm' 85) ∧ (∀ r, r ≠ 2 → r ≠ 3 → (r < 16 ∨ 19 < r) → (r < 29 ∨ 35 < r) → σx' r = σx r) ∧ (∀ r, r < 84 ∨ 91 < r → σm' r = σm r) ∧ ∀ j, j ≠ 6 → j ≠ 8 → σm' 84 j = σm 84 j := by
          obtain ⟨σ2, T, m, x1, hD, hy, x2, x3, x4⟩ := im_explores hn hw s1 l2 hi hs ef.symm eg.symm z2
          obtain ⟨τ2, y1, y2, y3, y4⟩ := im_exploreWay hn hw hN hm hk hi hs z2 (show g < 10 by omega) hD hy
          have m10 := (im_wy_f hy).1
          have tq : im_tq (im_er ρ i s T g m) ρ := fun k hk => by
            rcases hk with hk | hk | hk
            · exact im_er_o (by omega) (by omega) (by omega)
            · exact im_er_o (by omega) (by omega) (by omega)
            · exact im_er_o (by omega) (by omega) (by omega)
          have e6 : im_dl (im_er ρ i s T g m) = im_dl ρ := im_dl_c hw (fun k hk => tq k (by omega))
          have R2 : im_run τ2 σ2 := ⟨by rw [x2]; exact y2, by rw [x2]; exact im_WF_er hw hi hs z2 hD hy, by rw [x2]; exact im_mx_c hm e6 (y4 _ (by omega) (by omega) (by omega)), by rw [x2, e6]; exact y3, im_snt_c hsn (y4 3 (by omega) (by omega) (by omega)) (by rw [x3 91 (by omega) (by omega) (by omega) (by omega) (by omega) (by omega), l3 91 (by decide)])⟩
          obtain ⟨r, σx', σm', r1, u1, u2, u3, u4, ⟨up, uf⟩, u5, u6⟩ := im_fin hn R2 (i := i) (s := s) (by rw [x2, tq 3 (by omega)]; exact hi) (by rw [x2, tq 2 (by omega)]; exact hs) (by rw [x2]; exact im_lnk_er hw hD hy)
          refine ⟨r, σx', σm', T, m, ⟨hD, hy, by rw [x2] at uf; exact uf⟩, r1, ?_, ?_, u3, fun k hk => by rw [u4 k hk, x2, tq k hk], (by rw [x2] at up; exact ip_tg_t (d := 0) (d' := 1) ⟨ip_pg_er hw hi hs ef.symm eg.symm hy, im_er_o (by omega) (by omega) (by omega)⟩ up), fun r r1 r2 r3 r4 => by rw [u5 r r2 (by omega) (by omega) (by omega), y4 r r1 r3 r4], fun r hr => by rw [u6 r (by omega) (by omega), x3 r (by omega) (by omega) (by omega) (by omega) (by omega) (by omega), l3 r (by omega)], fun j j1 j2 => by rw [u6 84 (by omega) (by omega), x4 j j1 j2, l3 84 (by omega)]⟩
          · unfold f_X3_takeTurn_J103
            rw [y1, im_bind, u1]
          · unfold f_X6_turns_J80
            rw [x1, im_bind, u2]
        have p4 := hw.1.2.2.2.2
        have v4 := p4.1.2
        have v4' := p4.1.1
        have r5 : iw_rd σ1 85 (5 : Int32) = some (ρ 5) := by rw [← s1]; exact im_m_rd (k := 5) (by decide)
        have r4 : iw_rd σ1 85 (4 : Int32) = some (ρ 4) := by rw [← s1]; exact im_m_rd (k := 4) (by decide)
        have n4 : f_X1_number n 28 (4 : Int32) σx = some (ρ 4) := (im_num n hc (j := 4) (by omega) (by omega)).trans (congrArg some (hN.1 4 (by omega) (by omega)))
        have n5 : f_X1_number n 28 (5 : Int32) σx = some (ρ 5) := (im_num n hc (j := 5) (by omega) (by omega)).trans (congrArg some (hN.1 5 (by omega) (by omega)))
        have pos : ¬ ρ 4 ≤ (0 : Int32) := by rw [v4, show (0 : Int32) = nI 0 from rfl, im_le (by omega) (by omega)]; omega
        have nz : ¬ ρ 4 = (0 : Int32) := by rw [v4, show (0 : Int32) = nI 0 from rfl, im_eq (by omega) (by omega)]; omega
        have rem : iw_rem (ρ 5) (ρ 4) = some (ρ 5 - ρ 5 / ρ 4 * ρ 4) := if_neg nz
        unfold f_X3_isExploringRound
        rw [n4, im_bind, if_neg pos, n5, im_bind, rem, im_bind, r5, im_bind, r4, im_bind, rem, im_bind]
        by_cases z4 : ρ 5 - ρ 5 / ρ 4 * ρ 4 = 0
        · rw [if_pos z4, if_pos z4, im_bind, if_neg (show ¬ (1 : Int32) = 0 by decide)]
          obtain ⟨r, σx', σm', T, m, e0, e1, e2, e3, e4, e5, e6, e7⟩ := ex
          exact ⟨r, σx', σm', e1, e2, e3, e4, e5, ⟨e6, fun _ _ _ _ => ⟨T, m, by rw [← ef]; exact e0.1, by rw [← ef, ← eg]; exact e0.2.1, by rw [← eg]; exact e0.2.2⟩⟩, e7⟩
        · rw [if_neg z4, if_neg z4, im_bind, if_pos rfl, im_carry hn (Or.inr rfl) hc hw hN hm hi hs, im_bind, im_b01, im_isWholeWay hn (by rw [s1]; exact hw) (by rw [s1]; exact hi) (by rw [s1]; exact hs), im_bind, im_b01, s1]
          by_cases z5 : im_ww ρ i s = true
          · rw [if_pos z5, if_pos z5]
            obtain ⟨r, σx', σm', r1, u1, u2, u3, u4, ⟨up, uf⟩, u5, u6⟩ := im_fin hn R1 (i := i) (s := s) (by rw [s1]; exact hi) (by rw [s1]; exact hs) (by rw [s1]; exact im_ww_l z5)
            exact ⟨r, σx', σm', r1, u1, u2, u3, fun k hk => by rw [u4 k hk, s1], ⟨(by rw [s1] at up; exact up), fun _ _ _ z => absurd z z4⟩, fun r r1 r2 r3 r4 => u5 r r2 (by omega) (by omega) (by omega), fun r hr => by rw [u6 r (by omega) (by omega), l3 r (by omega)], fun j j1 j2 => by rw [u6 84 (by omega) (by omega), l3 84 (by omega)]⟩
          · rw [if_neg z5, if_neg z5]
            obtain ⟨r, σx', σm', T, m, e0, e1, e2, e3, e4, e5, e6, e7⟩ := ex
            exact ⟨r, σx', σm', e1, e2, e3, e4, e5, ⟨e6, fun _ _ _ z => absurd z z4⟩, e7⟩
      · rw [if_neg z3, if_neg z3]
        obtain ⟨r, σx', σm', e1, e2, e3, e4, e5, e6, e7⟩ := drop
        exact ⟨r, σx', σm', e1, e2, e3, e4, e5, ⟨e6, fun _ _ z _ => absurd (by rw [← eg] at z; exact z) z3⟩, e7⟩
    · rw [if_neg z2, if_neg z2]
      obtain ⟨r, σx', σm', e1, e2, e3, e4, e5, e6, e7⟩ := drop
      exact ⟨r, σx', σm', e1, e2, e3, e4, e5, ⟨e6, fun _ z _ _ => absurd (by rw [← ef] at z; exact z) z2⟩, e7⟩
  · rw [mx0 z1, mm0 z1, im_bind, im_bind, if_pos rfl, if_pos rfl]
    obtain ⟨r, σx', σm', e1, e2, e3, e4, e5, e6, e7⟩ := drop
    exact ⟨r, σx', σm', e1, e2, e3, e4, e5, ⟨e6, fun z _ _ _ => absurd z z1⟩, e7⟩
