/-! a turn's end: data go over the way and are counted -/
theorem im_delayOf_L {c c1 : Nat} {ρ : Nat → Int32} {σ : iw_M} (hp : im_path c) (hc : iw_net c1) (hw : im_WF ρ) (h : im_NR σ c1 ρ) (hm : im_mx σ c ρ (im_tn (ρ 1))) {i s : Nat} (hi : i < im_tn (ρ 3)) (hs : s < im_tn (ρ 2)) (k : Int32 → Option Int32) : ∀ (d j nn v : Nat), 1 ≤ j → j + d = max 1 (im_wlen ρ i s) → d < nn → f_X2_delayOf_L5 c c1 (nI (6 * i + s)) σ k nn (nI v) (nI j) = k (nI (v + im_su (im_lw ρ i s) d j)) := by
  have b0 := hw.1.1.1
  obtain ⟨w1, w2, w3⟩ := im_way_X hc hw h hi hs
  have X1 : f_X1_lengthOf c1 (nI (6 * i + s)) σ = nI (im_wlen ρ i s) := by unfold f_X1_lengthOf; exact w2
  have X2 : ∀ u, u < im_wlen ρ i s → f_X1_nodeOf c1 (nI (6 * i + s)) (nI u) σ = nI (im_wn ρ i s u) := fun u hu => by
    unfold f_X1_nodeOf
    rw [show (10 : Int32) = nI 10 from rfl, pk_mul, nI_add, Nat.mul_comm (6 * i + s) 10]
    exact (w3 u hu).2
  intro d
  induction d with
  | zero =>
    intro j nn v j0 h1 h2
    obtain ⟨nn, rfl⟩ : ∃ q, nn = q + 1 := ⟨nn - 1, by omega⟩
    rw [s_X2_delayOf_5]
    unfold f_X2_delayOf_B5
    rw [X1, if_pos (by rw [im_le (by omega) (by omega)]; omega)]
    rfl
  | succ d ih =>
    intro j nn v j0 h1 h2
    obtain ⟨nn, rfl⟩ : ∃ q, nn = q + 1 := ⟨nn - 1, by omega⟩
    have n1 := (w3 (j - 1) (by omega)).1
    have n2 := (w3 j (by omega)).1
    have j1 : nI j - (1 : Int32) = nI (j - 1) := by rw [show (1 : Int32) = nI 1 from rfl, pk_sub (by omega)]
    rw [s_X2_delayOf_5]
    unfold f_X2_delayOf_B5
    rw [X1, if_neg (by rw [im_le (by omega) (by omega)]; omega), j1, X2 _ (by omega), X2 _ (by omega), im_delayB hp hm (by omega) (by omega), im_let, im_let, nI_1, nI_add, ih (j + 1) nn _ (by omega) (by omega) (by omega), im_su_s, Nat.add_assoc]
    rfl
theorem im_delayOf {n : Nat} (hn : 4096 ≤ n) {c c1 : Nat} {ρ : Nat → Int32} {σ : iw_M} (hp : im_path c) (hc : iw_net c1) (hw : im_WF ρ) (h : im_NR σ c1 ρ) (hm : im_mx σ c ρ (im_tn (ρ 1))) {i s : Nat} (hi : i < im_tn (ρ 3)) (hs : s < im_tn (ρ 2)) : f_X2_delayOf n c c1 (nI (6 * i + s)) σ = some (nI (im_su (im_lw ρ i s) (im_wlen ρ i s - 1) 1)) := by
  have w1 := (im_way_X hc hw h hi hs).1
  unfold f_X2_delayOf
  rw [show f_X2_delayOf_L5 c c1 (nI (6 * i + s)) σ f_X2_delayOf_X44_5 n (0 : Int32) (1 : Int32) = f_X2_delayOf_L5 c c1 (nI (6 * i + s)) σ f_X2_delayOf_X44_5 n (nI 0) (nI 1) from rfl, im_delayOf_L hp hc hw h hm hi hs _ (im_wlen ρ i s - 1) 1 n 0 (by omega) (by omega) (by omega), Nat.zero_add]
  rfl
/-- what stays in a turn -/
def im_tq (ρ ρ0 : Nat → Int32) : Prop := ∀ k, k < 6 ∨ (22 ≤ k ∧ k < 100) ∨ 465 ≤ k → ρ k = ρ0 k
/-- what holds between the two in a run -/
def im_run (σx σm : iw_M) : Prop := im_NR σx 28 (σm 85) ∧ im_WF (σm 85) ∧ im_mx σx 14 (σm 85) (im_tn (σm 85 1)) ∧ im_keep σx (im_dl (σm 85)) ∧ im_snt σx σm
theorem im_mx_c {σ σ' : iw_M} {c : Nat} {ρ ρ' : Nat → Int32} (h : im_mx σ c ρ (im_tn (ρ 1))) (e : im_dl ρ' = im_dl ρ) (e1 : σ' (c + 1) = σ (c + 1)) : im_mx σ' c ρ' (im_tn (ρ' 1)) := fun a b ha hb => by
  rw [e1]
  show σ (c + 1) (10 * a + b) = nI (im_dl ρ' a b)
  rw [e]
  exact h a b ha hb
theorem im_deliver {c i : Nat} {v : Int32} {σ : iw_M} (hc : iw_net c) (hi : i < 5) : f_X1_deliver c (nI i) v σ = iw_up (iw_up σ (c + 5) (7 * i + 5) (σ (c + 5) (7 * i + 5) + 1)) (c + 5) (7 * i + 6) (σ (c + 5) (7 * i + 6) + v) := by
  have a5 := (im_al_n c hc).2.2.2.2.1
  have e5 : nI i * (7 : Int32) + (5 : Int32) = nI (7 * i + 5) := by rw [show (7 : Int32) = nI 7 from rfl, show (5 : Int32) = nI 5 from rfl, pk_mul, nI_add, Nat.mul_comm i 7]
  have e6 : nI i * (7 : Int32) + (6 : Int32) = nI (7 * i + 6) := by rw [show (7 : Int32) = nI 7 from rfl, show (6 : Int32) = nI 6 from rfl, pk_mul, nI_add, Nat.mul_comm i 7]
  unfold f_X1_deliver
  rw [e5, e6, im_inc (by omega), im_let, im_inc (by omega), im_let, im_upn (by omega)]
/-- a delivery is counted for an interest -/
def im_dv (ρ : Nat → Int32) (i : Nat) (v : Int32) : Nat → Int32 := im_ru (im_ru ρ (100 + 7 * i + 5) (ρ (100 + 7 * i + 5) + 1)) (100 + 7 * i + 6) (ρ (100 + 7 * i + 6) + v)
theorem im_dv_o {ρ : Nat → Int32} {i k : Nat} {v : Int32} (h : k < 100 ∨ 135 ≤ k) (hi : i < 5) : im_dv ρ i v k = ρ k := by
  unfold im_dv
  rw [im_ru_ne (by omega), im_ru_ne (by omega)]
theorem im_dv_X {ρ : Nat → Int32} {σ : iw_M} {i : Nat} {v : Int32} (hw : im_WF ρ) (h : im_NR σ 28 ρ) (hi : i < im_tn (ρ 3)) : im_NR (f_X1_deliver 28 (nI i) v σ) 28 (im_dv ρ i v) ∧ im_WF (im_dv ρ i v) ∧ ∀ r, r ≠ 33 → f_X1_deliver 28 (nI i) v σ r = σ r := by
  have b3 := hw.1.2.2.2.1.1
  have w1 : im_WF (im_ru ρ (100 + 7 * i + 5) (ρ (100 + 7 * i + 5) + 1)) := im_WF_ru hw (Or.inr (Or.inr (by omega)))
  have h1 := im_NR_in (v := ρ (100 + 7 * i + 5) + 1) h hw (j := 7 * i + 5) (by omega)
  rw [show 100 + (7 * i + 5) = 100 + 7 * i + 5 by omega] at h1
  have h2 := im_NR_in (v := ρ (100 + 7 * i + 6) + v) h1 w1 (j := 7 * i + 6) (by omega)
  rw [show 100 + (7 * i + 6) = 100 + 7 * i + 6 by omega] at h2
  have e5 : σ (28 + 5) (7 * i + 5) = ρ (100 + 7 * i + 5) := by rw [h.2.2.2.2.1 _ (by omega), show 100 + (7 * i + 5) = 100 + 7 * i + 5 by omega]
  have e6 : σ (28 + 5) (7 * i + 6) = ρ (100 + 7 * i + 6) := by rw [h.2.2.2.2.1 _ (by omega), show 100 + (7 * i + 6) = 100 + 7 * i + 6 by omega]
  rw [im_deliver iw_net_28 (by omega), e5, e6]
  exact ⟨h2, im_WF_ru w1 (Or.inr (Or.inr (by omega))), fun r hr => by rw [iw_up_ne hr, iw_up_ne hr]⟩
theorem im_dv_M {σ : iw_M} {i : Nat} {v : Int32} (hi : i < 5) : ∃ σ', f_X6_sends_X114_5 (nI i) v σ = some σ' ∧ σ' 85 = im_dv (σ 85) i v ∧ ∀ r, r ≠ 85 → σ' r = σ r := by
  have e5 : (100 : Int32) + (7 : Int32) * nI i + (5 : Int32) = nI (100 + 7 * i + 5) := by rw [show (7 : Int32) = nI 7 from rfl, show (5 : Int32) = nI 5 from rfl, show (100 : Int32) = nI 100 from rfl, pk_mul, nI_add, nI_add]
  have e6 : (100 : Int32) + (7 : Int32) * nI i + (6 : Int32) = nI (100 + 7 * i + 6) := by rw [show (7 : Int32) = nI 7 from rfl, show (6 : Int32) = nI 6 from rfl, show (100 : Int32) = nI 100 from rfl, pk_mul, nI_add, nI_add]
  refine ⟨iw_up (iw_up σ 85 (100 + 7 * i + 5) (σ 85 (100 + 7 * i + 5) + 1)) 85 (100 + 7 * i + 6) (σ 85 (100 + 7 * i + 6) + v), ?_, ?_, fun r hr => by rw [iw_up_ne hr, iw_up_ne hr]⟩
  · unfold f_X6_sends_X114_5
    rw [e5, e6, im_m_rd (by omega), im_bind, im_wr (by rw [im_al85]; omega), im_bind, im_m_rd (by omega), im_bind, im_wr (by rw [im_al85]; omega), im_bind, im_upn (by omega)]
  · unfold im_dv
    rw [im_up_row, im_up_row]
/-- a delivery is counted -/
theorem ip_pg_dv {ρ : Nat → Int32} (hw : im_WF ρ) {i x : Nat} (hi : i < im_tn (ρ 3)) (hx : x ≤ 180) : ip_pg 1 ρ (im_dv ρ i (nI x)) := by
  have b3 := hw.1.2.2.2.1.1
  have b2 := hw.1.2.2.1.1
  have b0 := hw.1.1.1
  have lo : ∀ k, k ≠ 100 + 7 * i + 5 → k ≠ 100 + 7 * i + 6 → im_dv ρ i (nI x) k = ρ k := fun k k1 k2 => by
    unfold im_dv
    rw [im_ru_ne k2, im_ru_ne k1]
  have pe : ip_pe (im_tn (ρ 0)) ρ (im_dv ρ i (nI x)) := ip_pe_c (fun k hk => lo k (by omega) (by omega))
  refine ⟨lo 0 (by omega) (by omega), fun e B h => ⟨?_, fun v hv => ((pe h.1.1).1 v hv).2⟩⟩
  obtain ⟨⟨h1, h2⟩, h3, h4, h5⟩ := h
  obtain ⟨p1, p2⟩ := pe h1
  have ew : ∀ i' s, im_wlen (im_dv ρ i (nI x)) i' s = im_wlen ρ i' s ∧ im_wn (im_dv ρ i (nI x)) i' s = im_wn ρ i' s := fun i' s => im_wn_c (fun k hk => lo k (by omega) (by omega)) i' s
  unfold ip_V
  rw [lo 0 (by omega) (by omega), lo 2 (by omega) (by omega), lo 3 (by omega) (by omega)]
  refine ⟨⟨fun v hv => (p1 v hv).1, p2.trans h2⟩, fun i' s hi' hs hl => ?_, fun i' hi' => ?_, fun s hs => ?_⟩
  · rw [(ew i' s).1] at hl ⊢
    rw [(ew i' s).2, lo _ (by omega) (by omega), lo _ (by omega) (by omega)]
    exact h3 i' s hi' hs hl
  · obtain ⟨a, d, a1, d1, ea, ed⟩ := h4 i' hi'
    by_cases q : i' = i
    · subst q
      refine ⟨a + 1, d + x, by omega, by omega, ?_, ?_⟩
      · unfold im_dv
        rw [im_ru_ne (by omega), im_ru_eq, ea, nI_1]
      · unfold im_dv
        rw [im_ru_eq, ed, nI_add]
    · refine ⟨a, d, by omega, by omega, ?_, ?_⟩
      · rw [lo _ (by omega) (by omega)]; exact ea
      · rw [lo _ (by omega) (by omega)]; exact ed
  · rw [lo _ (by omega) (by omega)]
    exact h5 s hs
/-- a turn's end, exactly: nothing over an empty way, else one delivery with the way's delay -/
def ip_f1 (r : Nat) (ρ : Nat → Int32) (i s : Nat) (ρ' : Nat → Int32) : Prop :=
  (im_wlen ρ i s = 0 → r = 0 ∧ ρ' = ρ) ∧ (0 < im_wlen ρ i s → r = 1 ∧ ρ' (100 + 7 * i + 6) = ρ (100 + 7 * i + 6) + nI (im_su (im_lw ρ i s) (im_wlen ρ i s - 1) 1) ∧ ∀ k, k ≠ 10 → ¬ (12 ≤ k ∧ k < 22) → k ≠ 100 + 7 * i + 5 → k ≠ 100 + 7 * i + 6 → ρ' k = ρ k)
theorem im_fin {n : Nat} (hn : 4096 ≤ n) {i s : Nat} {σx σm : iw_M} (R : im_run σx σm) (hi : i < im_tn (σm 85 3)) (hs : s < im_tn (σm 85 2)) (hl : im_lnk (σm 85) i s) : ∃ r σx' σm', r ≤ 1 ∧ f_X3_takeTurn_J114 n (nI i) (nI s) (nI (6 * i + s)) σx = some (nI r, σx') ∧ f_X6_turns_J86 n (nI i) (nI s) σm = some (nI r, σm') ∧ im_run σx' σm' ∧ im_tq (σm' 85) (σm 85) ∧ (ip_tg 1 (σm 85) (σm' 85) ∧ ip_f1 r (σm 85) i s (σm' 85)) ∧ (∀ r, r ≠ 3 → r ≠ 29 → r ≠ 30 → r ≠ 33 → σx' r = σx r) ∧ ∀ r, r ≠ 85 → r ≠ 91 → σm' r = σm r := by
  obtain ⟨hN, hw, hm, hk, hsn⟩ := id R
  have b3 := hw.1.2.2.2.1.1
  have hwa := im_WF_wa hw hi hs
  have hc : iw_net 28 := iw_net_28
  obtain ⟨w1, w2, w3⟩ := im_way_X hc hw hN hi hs
  have X1 : f_X1_lengthOf 28 (nI (6 * i + s)) σx = nI (im_wlen (σm 85) i s) := by unfold f_X1_lengthOf; exact w2
  have Y1 : f_X6_lengthOf (nI i) (nI s) σm = some (nI (im_wlen (σm 85) i s)) := by
    rw [im_lengthOf (by omega)]
    exact congrArg some (hw.2.2.2.2.2 i s hi hs).1.2
  by_cases z : im_wlen (σm 85) i s = 0
  · refine ⟨0, σx, σm, by omega, ?_, ?_, R, fun _ _ => rfl, ⟨⟨ip_pg_m (ip_pg_0 _) (by omega), rfl⟩, fun _ => ⟨rfl, rfl⟩, fun q => by omega⟩, fun _ _ _ _ _ => rfl, fun _ _ _ => rfl⟩
    · unfold f_X3_takeTurn_J114
      rw [X1, z, if_pos (show nI 0 = (0 : Int32) from rfl)]
      rfl
    · unfold f_X6_turns_J86
      rw [Y1, im_bind, z, if_pos (show nI 0 = (0 : Int32) from rfl)]
      rfl
  · have nz : ¬ nI (im_wlen (σm 85) i s) = (0 : Int32) := by rw [show (0 : Int32) = nI 0 from rfl, im_eq (by omega) (by omega)]; exact z
    obtain ⟨σx1, σm1, x1, x2, x3, x4, x5, x6, xp, x7, x8⟩ := im_send_L hn hw hi hs hl f_X3_send_X111_2 (f_X6_sends_X114_5 (nI i)) (im_wlen (σm 85) i s - 1) 1 n σx σm 0 (by omega) (by omega) (by omega) hN hw (fun _ _ _ => rfl) hsn
    have hi1 : i < im_tn (σm1 85 3) := by rw [x5 3 (by omega) (by omega)]; exact hi
    have hs1 : s < im_tn (σm1 85 2) := by rw [x5 2 (by omega) (by omega)]; exact hs
    have d1 : im_dl (σm1 85) = im_dl (σm 85) := im_dl_c hw (fun k hk => x5 k (by omega) (by omega))
    obtain ⟨c1, c2⟩ := im_wn_c (ρ := σm 85) (ρ' := σm1 85) (fun k hk => x5 k (by omega) (by omega)) i s
    have D := im_delayOf hn (c := 14) (c1 := 28) (Or.inr rfl) hc x4 x3 (im_mx_c hm d1 (x7 _ (by omega) (by omega) (by omega))) hi1 hs1
    have e1 : im_lw (σm1 85) i s = im_lw (σm 85) i s := by
      funext k
      unfold im_lw
      rw [d1, c2]
    rw [e1, c1] at D
    obtain ⟨p1, p2, p3⟩ := im_dv_X (v := nI (im_su (im_lw (σm 85) i s) (im_wlen (σm 85) i s - 1) 1)) x4 x3 hi1
    obtain ⟨σm2, q1, q2, q3⟩ := im_dv_M (σ := σm1) (i := i) (v := nI (im_su (im_lw (σm 85) i s) (im_wlen (σm 85) i s - 1) 1)) (by omega)
    have o2 : im_tq (σm2 85) (σm 85) := fun k hk => by rw [q2, im_dv_o (by omega) (by omega), x5 k (by omega) (by omega)]
    have d2 : im_dl (σm2 85) = im_dl (σm 85) := im_dl_c hw (fun k hk => o2 k (by omega))
    have d180 : im_su (im_lw (σm 85) i s) (im_wlen (σm 85) i s - 1) 1 ≤ 180 := by
      have := ip_dl_lt (i := i) (s := s) hw (im_wlen (σm 85) i s - 1) 1
      have h2 : im_su (im_lw (σm 85) i s) (im_wlen (σm 85) i s - 1) 1 ≤ 20 * (im_wlen (σm 85) i s - 1) := this
      omega
    have pg : ip_tg 1 (σm 85) (σm2 85) := by
      refine ⟨?_, ?_⟩
      · rw [q2]
        exact ip_pg_t (d := 0) (d' := 1) (ip_pg_c (fun k hk => x5 k (by omega) (by omega)) xp) (ip_pg_dv x4 hi1 d180)
      · rw [q2, im_dv_o (by omega) (by omega), x5 11 (by omega) (by omega)]
    have f1 : ip_f1 1 (σm 85) i s (σm2 85) := by
      refine ⟨fun q => absurd q z, fun _ => ⟨rfl, ?_, fun k k1 k2 k3 k4 => ?_⟩⟩
      · rw [q2]
        unfold im_dv
        rw [im_ru_eq, x5 _ (by omega) (by omega)]
      · rw [q2]
        unfold im_dv
        rw [im_ru_ne k4, im_ru_ne k3]
        exact x5 k k1 k2
    refine ⟨1, _, σm2, by omega, ?_, ?_, ⟨by rw [q2]; exact p1, by rw [q2]; exact p2, im_mx_c hm d2 ?_, ?_, im_snt_c x6 (p3 3 (by omega)) (q3 91 (by omega))⟩, o2, ⟨pg, f1⟩, fun r r1 r2 r3 r4 => by rw [p3 r r4, x7 r r1 r2 r3], fun r r1 r2 => by rw [q3 r r1, x8 r r1 r2]⟩
    · unfold f_X3_takeTurn_J114 f_X3_send
      rw [X1, if_neg nz, show (1 : Int32) = nI 1 from rfl, x1]
      unfold f_X3_send_X111_2
      rw [im_bind, D, im_bind, im_let]
    · unfold f_X6_turns_J86 f_X6_sends
      rw [Y1, im_bind, if_neg nz, show f_X6_sends_L5 n (nI i) (nI s) (f_X6_sends_X114_5 (nI i)) n (0 : Int32) (1 : Int32) σm = f_X6_sends_L5 n (nI i) (nI s) (f_X6_sends_X114_5 (nI i)) n (nI 0) (nI 1) σm from rfl, x2, Nat.zero_add, q1, im_bind]
      rfl
    · rw [p3 _ (by omega), x7 _ (by omega) (by omega) (by omega)]
    · rw [d2]
      exact im_keep_c hk (fun r r1 r2 => by rw [p3 r (by omega), x7 r (by omega) (by omega) (by omega)])
