/-! the class explores -/
theorem im_su_co {F : Nat → Nat} : ∀ (d a : Nat), (∀ k, a ≤ k → k < a + d → F k ≤ 1) → im_su (fun k => 1 - F k) d a + im_su F d a = d := by
  intro d
  induction d with
  | zero => intro a _; rfl
  | succ d ih =>
    intro a h
    have h1 := h a (Nat.le_refl _) (by omega)
    have h2 := ih (a + 1) (fun k k1 k2 => h k (by omega) (by omega))
    rw [im_su_s, im_su_s]
    omega
theorem im_in1 {q : Nat → Nat} {l : Nat} (hq : ∀ k k', k < l → k' < l → q k = q k' → k = k') {a b : Nat} : im_su (im_pm q a b) (l - 1) 1 ≤ 1 :=
  im_su_1 (fun _ => im_pm_le) _ _ (fun k j k1 k2 j1 j2 hk hj => im_pm_un (m := l) hq k1 (by omega) j1 (by omega) hk hj)
theorem im_nw_kp {q p : Nat → Nat} {l m : Nat} (hq : ∀ k k', k < l → k' < l → q k = q k' → k = k') : im_nw q p l (m - 1) 1 + im_kp q p l m = m - 1 :=
  im_su_co (m - 1) 1 (fun j _ _ => im_in1 hq)
theorem im_pred {m : Nat} (hm : m < 2 ^ 31) : (if nI m - (1 : Int32) < (0 : Int32) then (0 : Int32) else nI m - (1 : Int32)) = nI (m - 1) := by
  cases m with
  | zero =>
    rw [if_pos (show nI 0 - (1 : Int32) < 0 by decide)]
    rfl
  | succ m =>
    have e : nI (m + 1) - (1 : Int32) = nI m := by
      rw [show (1 : Int32) = nI 1 from rfl, pk_sub (by omega)]
      rfl
    rw [e, if_neg (nI_pos (by omega))]
    rfl
theorem im_raise {c j : Nat} {v : Int32} {σ : iw_M} (hc : iw_net c) (h : j < 12) : f_X1_raise c (nI j) v σ = iw_up σ (c + 1) j (σ (c + 1) j + v) := by
  have a1 := (im_al_n c hc).1
  unfold f_X1_raise
  rw [im_let, im_inc (by omega)]
theorem im_J75 {n : Nat} (hn : 4096 ≤ n) {ρ : Nat → Int32} {σ : iw_M} (hw : im_WF ρ) (h : im_NR σ 28 ρ) {i s m : Nat} (hi : i < im_tn (ρ 3)) (hs : s < im_tn (ρ 2)) {p : Nat → Nat} (hm : m ≤ 10) (hp : ∀ k, k < m → p k < im_tn (ρ 0)) (hu : ∀ k k', k < m → k' < m → p k = p k' → k = k') (hl : im_ls σ 2 m p) : ∃ σ', f_X3_exploreWay_J75 n (nI (6 * i + s)) (nI m) σ = some σ' ∧ im_NR σ' 28 (im_sw (im_ru (im_ru (im_ru ρ 7 (ρ 7 + 1)) 8 (ρ 8 + nI (im_nw (im_wn ρ i s) p (im_wlen ρ i s) (m - 1) 1))) 9 (ρ 9 + nI (im_nw p (im_wn ρ i s) m (im_wlen ρ i s - 1) 1))) i s m (fun k => p (m - 1 - k))) ∧ ∀ r, r ≠ 29 → r ≠ 34 → r ≠ 35 → σ' r = σ r := by
  have b0 := hw.1.1.1
  have b2 := hw.1.2.2.1.1
  have b3 := hw.1.2.2.2.1.1
  have hc : iw_net 28 := iw_net_28
  have gw := hw.2.2.2.2.2 i s hi hs
  have l10 : im_wlen ρ i s < 11 := gw.1.1
  have hq : ∀ k k', k < im_wlen ρ i s → k' < im_wlen ρ i s → im_wn ρ i s k = im_wn ρ i s k' → k = k' := fun k k' hk hk' e => gw.2.2 k k' hk hk' e
  have k1 := im_nw_kp (q := im_wn ρ i s) (p := p) (l := im_wlen ρ i s) (m := m) hq
  have k2 := im_nw_kp (q := p) (p := im_wn ρ i s) (l := m) (m := im_wlen ρ i s) hu
  rw [← im_kp_sym] at k2
  have E1 : nI (m - 1) - nI (im_kp (im_wn ρ i s) p (im_wlen ρ i s) m) = nI (im_nw (im_wn ρ i s) p (im_wlen ρ i s) (m - 1) 1) := by
    rw [pk_sub (by omega)]
    congr 1
    omega
  have E2 : nI (im_wlen ρ i s - 1) - nI (im_kp (im_wn ρ i s) p (im_wlen ρ i s) m) = nI (im_nw p (im_wn ρ i s) m (im_wlen ρ i s - 1) 1) := by
    rw [pk_sub (by omega)]
    congr 1
    omega
  have h1 := im_NR_num (v := ρ 7 + 1) h (show 4 ≤ 7 by omega) (show 7 < 12 by omega)
  have h2 := im_NR_num (v := ρ 8 + nI (im_nw (im_wn ρ i s) p (im_wlen ρ i s) (m - 1) 1)) h1 (show 4 ≤ 8 by omega) (show 8 < 12 by omega)
  have h3 := im_NR_num (v := ρ 9 + nI (im_nw p (im_wn ρ i s) m (im_wlen ρ i s - 1) 1)) h2 (show 4 ≤ 9 by omega) (show 9 < 12 by omega)
  have e7 : σ (28 + 1) 7 = ρ 7 := h.1 7 (by omega) (by omega)
  have e8 : σ (28 + 1) 8 = ρ 8 := h.1 8 (by omega) (by omega)
  have e9 : σ (28 + 1) 9 = ρ 9 := h.1 9 (by omega) (by omega)
  obtain ⟨σ1, q1⟩ : ∃ x, x = iw_up σ (28 + 1) 7 (ρ 7 + 1) := ⟨_, rfl⟩
  rw [← q1] at h2 h3
  obtain ⟨σ2, q2⟩ : ∃ x, x = iw_up σ1 (28 + 1) 8 (ρ 8 + nI (im_nw (im_wn ρ i s) p (im_wlen ρ i s) (m - 1) 1)) := ⟨_, rfl⟩
  rw [← q2] at h3
  obtain ⟨σ3, q3⟩ : ∃ x, x = iw_up σ2 (28 + 1) 9 (ρ 9 + nI (im_nw p (im_wn ρ i s) m (im_wlen ρ i s - 1) 1)) := ⟨_, rfl⟩
  rw [← q3] at h3
  have R7 : f_X1_raise 28 (7 : Int32) (1 : Int32) σ = σ1 := by
    rw [show (7 : Int32) = nI 7 from rfl, im_raise hc (by omega), e7, q1]
  have R8 : f_X1_raise 28 (8 : Int32) (nI (im_nw (im_wn ρ i s) p (im_wlen ρ i s) (m - 1) 1)) σ1 = σ2 := by
    rw [show (8 : Int32) = nI 8 from rfl, im_raise hc (by omega), q2, q1, im_upn (by decide), e8]
  have R9 : f_X1_raise 28 (9 : Int32) (nI (im_nw p (im_wn ρ i s) m (im_wlen ρ i s - 1) 1)) σ2 = σ3 := by
    rw [show (9 : Int32) = nI 9 from rfl, im_raise hc (by omega), q3, q2, im_upn (by decide), q1, im_upn (by decide), e9]
  have L2 : f_X1_lengthOf 28 (nI (6 * i + s)) σ2 = nI (im_wlen ρ i s) := by
    rw [im_lenOf hc (by omega), q2, iw_up_ne (by decide), q1, iw_up_ne (by decide), (h.2.2.2.2.2.1 i s hi hs).1]
    exact gw.1.2
  have wr : im_WF (im_ru (im_ru (im_ru ρ 7 (ρ 7 + 1)) 8 (ρ 8 + nI (im_nw (im_wn ρ i s) p (im_wlen ρ i s) (m - 1) 1))) 9 (ρ 9 + nI (im_nw p (im_wn ρ i s) m (im_wlen ρ i s - 1) 1))) := im_WF_ru (im_WF_ru (im_WF_ru hw (Or.inl (by omega))) (Or.inl (by omega))) (Or.inl (by omega))
  obtain ⟨σ', x1, x2, x3⟩ := im_setWay hn wr h3 (i := i) (s := s) (m := m) (by rw [im_ru_ne (by decide), im_ru_ne (by decide), im_ru_ne (by decide)]; exact hi) (by rw [im_ru_ne (by decide), im_ru_ne (by decide), im_ru_ne (by decide)]; exact hs) hm hc (by omega) (p := p) (fun k hk => by rw [q3, iw_up_ne (by decide), q2, iw_up_ne (by decide), q1, iw_up_ne (by decide)]; exact hl k hk)
  refine ⟨σ', ?_, x2, fun r r1 r2 r3 => by rw [x3 r r2 r3, q3, iw_up_ne r1, q2, iw_up_ne r1, q1, iw_up_ne r1]⟩
  unfold f_X3_exploreWay_J75
  rw [im_kept hn hw h hi hs hm (fun k hk => by have := hp k hk; omega) hl, im_bind, im_let, R7, im_let, im_pred (by omega), E1, R8, L2, im_pred (by omega), E2, im_let, R9, x1, im_bind]
/-- what the class keeps of the ways over which it explored -/
def im_keep (σ : iw_M) (w : Nat → Nat → Nat) : Prop := ∀ f, f < 10 → σ (14 + 2) f = 0 ∨ ∃ M T, M < 1024 ∧ σ (14 + 2) f = nI M ∧ im_D w (fun v => M.testBit v) f T ∧ im_exp σ 14 f w T
theorem im_keep_c {σ σ' : iw_M} {w : Nat → Nat → Nat} (h : im_keep σ w) (hc : ∀ r, 16 ≤ r → r ≤ 19 → σ' r = σ r) : im_keep σ' w := by
  intro f hf
  unfold im_exp im_tt
  rw [hc (14 + 2) (by omega) (by omega), hc (14 + 4) (by omega) (by omega), hc (14 + 5) (by omega) (by omega), hc (14 + 3) (by omega) (by omega)]
  exact h f hf
theorem im_exploreWay {n : Nat} (hn : 4096 ≤ n) {ρ : Nat → Int32} {σ : iw_M} (hw : im_WF ρ) (h : im_NR σ 28 ρ) (hx : im_mx σ 14 ρ (im_tn (ρ 1))) (hk : im_keep σ (im_dl ρ)) {i s f g m : Nat} {T : Nat → Nat} (hi : i < im_tn (ρ 3)) (hs : s < im_tn (ρ 2)) (hf : im_av ρ f = true) (hg : g < 10) (hD : im_D (im_dl ρ) (im_av ρ) f T) (hy : im_wy (im_dl ρ) T f g m) : ∃ σ', f_X3_exploreWay n (nI (6 * i + s)) (nI f) (nI g) (nI (im_mk (im_al ρ) (im_tn (ρ 0)))) σ = some σ' ∧ im_NR σ' 28 (im_er ρ i s T g m) ∧ im_keep σ' (im_dl ρ) ∧ ∀ r, r ≠ 2 → (r < 16 ∨ 19 < r) → (r < 29 ∨ 35 < r) → σ' r = σ r := by
  have b0 := hw.1.1.1
  have b2 := hw.1.2.2.1.1
  have b3 := hw.1.2.2.2.1.1
  have fN := im_av_lt hf
  have f10 : f < 10 := by omega
  have hM : im_mk (im_al ρ) (im_tn (ρ 0)) < 1024 := im_mk_1024 _ (by omega)
  have hA : ∀ v, (im_mk (im_al ρ) (im_tn (ρ 0))).testBit v = im_av ρ v := fun v => im_av_bit
  have hkk : σ (14 + 2) f = nI (im_mk (im_al ρ) (im_tn (ρ 0))) → im_exp σ 14 f (im_dl ρ) T := fun e => by
    rcases hk f f10 with z | ⟨M', T', m1, m2, m3, m4⟩
    · rw [e, show (0 : Int32) = nI 0 from rfl, im_eq (by omega) (by omega)] at z
      have hz := hA f
      rw [z, hf, Nat.zero_testBit] at hz
      exact absurd hz (by decide)
    · rw [e, im_eq (by omega) (by omega)] at m2
      have eT : T' = T := im_D_un (im_D_A m3 (fun v => by rw [← m2]; exact hA v)) hD
      rw [← eT]
      exact m4
  obtain ⟨σ1, a1, a2, a3, a4, a5, a6⟩ := im_explore (c := 14) hn (Or.inr rfl) f10 hM (fun v _ => hA v) (im_dl_lt hw) hD hx hkk
  have k1 : im_keep σ1 (im_dl ρ) := by
    intro f' hf'
    by_cases z : f' = f
    · rw [z]
      exact Or.inr ⟨_, T, hM, a3, im_D_A hD (fun v => (hA v).symm), a2⟩
    · rw [(a5 f' z).1]
      rcases hk f' hf' with y | ⟨M', T', m1, m2, m3, m4, m5, m6⟩
      · exact Or.inl y
      · refine Or.inr ⟨M', T', m1, m2, m3, fun v hv => ?_, fun v hv => ?_, ?_⟩
        · rw [(a6 (f' * 10 + v) (by omega)).1]; exact m4 v hv
        · rw [(a6 (f' * 10 + v) (by omega)).2]; exact m5 v hv
        · rw [(a5 f' z).2]; exact m6
  have hN : ∀ v, T v < 1000000 → v < im_tn (ρ 0) := fun v hv => by
    by_cases z : v = f
    · rw [z]; exact fN
    · exact im_av_lt (hD.2.2.1 v z hv).1
  have hR : im_mk (fun v => decide (T v < 1000000)) 10 < 1024 := im_mk_1024 _ (Nat.le_refl _)
  have hRb : ∀ v, v < 10 → (im_mk (fun v => decide (T v < 1000000)) 10).testBit v = (fun v => decide (T v < 1000000)) v := fun v hv => by rw [im_mk_bit, decide_eq_true hv, Bool.true_and]
  have vR : f_X2_reachedFrom 14 (nI f) σ1 = nI (im_mk (fun v => decide (T v < 1000000)) 10) := by
    unfold f_X2_reachedFrom
    rw [im_at (by exact f10)]
    exact a2.2.2
  have h1 : im_NR σ1 28 ρ := im_NR_congr h (fun j j1 j2 => a4 _ (by omega) (by omega) (by omega) (by omega))
  obtain ⟨σ2, c1, c2, c3⟩ := im_reached_X hR hRb (f_X3_exploreWay_X56_23 n (nI (6 * i + s)) (nI f) (nI g) (nI (im_mk (fun v => decide (T v < 1000000)) 10))) 10 0 n σ1 ρ (by omega) (by omega) h1 (fun v hv => hN v (of_decide_eq_true hv))
  have e10 := im_spN_more (p := fun v => decide (T v < 1000000)) (im_tn (ρ 0)) (10 - im_tn (ρ 0)) 0 ρ (fun v hv z => by have := hN v (of_decide_eq_true z); omega)
  rw [show im_tn (ρ 0) + (10 - im_tn (ρ 0)) = 10 by omega] at e10
  rw [e10] at c2
  obtain ⟨ρ2, e2⟩ : ∃ x, x = im_spN (fun v => decide (T v < 1000000)) (im_tn (ρ 0)) 0 ρ := ⟨_, rfl⟩
  rw [← e2] at c2
  have w2 : im_WF ρ2 := by rw [e2]; exact im_WF_spN _ _ _ (by omega) hw
  have o2 : ∀ k, k ≠ 10 → ¬ (12 ≤ k ∧ k < 22) → ρ2 k = ρ k := fun k k1 k2 => by rw [e2, im_spN_o k1 _ _ _ (by omega)]
  obtain ⟨d1, d2⟩ := im_wn_c (ρ := ρ) (ρ' := ρ2) (fun k hk => o2 k (by omega) (by omega)) i s
  obtain ⟨m10, hp, hu, hnf⟩ := im_wy_f hy
  have h3 : ∃ σ3, f_X3_exploreWay_X56_23 n (nI (6 * i + s)) (nI f) (nI g) (nI (im_mk (fun v => decide (T v < 1000000)) 10)) σ2 = f_X3_exploreWay_J75 n (nI (6 * i + s)) (nI m) σ3 ∧ im_ls σ3 2 m (im_pk (im_dl ρ) T g) ∧ ∀ r, r ≠ 2 → σ3 r = σ2 r := by
    unfold f_X3_exploreWay_X56_23
    rw [im_holds hR hg, hRb g hg, im_b01]
    rcases hy with ⟨z1, z2⟩ | ⟨z1, K, k1, k2, k3, k4, k5, k6⟩
    · refine ⟨σ2, ?_, fun k hk => by omega, fun _ _ => rfl⟩
      rw [if_neg (fun z => by have := of_decide_eq_true z; omega), z2]
      rfl
    · obtain ⟨σ3, y1, y2, y3⟩ := im_back hn f10 hD k1 k3 k4 k5 (σ := σ2) (fun v hv => by rw [c3 _ (by omega) (by omega)]; exact a2.2.1 v hv)
      refine ⟨σ3, ?_, by rw [k2]; exact y2, y3⟩
      rw [if_pos (decide_eq_true z1), y1, im_b2, k2]
  obtain ⟨σ3, g1, g2, g3⟩ := h3
  have n3 : im_NR σ3 28 ρ2 := im_NR_congr c2 (fun j j1 j2 => g3 _ (by omega))
  obtain ⟨σ', x1, x2, x3⟩ := im_J75 hn w2 n3 (i := i) (s := s) (m := m) (p := im_pk (im_dl ρ) T g) (by rw [o2 3 (by omega) (by omega)]; exact hi) (by rw [o2 2 (by omega) (by omega)]; exact hs) m10 (fun k hk => by rw [o2 0 (by omega) (by omega)]; exact hN _ (hp k hk).2) hu g2
  refine ⟨σ', ?_, ?_, im_keep_c k1 (fun r r1 r2 => by rw [x3 r (by omega) (by omega) (by omega), g3 r (by omega), c3 r (by omega) (by omega)]), fun r r1 r2 r3 => by rw [x3 r (by omega) (by omega) (by omega), g3 r r1, c3 r (by omega) (by omega), a4 r (by omega) (by omega) (by omega) (by omega)]⟩
  · unfold f_X3_exploreWay
    rw [a1, im_bind, im_let, vR, show f_X3_exploreWay_L23 (nI (im_mk (fun v => decide (T v < 1000000)) 10)) (f_X3_exploreWay_X56_23 n (nI (6 * i + s)) (nI f) (nI g) (nI (im_mk (fun v => decide (T v < 1000000)) 10))) n (0 : Int32) σ1 = f_X3_exploreWay_L23 (nI (im_mk (fun v => decide (T v < 1000000)) 10)) (f_X3_exploreWay_X56_23 n (nI (6 * i + s)) (nI f) (nI g) (nI (im_mk (fun v => decide (T v < 1000000)) 10))) n (nI 0) σ1 from rfl, c1, g1]
    exact x1
  · rw [d1, d2, o2 7 (by omega) (by omega), o2 8 (by omega) (by omega), o2 9 (by omega) (by omega)] at x2
    unfold im_er
    rw [← e2]
    exact x2
