/-! the net that the law builds, and its first round -/
theorem ip_cell (xs : Nat → Int32) (sL : Nat) {k : Nat} (hk : k < 2 ^ 31) : ∃ v, f_L_cell xs sL (nI k) = some v := by
  unfold f_L_cell
  by_cases h : nI sL ≤ nI k
  · rw [if_pos h]; exact ⟨_, rfl⟩
  · rw [if_neg h, if_neg (nI_pos hk)]; exact ⟨_, rfl⟩
theorem s_L_law_99 (n : Nat) (xs : Nat → Int32) (sL : Nat) (v24 : Int32) (k : iw_M → Option Int32) (nn : Nat) : f_L_law_L99 n xs sL v24 k (nn + 1) = f_L_law_B99 n xs sL v24 k (f_L_law_L99 n xs sL v24 k nn) := rfl
def ip_N (e : Int32) (n : Nat) (σ : iw_M) (ρ : Nat → Int32) : Prop := ip_L e 1 σ ρ ∧ im_tn (ρ 0) = n ∧ im_tn (ρ 2) = 0 ∧ im_tn (ρ 3) = 0 ∧ (ρ 7 = 0 ∧ ρ 8 = 0 ∧ ρ 9 = 0) ∧ ∀ v, v < n → 0 < ρ (12 + v)
theorem ip_L99 (xs : Nat → Int32) (sL : Nat) {many : Nat} (hm : many ≤ 7) (k : iw_M → Option Int32) : ∀ (d n nn : Nat) (e : Int32) (σ : iw_M) (ρ : Nat → Int32), n + d = many → d < nn → ip_N e n σ ρ → ∃ e' σ' ρ', ip_N e' many σ' ρ' ∧ f_L_law_L99 4096 xs sL (nI many) k nn (nI n) σ = k σ' := by
  intro d
  induction d with
  | zero =>
    intro n nn e σ ρ h1 h2 h
    obtain ⟨nn, rfl⟩ : ∃ q, nn = q + 1 := ⟨nn - 1, by omega⟩
    refine ⟨e, σ, ρ, by rw [show many = n by omega]; exact h, ?_⟩
    rw [s_L_law_99]
    unfold f_L_law_B99
    rw [if_pos (by rw [im_le (by omega) (by omega)]; omega)]
  | succ d ih =>
    intro n nn e σ ρ h1 h2 h
    obtain ⟨nn, rfl⟩ : ∃ q, nn = q + 1 := ⟨nn - 1, by omega⟩
    obtain ⟨⟨hG, hV, h5, h84⟩, n0, n2, n3, ⟨n7, n8, n9⟩, hal⟩ := h
    have hW := hG.2.1
    obtain ⟨v, ev⟩ := ip_cell xs sL (k := 1 + n) (by omega)
    obtain ⟨j, hj, ej⟩ := ip_lo v (c := 60) (m := 60) rfl (by decide) (by decide)
    have e1n : (1 : Int32) + nI n = nI (1 + n) := nI_add 1 n
    have e5j : (5 : Int32) + nI j = nI (5 + j) := nI_add 5 j
    obtain ⟨r, σ1, x1, x2, -, x3⟩ := op_addNode 4096 hG (nI (5 + j))
    have x4 : r = nI n ∧ ip_G σ1 (ip_nd ρ n (nI (5 + j))) := by
      rcases x3 with ⟨-, -, z | z⟩ | ⟨-, -, -, y1, y2, -⟩
      · exact absurd ⟨by rw [im_lit 1, im_le (by omega) (by omega)]; omega, by rw [im_lit 10000, im_le (by omega) (by omega)]; omega⟩ z
      · omega
      · rw [n0] at y1 y2
        exact ⟨y1, y2⟩
    obtain ⟨x4, x5⟩ := x4
    -- the net with one node more
    have N1 : ip_N (e + nI (5 + j)) (n + 1) (iw_up σ1 84 0 (e + nI (5 + j))) (ip_nd ρ n (nI (5 + j))) := by
      have lo : ∀ q, q ≠ 0 → q ≠ 12 + n → ip_nd ρ n (nI (5 + j)) q = ρ q := fun q q1 q2 => by
        unfold ip_nd
        rw [im_ru_ne q1, im_ru_ne q2]
      have l0 : im_tn (ip_nd ρ n (nI (5 + j)) 0) = n + 1 := by
        unfold ip_nd
        rw [im_ru_eq, im_tn_nI (by omega)]
      have ln : ip_nd ρ n (nI (5 + j)) (12 + n) = nI (5 + j) := by
        unfold ip_nd
        rw [im_ru_ne (by omega), im_ru_eq]
      have V1 := ip_V_nd hV hW (by omega) (x := nI (5 + j)) (nI_pos' (by omega))
      rw [n0] at V1
      refine ⟨⟨ip_up84 x5, V1, by rw [lo 5 (by omega) (by omega), h5], im_ups⟩, l0, by rw [lo 2 (by omega) (by omega)]; exact n2, by rw [lo 3 (by omega) (by omega)]; exact n3, ⟨by rw [lo 7 (by omega) (by omega)]; exact n7, by rw [lo 8 (by omega) (by omega)]; exact n8, by rw [lo 9 (by omega) (by omega)]; exact n9⟩, fun v hv => ?_⟩
      by_cases q : v = n
      · rw [q, ln, im_lit 0, im_lt (by omega) (by omega)]
        omega
      · rw [lo _ (by omega) (by omega)]
        exact hal v (by omega)
    have h84' : σ1 84 0 = e := by rw [x2]; exact h84
    rw [s_L_law_99]
    unfold f_L_law_B99
    rw [if_neg (by rw [im_le (by omega) (by omega)]; omega), e1n, ev, im_bind, ej, im_bind, e5j, im_let, x1, im_b2, if_pos x4, ip_rd84, im_bind, ip_wr84, im_bind, h84']
    unfold f_L_law_J189
    by_cases z : n = 0
    · rw [if_pos (by rw [z]; decide), im_let, nI_1]
      exact ih (n + 1) nn _ _ _ (by omega) (by omega) N1
    · rw [if_neg (by rw [im_lit 0, im_le (by omega) (by omega)]; omega), im_bind]
      obtain ⟨b, hb, eb⟩ := ip_low (v >>> ((6 : Int32) &&& 31)) (m := n) (by omega) (by omega)
      obtain ⟨w, hw, ew⟩ := ip_lo (v >>> ((10 : Int32) &&& 31)) (c := 5) (m := 5) rfl (by decide) (by decide)
      rw [eb, im_bind, im_bind, ew, im_bind]
      obtain ⟨⟨hG1, hV1, h51, h841⟩, m0, m2, m3, ⟨m7, m8, m9⟩, mal⟩ := N1
      obtain ⟨r', σ2, y1, y2, y3⟩ := op_link (n := 4096) (by decide) hG1 (nI n) (nI b) ((1 : Int32) + nI w)
      rw [y1, im_b2, im_let, nI_1]
      rcases y3 with ⟨-, z1, -⟩ | ⟨a', b', w', -, -, -, -, -, -, -, -, z9, -, -, z12, -⟩
      · exact ih (n + 1) nn _ _ _ (by omega) (by omega) ⟨⟨z1, hV1, h51, by rw [y2]; exact h841⟩, m0, m2, m3, ⟨m7, m8, m9⟩, mal⟩
      · have lo : ∀ q, q < 22 → q ≠ 1 → ip_lk (ip_nd ρ n (nI (5 + j))) (im_tn (ip_nd ρ n (nI (5 + j)) 1)) a' b' w' q = ip_nd ρ n (nI (5 + j)) q := fun q q1 q2 => ip_lk_o q2 (by omega)
        exact ih (n + 1) nn _ _ _ (by omega) (by omega) ⟨⟨z12, ip_V_lk hV1 hG1.2.1 z9, by rw [lo 5 (by omega) (by omega), h51], by rw [y2]; exact h841⟩, by rw [lo 0 (by omega) (by omega)]; exact m0, by rw [lo 2 (by omega) (by omega)]; exact m2, by rw [lo 3 (by omega) (by omega)]; exact m3, ⟨by rw [lo 7 (by omega) (by omega)]; exact m7, by rw [lo 8 (by omega) (by omega)]; exact m8, by rw [lo 9 (by omega) (by omega)]; exact m9⟩, fun v hv => by rw [lo _ (by omega) (by omega)]; exact mal v hv⟩
/-- the delays along a new way sum up to the least time -/
theorem ip_tele {w : Nat → Nat → Nat} {A : Nat → Bool} {f g K : Nat} {T : Nat → Nat} (hD : im_D w A f T) (h1 : ∀ k, k < K → im_pk w T g k ≠ f) (h2 : ∀ k, k ≤ K → im_pk w T g k < 10 ∧ T (im_pk w T g k) < 1000000) {lw : Nat → Nat} (hl : ∀ k, 1 ≤ k → k ≤ K → lw k = w (im_pk w T g (K - k + 1)) (im_pk w T g (K - k))) : ∀ j, j ≤ K → im_su lw j (K + 1 - j) + T (im_pk w T g j) = T (im_pk w T g 0) := by
  intro j
  induction j with
  | zero => intro _; exact Nat.zero_add _
  | succ j ih =>
    intro hj
    have h3 := (im_pv_ok hD (h1 j (by omega)) (h2 j (by omega)).2).2.2.2.1
    rw [← im_pk_s] at h3
    have h4 := hl (K - j) (by omega) (by omega)
    rw [show K - (K - j) = j by omega] at h4
    have h5 := ih (by omega)
    rw [im_su_s, show K + 1 - (j + 1) = K - j by omega, h4, show K - j + 1 = K + 1 - j by omega]
    omega
theorem ip_er_c {ρ : Nat → Int32} {i s g m : Nat} {T : Nat → Nat} (hN : im_tn (ρ 0) ≤ 10) : im_er ρ i s T g m 7 = ρ 7 + 1 ∧ im_er ρ i s T g m 8 = ρ 8 + nI (im_nw (im_wn ρ i s) (im_pk (im_dl ρ) T g) (im_wlen ρ i s) (m - 1) 1) ∧ im_er ρ i s T g m 9 = ρ 9 + nI (im_nw (im_pk (im_dl ρ) T g) (im_wn ρ i s) m (im_wlen ρ i s - 1) 1) := by
  have w0 := im_wa_ge i s
  unfold im_er
  refine ⟨?_, ?_, ?_⟩
  · rw [im_sw_o (by omega), im_ru_ne (by decide), im_ru_ne (by decide), im_ru_eq]
  · rw [im_sw_o (by omega), im_ru_ne (by decide), im_ru_eq]
  · rw [im_sw_o (by omega), im_ru_eq]
theorem ip_nw_0 {q p : Nat → Nat} : ∀ (d a : Nat), im_nw q p 0 d a = d := by
  intro d
  unfold im_nw
  induction d with
  | zero => intro a; rfl
  | succ d ih =>
    intro a
    rw [im_su_s, ih (a + 1)]
    show 1 - 0 + d = d + 1
    omega
/-- what the first round of all tells -/
theorem ip_round1 {ρ ρ' : Nat → Int32} {c : Nat} {f g : Nat} (hw : im_WF ρ) (h2 : im_tn (ρ 2) = 1) (h3 : im_tn (ρ 3) = 1) (hf : im_tn (ρ 82) = f) (hg : im_tn (ρ 100) = g) (hfN : im_av ρ f = true) (hgN : im_av ρ g = true) (hm : im_mt ρ 0 0) (hx : ρ 5 - ρ 5 / ρ 4 * ρ 4 = 0) (hgo : ip_go ρ 1 = 0) (h0 : im_wlen ρ 0 0 = 0) (hr : ip_r1 c ρ ρ') :
    ρ' 2 = ρ 2 ∧ ρ' 3 = ρ 3 ∧ ρ' 7 = ρ 7 + 1 ∧ ρ' 9 = ρ 9 ∧ ∃ m, m ≤ 10 ∧ im_wlen ρ' 0 0 = m ∧ ρ' 8 = ρ 8 + nI (m - 1) ∧ ((ip_q ρ f g = -1000 ∧ c = 0 ∧ ρ' 106 = ρ 106 ∧ m = 0) ∨ (∃ t, ip_q ρ f g = nI t ∧ t ≤ 200 ∧ c = 1 ∧ ρ' 106 = ρ 106 + nI t ∧ 0 < m ∧ (t = 0 ↔ f = g))) := by
  have b0 := hw.1.1.1
  have f10 : f < 10 := by have := im_av_lt hfN; omega
  have g10 : g < 10 := by have := im_av_lt hgN; omega
  obtain ⟨-, -, r3⟩ := hr
  obtain ⟨ρ3, t1, er⟩ := r3 h3 h2 hgo
  have t1' := t1 hm (by show im_av ρ (im_tn (ρ 82)) = true; rw [hf]; exact hfN) (by show im_av ρ (im_tn (ρ 100)) = true; rw [hg]; exact hgN) hx
  obtain ⟨T, m, hD, hy, f1⟩ := t1'
  have hD : im_D (im_dl ρ) (im_av ρ) f T := by rw [← hf]; exact hD
  have hy : im_wy (im_dl ρ) T f g m := by rw [← hf, ← hg]; exact hy
  have f1 : ip_f1 c (im_er ρ 0 0 T g m) 0 0 ρ3 := by rw [← hg]; exact f1
  have eT : ip_tf ρ f = T := im_D_un (ip_tf_ok hw f10 hfN) hD
  obtain ⟨m10, y2, y3, y4⟩ := im_wy_f hy
  obtain ⟨c7, c8, c9⟩ := ip_er_c (ρ := ρ) (i := 0) (s := 0) (g := g) (m := m) (T := T) (by omega)
  obtain ⟨wl, wn⟩ := im_er_w (ρ := ρ) (i := 0) (s := 0) (g := g) (m := m) (T := T) m10 (fun k hk => (y2 k hk).1)
  rw [h0] at c8 c9
  rw [ip_nw_0] at c8
  have c9' : im_er ρ 0 0 T g m 9 = ρ 9 := by
    rw [c9]
    exact Int32.add_zero _
  have c106 : im_er ρ 0 0 T g m 106 = ρ 106 := im_er_o (by left; decide) (by omega) (by omega)
  have lo : ∀ k, k ≠ 5 → ρ' k = ρ3 k := fun k hk => by rw [er, im_ru_ne hk]
  -- what the turn's end keeps
  have keep : ∀ k, k = 2 ∨ k = 3 ∨ k = 7 ∨ k = 8 ∨ k = 9 ∨ k = 135 → ρ3 k = im_er ρ 0 0 T g m k := fun k hk => by
    by_cases z : im_wlen (im_er ρ 0 0 T g m) 0 0 = 0
    · rw [(f1.1 z).2]
    · exact (f1.2 (by omega)).2.2 k (by omega) (by omega) (by omega) (by omega)
  refine ⟨by rw [lo 2 (by decide), keep 2 (by decide)]; exact im_er_o (by left; decide) (by omega) (by omega), by rw [lo 3 (by decide), keep 3 (by decide)]; exact im_er_o (by left; decide) (by omega) (by omega), by rw [lo 7 (by decide), keep 7 (by decide), c7], by rw [lo 9 (by decide), keep 9 (by decide), c9'], m, m10, ?_, by rw [lo 8 (by decide), keep 8 (by decide), c8], ?_⟩
  · have e1 : im_wlen ρ' 0 0 = im_wlen (im_er ρ 0 0 T g m) 0 0 := by
      show im_tn (ρ' 135) = im_tn (im_er ρ 0 0 T g m 135)
      rw [lo 135 (by decide), keep 135 (by decide)]
    rw [e1, wl]
  · rcases id hy with ⟨z1, z2⟩ | ⟨z1, K, K9, eK, K1, K2, K3, K4⟩
    · have q : ip_q ρ f g = -1000 := if_neg (fun y => by rw [eT, z1] at y; exact absurd y.2.2 (by decide))
      obtain ⟨a1, a2⟩ := f1.1 (by rw [wl]; exact z2)
      exact Or.inl ⟨q, a1, by rw [lo 106 (by decide), a2, c106], z2⟩
    · have q : ip_q ρ f g = nI (T g) := by
        unfold ip_q
        rw [eT]
        exact if_pos ⟨hfN, hgN, z1⟩
      obtain ⟨a1, a2, -⟩ := f1.2 (by rw [wl]; omega)
      have edl : im_dl (im_er ρ 0 0 T g m) = im_dl ρ := im_dl_c hw (fun k hk => im_er_o (by left; show k < 135; omega) (by omega) (by omega))
      have tele := ip_tele hD K2 K3 (lw := im_lw (im_er ρ 0 0 T g m) 0 0) (fun k k1 k2 => by
        unfold im_lw
        rw [edl, wn (k - 1) (by omega), wn k (by omega), show m - 1 - (k - 1) = K - k + 1 by omega, show m - 1 - k = K - k by omega]) K (Nat.le_refl _)
      rw [show K + 1 - K = 1 by omega, K1, hD.1, Nat.add_zero] at tele
      have tele' : im_su (im_lw (im_er ρ 0 0 T g m) 0 0) K 1 = T g := tele
      refine Or.inr ⟨T g, q, ip_T200 hw hD g10 z1, a1, ?_, by omega, ?_⟩
      · rw [lo 106 (by decide), show ρ3 106 = ρ3 (100 + 7 * 0 + 6) from rfl, a2, wl, show m - 1 = K by omega, tele']
        show im_er ρ 0 0 T g m 106 + nI (T g) = _
        rw [c106]
      · constructor
        · intro z
          by_cases w : g = f
          · exact w.symm
          · obtain ⟨-, a, a1, a2, a3⟩ := hD.2.2.1 g w z1
            omega
        · intro z
          rw [← z]
          exact hD.1
