/-! the digest: a fold over what is seen -/
def im_hf (g : Nat → Int32) : Nat → Nat → Int64 → Int64
  | 0, _, v => v
  | d + 1, a, v => im_hf g d (a + 1) ((31 : Int64) * v + Int32.toInt64 (g a))
theorem im_hf_s (g : Nat → Int32) (d a : Nat) (v : Int64) : im_hf g (d + 1) a v = im_hf g d (a + 1) ((31 : Int64) * v + Int32.toInt64 (g a)) := rfl
theorem im_hf_c {g g' : Nat → Int32} : ∀ (d a a' : Nat) (v : Int64), (∀ j, j < d → g (a + j) = g' (a' + j)) → im_hf g d a v = im_hf g' d a' v := by
  intro d
  induction d with
  | zero => intro a a' v _; rfl
  | succ d ih =>
    intro a a' v h
    have h0 := h 0 (by omega)
    rw [Nat.add_zero, Nat.add_zero] at h0
    rw [im_hf_s, im_hf_s, h0]
    exact ih (a + 1) (a' + 1) _ (fun j hj => by
      have := h (j + 1) (by omega)
      rw [show a + 1 + j = a + (j + 1) by omega, show a' + 1 + j = a' + (j + 1) by omega]
      exact this)
/-- the fold over the ways of an interest, and over all interests -/
def im_hw (ρ : Nat → Int32) (i : Nat) : Nat → Nat → Int64 → Int64
  | 0, _, v => v
  | d + 1, s, v => im_hw ρ i d (s + 1) (im_hf ρ (im_wlen ρ i s) (im_wa i s + 1) ((31 : Int64) * v + Int32.toInt64 (ρ (im_wa i s))))
theorem im_hw_s (ρ : Nat → Int32) (i d s : Nat) (v : Int64) : im_hw ρ i (d + 1) s v = im_hw ρ i d (s + 1) (im_hf ρ (im_wlen ρ i s) (im_wa i s + 1) ((31 : Int64) * v + Int32.toInt64 (ρ (im_wa i s)))) := rfl
def im_hi (ρ : Nat → Int32) : Nat → Nat → Int64 → Int64
  | 0, _, v => v
  | d + 1, i, v => im_hi ρ d (i + 1) (im_hw ρ i (im_tn (ρ 2)) 0 ((31 : Int64) * im_hf ρ 7 (100 + 7 * i) v + Int32.toInt64 (nI (im_cn (im_wl ρ i) (im_tn (ρ 2))))))
theorem im_hi_s (ρ : Nat → Int32) (d i : Nat) (v : Int64) : im_hi ρ (d + 1) i v = im_hi ρ d (i + 1) (im_hw ρ i (im_tn (ρ 2)) 0 ((31 : Int64) * im_hf ρ 7 (100 + 7 * i) v + Int32.toInt64 (nI (im_cn (im_wl ρ i) (im_tn (ρ 2)))))) := rfl
/-- the twelve numbers -/
def im_n12 (ρ : Nat → Int32) (j : Nat) : Int32 := if j = 6 then nI (im_cn (im_al ρ) (im_tn (ρ 0))) else ρ j
section
variable {σ : iw_M} {c : Nat} {ρ : Nat → Int32}
theorem im_hashOf_L {a p q : Nat} (hpq : p + q ≤ iw_al a) (hal : iw_al a ≤ 1000) (k : Int64 → Option Int64) : ∀ (d i nn : Nat) (v : Int64), i + d = p + q → d < nn → f_X5_hashOf_L6 a (nI p) (nI q) σ k nn v (nI i) = k (im_hf (σ a) d i v) := by
  intro d
  induction d with
  | zero =>
    intro i nn v h1 h2
    obtain ⟨nn, rfl⟩ : ∃ q, nn = q + 1 := ⟨nn - 1, by omega⟩
    rw [s_X5_hashOf_6]
    unfold f_X5_hashOf_B6
    rw [nI_add, if_pos (by rw [im_le (by omega) (by omega)]; omega)]
    rfl
  | succ d ih =>
    intro i nn v h1 h2
    obtain ⟨nn, rfl⟩ : ∃ q, nn = q + 1 := ⟨nn - 1, by omega⟩
    rw [s_X5_hashOf_6]
    unfold f_X5_hashOf_B6
    rw [nI_add, if_neg (by rw [im_le (by omega) (by omega)]; omega), im_let, im_let, nI_1, im_at (by omega), ih (i + 1) nn _ (by omega) (by omega), im_hf_s]
theorem im_hashOf {n : Nat} (hn : 4096 ≤ n) {a p q : Nat} (hpq : p + q ≤ iw_al a) (hal : iw_al a ≤ 1000) (v : Int64) : f_X5_hashOf n v a (nI p) (nI q) σ = some (im_hf (σ a) q p v) := by
  unfold f_X5_hashOf
  rw [im_hashOf_L hpq hal _ q p n v rfl (by omega)]
  rfl
theorem im_hashOfWays_L {n : Nat} (hn : 4096 ≤ n) (hc : iw_net c) (hw : im_WF ρ) (h : im_NR σ c ρ) {i : Nat} (hi : i < im_tn (ρ 3)) (k : Int64 → Option Int64) : ∀ (d s nn : Nat) (v : Int64), s + d = im_tn (ρ 2) → d < nn → f_X1_hashOfWays_L6 n c (nI i) σ k nn v (nI s) = k (im_hw ρ i d s v) := by
  have b2 := hw.1.2.2.1
  have b2' := b2.1
  have b3 := hw.1.2.2.2.1.1
  have e : f_X5_at (c + 1) (2 : Int32) σ = nI (im_tn (ρ 2)) := ((im_at (k := 2) (by rw [(im_al_n c hc).1]; decide)).trans (h.1 2 (by decide) (by decide))).trans b2.2
  intro d
  induction d with
  | zero =>
    intro s nn v h1 h2
    obtain ⟨nn, rfl⟩ : ∃ q, nn = q + 1 := ⟨nn - 1, by omega⟩
    rw [s_X1_hashOfWays_6]
    unfold f_X1_hashOfWays_B6
    rw [e, if_pos (by rw [im_le (by omega) (by omega)]; omega)]
    rfl
  | succ d ih =>
    intro s nn v h1 h2
    obtain ⟨nn, rfl⟩ : ∃ q, nn = q + 1 := ⟨nn - 1, by omega⟩
    obtain ⟨w1, w2, -⟩ := im_way_X hc hw h hi (show s < im_tn (ρ 2) by omega)
    have w3 := (hw.2.2.2.2.2 i s hi (by omega)).1.2
    have w4 := (h.2.2.2.2.2.1 i s hi (by omega)).2
    have el : f_X1_lengthOf c (nI (6 * i + s)) σ = nI (im_wlen ρ i s) := w2
    rw [s_X1_hashOfWays_6]
    unfold f_X1_hashOfWays_B6
    rw [e, if_neg (by rw [im_le (by omega) (by omega)]; omega), im_let, im_wayOf, im_let, el, show (10 : Int32) = nI 10 from rfl, pk_mul, im_hashOf hn (by rw [(im_al_n c hc).2.2.2.2.2.2]; omega) (by rw [(im_al_n c hc).2.2.2.2.2.2]; decide), im_bind, im_let, nI_1, ih (s + 1) nn _ (by omega) (by omega), im_hw_s, im_hf_c (g' := ρ) (im_wlen ρ i s) ((6 * i + s) * 10) (im_wa i s + 1) _ (fun j hj => by rw [Nat.mul_comm]; exact w4 j hj)]
    rw [show nI (im_wlen ρ i s) = ρ (im_wa i s) from w3.symm]
theorem im_hash_L91 {n : Nat} (hn : 4096 ≤ n) (hc : iw_net c) (hw : im_WF ρ) (h : im_NR σ c ρ) (k : Int64 → Option Int64) : ∀ (d i nn : Nat) (v : Int64), i + d = im_tn (ρ 3) → d < nn → f_X1_hash_L91 n c σ k nn v (nI i) = k (im_hi ρ d i v) := by
  have b2 := hw.1.2.2.1.1
  have b3 := hw.1.2.2.2.1
  have b3' := b3.1
  have e : f_X5_at (c + 1) (3 : Int32) σ = nI (im_tn (ρ 3)) := ((im_at (k := 3) (by rw [(im_al_n c hc).1]; decide)).trans (h.1 3 (by decide) (by decide))).trans b3.2
  intro d
  induction d with
  | zero =>
    intro i nn v h1 h2
    obtain ⟨nn, rfl⟩ : ∃ q, nn = q + 1 := ⟨nn - 1, by omega⟩
    rw [s_X1_hash_91]
    unfold f_X1_hash_B91
    rw [e, if_pos (by rw [im_le (by omega) (by omega)]; omega)]
    rfl
  | succ d ih =>
    intro i nn v h1 h2
    obtain ⟨nn, rfl⟩ : ∃ q, nn = q + 1 := ⟨nn - 1, by omega⟩
    rw [s_X1_hash_91]
    unfold f_X1_hash_B91 f_X1_hashOfWays
    rw [e, if_neg (by rw [im_le (by omega) (by omega)]; omega), show (7 : Int32) = nI 7 from rfl, pk_mul, im_hashOf hn (by rw [(im_al_n c hc).2.2.2.2.1]; omega) (by rw [(im_al_n c hc).2.2.2.2.1]; decide), im_bind, im_waysOf hn hc hw h (by omega), im_bind, im_let, show (0 : Int32) = nI 0 from rfl, im_hashOfWays_L hn hc hw h (by omega) _ (im_tn (ρ 2)) 0 n _ (by omega) (by omega)]
    unfold f_X1_hashOfWays_X71_6
    rw [im_bind, im_let, nI_1, ih (i + 1) nn _ (by omega) (by omega), im_hi_s, im_hf_c (g' := ρ) 7 (i * 7) (100 + 7 * i) _ (fun j hj => by rw [Nat.mul_comm, h.2.2.2.2.1 _ (by omega), Nat.add_assoc])]
/-- the whole fold -/
def im_dg (ρ : Nat → Int32) : Int64 := im_hi ρ (im_tn (ρ 3)) 0 (im_hf ρ (3 * im_tn (ρ 2)) 82 (im_hf ρ (3 * im_tn (ρ 1)) 22 (im_hf ρ (im_tn (ρ 0)) 12 (im_hf (im_n12 ρ) 12 0 17))))
theorem im_hash_L6 {n : Nat} (hn : 4096 ≤ n) (hc : iw_net c) (hw : im_WF ρ) (h : im_NR σ c ρ) (k : Int64 → Option Int64) : ∀ (d i nn : Nat) (v : Int64), i + d = 12 → d < nn → f_X1_hash_L6 n c σ k nn v (nI i) = k (im_hf (im_n12 ρ) d i v) := by
  intro d
  induction d with
  | zero =>
    intro i nn v h1 h2
    obtain ⟨nn, rfl⟩ : ∃ q, nn = q + 1 := ⟨nn - 1, by omega⟩
    rw [s_X1_hash_6]
    unfold f_X1_hash_B6
    rw [if_pos (by rw [im_lit 12, im_le (by decide) (by omega)]; omega)]
    rfl
  | succ d ih =>
    intro i nn v h1 h2
    obtain ⟨nn, rfl⟩ : ∃ q, nn = q + 1 := ⟨nn - 1, by omega⟩
    have e : f_X1_number n c (nI i) σ = some (im_n12 ρ i) := by
      unfold im_n12
      by_cases q : i = 6
      · subst q
        rw [if_pos rfl]
        exact im_num6 hn hc hw h
      · rw [if_neg q, im_num n hc (by omega) q, h.1 i (by omega) q]
    rw [s_X1_hash_6]
    unfold f_X1_hash_B6
    rw [if_neg (by rw [im_lit 12, im_le (by decide) (by omega)]; omega), e, im_bind, im_let, im_let, nI_1, ih (i + 1) nn _ (by omega) (by omega), im_hf_s]
theorem im_hash {n : Nat} (hn : 4096 ≤ n) (hc : iw_net c) (hw : im_WF ρ) (h : im_NR σ c ρ) : f_X1_hash n c σ = some (im_dg ρ) := by
  have b0 := hw.1.1
  have b1 := hw.1.2.1
  have b2 := hw.1.2.2.1
  have b3 := hw.1.2.2.2.1
  have b0' := b0.1
  have b1' := b1.1
  have b2' := b2.1
  have b3' := b3.1
  have a1 := im_al_n c hc
  have e0 : f_X5_at (c + 1) (0 : Int32) σ = nI (im_tn (ρ 0)) := ((im_at (k := 0) (by rw [a1.1]; decide)).trans (h.1 0 (by decide) (by decide))).trans b0.2
  have e1 : f_X5_at (c + 1) (1 : Int32) σ = nI (im_tn (ρ 1)) := ((im_at (k := 1) (by rw [a1.1]; decide)).trans (h.1 1 (by decide) (by decide))).trans b1.2
  have e2 : f_X5_at (c + 1) (2 : Int32) σ = nI (im_tn (ρ 2)) := ((im_at (k := 2) (by rw [a1.1]; decide)).trans (h.1 2 (by decide) (by decide))).trans b2.2
  unfold f_X1_hash
  rw [show f_X1_hash_L6 n c σ (f_X1_hash_X31_6 n c σ) n (17 : Int64) (0 : Int32) = f_X1_hash_L6 n c σ (f_X1_hash_X31_6 n c σ) n (17 : Int64) (nI 0) from rfl, im_hash_L6 hn hc hw h _ 12 0 n _ (by omega) (by omega)]
  unfold f_X1_hash_X31_6
  rw [e0, e1, e2, show (0 : Int32) = nI 0 from rfl, show (3 : Int32) = nI 3 from rfl, pk_mul, pk_mul, im_hashOf hn (by rw [a1.2.1]; omega) (by rw [a1.2.1]; decide), im_bind, im_hashOf hn (by rw [a1.2.2.1]; omega) (by rw [a1.2.2.1]; decide), im_bind, im_hashOf hn (by rw [a1.2.2.2.1]; omega) (by rw [a1.2.2.2.1]; decide), im_bind, im_hash_L91 hn hc hw h _ (im_tn (ρ 3)) 0 n _ (by omega) (by omega)]
  unfold f_X1_hash_X144_91 im_dg
  rw [im_hf_c (g := σ (c + 2)) (g' := ρ) (im_tn (ρ 0)) 0 12 _ (fun j hj => by rw [Nat.zero_add]; exact h.2.1 j hj), im_hf_c (g := σ (c + 3)) (g' := ρ) (im_tn (ρ 1) * 3) 0 22 _ (fun j hj => by rw [Nat.zero_add]; exact h.2.2.1 j (by omega)), im_hf_c (g := σ (c + 4)) (g' := ρ) (im_tn (ρ 2) * 3) 0 82 _ (fun j hj => by rw [Nat.zero_add]; exact h.2.2.2.1 j (by omega)), Nat.mul_comm (im_tn (ρ 1)) 3, Nat.mul_comm (im_tn (ρ 2)) 3]
/-! the reference's digest -/
theorem im_puth_o {v : Int64} {r : Nat} (h : r ≠ 84) : iw_puth σ v r = σ r := by
  unfold iw_puth
  rw [iw_up_ne h, iw_up_ne h]
theorem im_puth_j {v : Int64} {j : Nat} (h : j < 15) : iw_puth σ v 84 j = σ 84 j := by
  unfold iw_puth
  rw [im_upn (by omega), im_upn (by omega)]
theorem im_puth2 {u v : Int64} : iw_puth (iw_puth σ u) v = iw_puth σ v := by
  funext r
  by_cases q : r = 84
  · subst q
    funext j
    unfold iw_puth
    rw [im_up1, im_up1, im_up1, im_up1, im_up1, im_up1]
    by_cases q1 : j = 16
    · rw [if_pos q1, if_pos q1]
    · rw [if_neg q1, if_neg q1]
      by_cases q2 : j = 15
      · rw [if_pos q2, if_neg q1, if_pos q2]
      · rw [if_neg q2, if_neg q1, if_neg q2, if_neg q2]
  · rw [im_puth_o q, im_puth_o q, im_puth_o q]
theorem im_note {v : Int64} {p : Int32} : f_X6_note p (iw_puth σ v) = iw_puth σ ((31 : Int64) * v + Int32.toInt64 p) := by
  unfold f_X6_note
  rw [im_let, iw_get_puth, im_puth2]
theorem im_prd {v : Int64} {k : Nat} (h : k < 3255) : iw_rd (iw_puth σ v) 85 (nI k) = some (σ 85 k) := by
  rw [im_m_rd h, im_puth_o (by decide)]
theorem im_dig_L9 {n : Nat} (hn : 4096 ≤ n) (hw : im_WF (σ 85)) (k : iw_M → Option (Int64 × iw_M)) : ∀ (d i nn : Nat) (v : Int64), i + d = 12 → d < nn → f_X6_digest_L9 n k nn (nI i) (iw_puth σ v) = k (iw_puth σ (im_hf (im_n12 (σ 85)) d i v)) := by
  intro d
  induction d with
  | zero =>
    intro i nn v h1 h2
    obtain ⟨nn, rfl⟩ : ∃ q, nn = q + 1 := ⟨nn - 1, by omega⟩
    rw [s_X6_digest_9]
    unfold f_X6_digest_B9
    rw [if_pos (by rw [im_lit 12, im_le (by decide) (by omega)]; omega)]
    rfl
  | succ d ih =>
    intro i nn v h1 h2
    obtain ⟨nn, rfl⟩ : ∃ q, nn = q + 1 := ⟨nn - 1, by omega⟩
    have e : (iw_puth σ v) 85 = σ 85 := im_puth_o (by decide)
    rw [s_X6_digest_9]
    unfold f_X6_digest_B9 f_X6_digest_J35
    rw [if_neg (by rw [im_lit 12, im_le (by decide) (by omega)]; omega)]
    simp only [im_let]
    rw [nI_1, im_hf_s]
    by_cases q : i = 6
    · subst q
      rw [if_pos (show nI 6 = (6 : Int32) from rfl), im_living hn (by rw [e]; exact hw), im_bind, e, im_note, ih _ nn _ (by omega) (by omega)]
      rfl
    · rw [if_neg (by rw [im_lit 6, im_eq (by omega) (by decide)]; exact q), im_prd (by omega), im_bind, im_note, ih _ nn _ (by omega) (by omega)]
      unfold im_n12
      rw [if_neg q]
theorem im_dig_L46 (hw : im_WF (σ 85)) (k : iw_M → Option (Int64 × iw_M)) : ∀ (d i nn : Nat) (v : Int64), i + d = im_tn (σ 85 0) → d < nn → f_X6_digest_L46 k nn (nI i) (iw_puth σ v) = k (iw_puth σ (im_hf (σ 85) d (12 + i) v)) := by
  have b := hw.1.1
  have b' := b.1
  intro d
  induction d with
  | zero =>
    intro i nn v h1 h2
    obtain ⟨nn, rfl⟩ : ∃ q, nn = q + 1 := ⟨nn - 1, by omega⟩
    rw [s_X6_digest_46]
    unfold f_X6_digest_B46
    rw [show (0 : Int32) = nI 0 from rfl, im_prd (by decide), im_bind, b.2, if_pos (by rw [im_le (by omega) (by omega)]; omega)]
    rfl
  | succ d ih =>
    intro i nn v h1 h2
    obtain ⟨nn, rfl⟩ : ∃ q, nn = q + 1 := ⟨nn - 1, by omega⟩
    rw [s_X6_digest_46]
    unfold f_X6_digest_B46
    rw [show (0 : Int32) = nI 0 from rfl, im_prd (by decide), im_bind, b.2, if_neg (by rw [im_le (by omega) (by omega)]; omega), im_lit 12, nI_add, im_prd (by omega), im_bind, im_let, im_note, im_let, nI_1, ih (i + 1) nn _ (by omega) (by omega), im_hf_s, Nat.add_assoc]
theorem im_dig_L77 (hw : im_WF (σ 85)) (k : iw_M → Option (Int64 × iw_M)) : ∀ (d i nn : Nat) (v : Int64), i + d = 3 * im_tn (σ 85 1) → d < nn → f_X6_digest_L77 k nn (nI i) (iw_puth σ v) = k (iw_puth σ (im_hf (σ 85) d (22 + i) v)) := by
  have b := hw.1.2.1
  have b' := b.1
  intro d
  induction d with
  | zero =>
    intro i nn v h1 h2
    obtain ⟨nn, rfl⟩ : ∃ q, nn = q + 1 := ⟨nn - 1, by omega⟩
    rw [s_X6_digest_77]
    unfold f_X6_digest_B77
    rw [show (1 : Int32) = nI 1 from rfl, im_prd (by decide), im_bind, b.2, im_lit 3, pk_mul, if_pos (by rw [im_le (by omega) (by omega)]; omega)]
    rfl
  | succ d ih =>
    intro i nn v h1 h2
    obtain ⟨nn, rfl⟩ : ∃ q, nn = q + 1 := ⟨nn - 1, by omega⟩
    rw [s_X6_digest_77]
    unfold f_X6_digest_B77
    rw [show (1 : Int32) = nI 1 from rfl, im_prd (by decide), im_bind, b.2, im_lit 3, pk_mul, if_neg (by rw [im_le (by omega) (by omega)]; omega), im_lit 22, nI_add, im_prd (by omega), im_bind, im_let, im_note, im_let, nI_add, ih (i + 1) nn _ (by omega) (by omega), im_hf_s, Nat.add_assoc]
theorem im_dig_L110 (hw : im_WF (σ 85)) (k : iw_M → Option (Int64 × iw_M)) : ∀ (d i nn : Nat) (v : Int64), i + d = 3 * im_tn (σ 85 2) → d < nn → f_X6_digest_L110 k nn (nI i) (iw_puth σ v) = k (iw_puth σ (im_hf (σ 85) d (82 + i) v)) := by
  have b := hw.1.2.2.1
  have b' := b.1
  intro d
  induction d with
  | zero =>
    intro i nn v h1 h2
    obtain ⟨nn, rfl⟩ : ∃ q, nn = q + 1 := ⟨nn - 1, by omega⟩
    rw [s_X6_digest_110]
    unfold f_X6_digest_B110
    rw [show (2 : Int32) = nI 2 from rfl, im_prd (by decide), im_bind, b.2, im_lit 3, pk_mul, if_pos (by rw [im_le (by omega) (by omega)]; omega)]
    rfl
  | succ d ih =>
    intro i nn v h1 h2
    obtain ⟨nn, rfl⟩ : ∃ q, nn = q + 1 := ⟨nn - 1, by omega⟩
    rw [s_X6_digest_110]
    unfold f_X6_digest_B110
    rw [show (2 : Int32) = nI 2 from rfl, im_prd (by decide), im_bind, b.2, im_lit 3, pk_mul, if_neg (by rw [im_le (by omega) (by omega)]; omega), im_lit 82, nI_add, im_prd (by omega), im_bind, im_let, im_note, im_let, nI_1, ih (i + 1) nn _ (by omega) (by omega), im_hf_s, Nat.add_assoc]
theorem im_dig_L201 (hw : im_WF (σ 85)) {i s : Nat} (hi : i < im_tn (σ 85 3)) (hs : s < im_tn (σ 85 2)) (k : iw_M → Option (Int64 × iw_M)) : ∀ (d j nn : Nat) (v : Int64), j + d = im_wlen (σ 85) i s → d < nn → f_X6_digest_L201 (nI i) (nI s) k nn (nI j) (iw_puth σ v) = k (iw_puth σ (im_hf (σ 85) d (im_wa i s + 1 + j) v)) := by
  have g1 := (hw.2.2.2.2.2 i s hi hs).1
  have g := g1.1
  have hwa := im_WF_wa hw hi hs
  intro d
  induction d with
  | zero =>
    intro j nn v h1 h2
    obtain ⟨nn, rfl⟩ : ∃ q, nn = q + 1 := ⟨nn - 1, by omega⟩
    unfold im_wlen at h1
    rw [s_X6_digest_201]
    unfold f_X6_digest_B201
    rw [im_lengthOf (by omega), im_bind, im_puth_o (by decide), g1.2, if_pos (by rw [im_le (by omega) (by omega)]; omega)]
    rfl
  | succ d ih =>
    intro j nn v h1 h2
    obtain ⟨nn, rfl⟩ : ∃ q, nn = q + 1 := ⟨nn - 1, by omega⟩
    have h1' := h1
    unfold im_wlen at h1'
    rw [s_X6_digest_201]
    unfold f_X6_digest_B201
    rw [im_lengthOf (by omega), im_bind, im_puth_o (show (85 : Nat) ≠ 84 by decide), g1.2, if_neg (by rw [im_le (by omega) (by omega)]; omega), im_nodeOf (by omega), im_bind, im_puth_o (show (85 : Nat) ≠ 84 by decide), im_let, im_note, im_let, nI_1, ih (j + 1) nn _ (by omega) (by omega), im_hf_s, Nat.add_assoc (im_wa i s + 1) j 1]
theorem im_dig_L179 {n : Nat} (hn : 4096 ≤ n) (hw : im_WF (σ 85)) {i : Nat} (hi : i < im_tn (σ 85 3)) (k : iw_M → Option (Int64 × iw_M)) : ∀ (d s nn : Nat) (v : Int64), s + d = im_tn (σ 85 2) → d < nn → f_X6_digest_L179 n (nI i) k nn (nI s) (iw_puth σ v) = k (iw_puth σ (im_hw (σ 85) i d s v)) := by
  have b := hw.1.2.2.1
  have b' := b.1
  intro d
  induction d with
  | zero =>
    intro s nn v h1 h2
    obtain ⟨nn, rfl⟩ : ∃ q, nn = q + 1 := ⟨nn - 1, by omega⟩
    rw [s_X6_digest_179]
    unfold f_X6_digest_B179
    rw [show (2 : Int32) = nI 2 from rfl, im_prd (by decide), im_bind, b.2, if_pos (by rw [im_le (by omega) (by omega)]; omega)]
    rfl
  | succ d ih =>
    intro s nn v h1 h2
    obtain ⟨nn, rfl⟩ : ∃ q, nn = q + 1 := ⟨nn - 1, by omega⟩
    have hs : s < im_tn (σ 85 2) := by omega
    have g1 := (hw.2.2.2.2.2 i s hi hs).1
    have g : im_wlen (σ 85) i s < 11 := g1.1
    have hwa := im_WF_wa hw hi hs
    rw [s_X6_digest_179]
    unfold f_X6_digest_B179
    rw [show (2 : Int32) = nI 2 from rfl, im_prd (by decide), im_bind, b.2, if_neg (by rw [im_le (by omega) (by omega)]; omega), im_lengthOf (by omega), im_bind, im_puth_o (show (85 : Nat) ≠ 84 by decide), im_let, im_note, show (0 : Int32) = nI 0 from rfl, im_dig_L201 hw hi hs _ (im_wlen (σ 85) i s) 0 n _ (by omega) (by omega)]
    unfold f_X6_digest_X228_201
    rw [im_let, nI_1, ih (s + 1) nn _ (by omega) (by omega), im_hw_s, Nat.add_zero]
theorem im_dig_L155 {n : Nat} (hn : 4096 ≤ n) (hw : im_WF (σ 85)) {i : Nat} (hi : i < im_tn (σ 85 3)) (k : iw_M → Option (Int64 × iw_M)) : ∀ (d j nn : Nat) (v : Int64), j + d = 8 → 1 ≤ d → d < nn → f_X6_digest_L155 n (nI i) k nn (nI j) (iw_puth σ v) = k (iw_puth σ ((31 : Int64) * im_hf (σ 85) (d - 1) (100 + 7 * i + j) v + Int32.toInt64 (nI (im_cn (im_wl (σ 85) i) (im_tn (σ 85 2)))))) := by
  have b3 := hw.1.2.2.2.1.1
  have b2 := hw.1.2.2.1.1
  intro d
  induction d with
  | zero =>
    intro j nn v h1 h0 h2
    omega
  | succ d ih =>
    intro j nn v h1 h0 h2
    obtain ⟨nn, rfl⟩ : ∃ q, nn = q + 1 := ⟨nn - 1, by omega⟩
    have e : (iw_puth σ v) 85 = σ 85 := im_puth_o (by decide)
    rw [s_X6_digest_155]
    unfold f_X6_digest_B155 f_X6_part
    rw [if_neg (by rw [im_lit 8, im_le (by decide) (by omega)]; omega)]
    by_cases q : d = 0
    · subst q
      obtain ⟨nn, rfl⟩ : ∃ q, nn = q + 1 := ⟨nn - 1, by omega⟩
      have hj : j = 7 := by omega
      subst hj
      rw [if_pos (by decide), show f_X6_part_L18 (nI i) (iw_puth σ v) f_X6_part_X53_18 n (0 : Int32) (0 : Int32) = f_X6_part_L18 (nI i) (iw_puth σ v) f_X6_part_X53_18 n (nI (im_cn (im_wl ((iw_puth σ v) 85) i) 0)) (nI 0) from rfl, im_part_L (by rw [e]; exact hw) (by rw [e]; exact hi) _ (im_tn (σ 85 2)) 0 n (by rw [e]; omega) (by omega), e]
      unfold f_X6_part_X53_18
      rw [im_bind, im_let, im_note, im_let, nI_1, s_X6_digest_155]
      unfold f_X6_digest_B155
      rw [if_pos (by decide)]
      rfl
    · rw [if_neg (by rw [im_lit 7, im_le (by decide) (by omega)]; omega), im_ofInterest (by omega), im_bind, im_bind, e, im_let, im_note, im_let, nI_1, ih (j + 1) nn _ (by omega) (by omega) (by omega), show d + 1 - 1 = d - 1 + 1 by omega, im_hf_s, Nat.add_assoc (100 + 7 * i) j 1]
theorem im_dig_L143 {n : Nat} (hn : 4096 ≤ n) (hw : im_WF (σ 85)) (k : iw_M → Option (Int64 × iw_M)) : ∀ (d i nn : Nat) (v : Int64), i + d = im_tn (σ 85 3) → d < nn → f_X6_digest_L143 n k nn (nI i) (iw_puth σ v) = k (iw_puth σ (im_hi (σ 85) d i v)) := by
  have b := hw.1.2.2.2.1
  have b' := b.1
  have b2 := hw.1.2.2.1.1
  intro d
  induction d with
  | zero =>
    intro i nn v h1 h2
    obtain ⟨nn, rfl⟩ : ∃ q, nn = q + 1 := ⟨nn - 1, by omega⟩
    rw [s_X6_digest_143]
    unfold f_X6_digest_B143
    rw [show (3 : Int32) = nI 3 from rfl, im_prd (by decide), im_bind, b.2, if_pos (by rw [im_le (by omega) (by omega)]; omega)]
    rfl
  | succ d ih =>
    intro i nn v h1 h2
    obtain ⟨nn, rfl⟩ : ∃ q, nn = q + 1 := ⟨nn - 1, by omega⟩
    have hi : i < im_tn (σ 85 3) := by omega
    rw [s_X6_digest_143]
    unfold f_X6_digest_B143
    rw [show (3 : Int32) = nI 3 from rfl, im_prd (by decide), im_bind, b.2, if_neg (by rw [im_le (by omega) (by omega)]; omega), show (0 : Int32) = nI 0 from rfl, im_dig_L155 hn hw hi _ 8 0 n _ (by omega) (by omega) (by omega)]
    unfold f_X6_digest_X177_155
    rw [show (0 : Int32) = nI 0 from rfl, im_dig_L179 hn hw hi _ (im_tn (σ 85 2)) 0 n _ (by omega) (by omega)]
    unfold f_X6_digest_X234_179
    rw [im_let, nI_1, ih (i + 1) nn _ (by omega) (by omega), im_hi_s, Nat.add_zero]
    rfl
theorem im_digest {n : Nat} (hn : 4096 ≤ n) (hw : im_WF (σ 85)) : f_X6_digest n σ = some (im_dg (σ 85), iw_puth σ (im_dg (σ 85))) := by
  have b0 := hw.1.1.1
  have b1 := hw.1.2.1.1
  have b2 := hw.1.2.2.1.1
  have b3 := hw.1.2.2.2.1.1
  unfold f_X6_digest
  rw [im_let, show (0 : Int32) = nI 0 from rfl, im_dig_L9 hn hw _ 12 0 n _ (by omega) (by omega)]
  unfold f_X6_digest_X44_9
  rw [show (0 : Int32) = nI 0 from rfl, im_dig_L46 hw _ (im_tn (σ 85 0)) 0 n _ (by omega) (by omega)]
  unfold f_X6_digest_X75_46
  rw [show (0 : Int32) = nI 0 from rfl, im_dig_L77 hw _ (3 * im_tn (σ 85 1)) 0 n _ (by omega) (by omega)]
  unfold f_X6_digest_X108_77
  rw [show (0 : Int32) = nI 0 from rfl, im_dig_L110 hw _ (3 * im_tn (σ 85 2)) 0 n _ (by omega) (by omega)]
  unfold f_X6_digest_X141_110
  rw [show (0 : Int32) = nI 0 from rfl, im_dig_L143 hn hw _ (im_tn (σ 85 3)) 0 n _ (by omega) (by omega)]
  unfold f_X6_digest_X240_143
  rw [iw_get_puth]
  rfl
end
theorem sim_digest_ok (n : Nat) (hn : 4096 ≤ n) : sim_digest n im_RR := by
  intro σx σm h
  obtain ⟨hN, hW⟩ := im_0 h
  unfold f_X5_digest
  rw [im_hash hn iw_net_20 hW hN, im_bind, im_digest hn hW]
  have e : (iw_puth σm (im_dg (σm 85))) 85 = σm 85 := im_puth_o (by decide)
  exact ⟨_, σx, _, ⟨rfl, rfl⟩, rfl, im_upd h (fun _ _ => rfl) (im_puth_j (by decide)) (im_puth_j (by decide)) (im_puth_o (by decide)) (fun k _ _ => by rw [e]) (by rw [im_sl0, e]; exact hN) (by rw [im_sl0, e]; exact hW)⟩
