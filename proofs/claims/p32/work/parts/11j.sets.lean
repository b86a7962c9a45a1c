/-! a way is set, on the row, and on both sides -/
def im_sw (ρ : Nat → Int32) (i s m : Nat) (g : Nat → Nat) : Nat → Int32 := fun k => if k = im_wa i s then nI m else if im_wa i s + 1 ≤ k ∧ k < im_wa i s + 1 + m then nI (g (k - (im_wa i s + 1))) else ρ k
section
variable {σ σ' : iw_M} {c : Nat} {ρ : Nat → Int32} {i s m : Nat} {g : Nat → Nat}
theorem im_sw_l : im_sw ρ i s m g (im_wa i s) = nI m := if_pos rfl
theorem im_sw_n {k : Nat} (h : k < m) : im_sw ρ i s m g (im_wa i s + 1 + k) = nI (g k) := by
  unfold im_sw
  rw [if_neg (by omega), if_pos (by omega), show im_wa i s + 1 + k - (im_wa i s + 1) = k by omega]
theorem im_sw_o {k : Nat} (h : k < im_wa i s ∨ im_wa i s + 1 + m ≤ k) : im_sw ρ i s m g k = ρ k := by
  unfold im_sw
  rw [if_neg (by omega), if_neg (by omega)]
theorem im_wa_far {i' s' : Nat} (hs : s < 6) (hs' : s' < 6) (h : ¬ (i' = i ∧ s' = s)) : im_wa i' s' + 11 ≤ im_wa i s ∨ im_wa i s + 11 ≤ im_wa i' s' := by
  unfold im_wa
  omega
theorem im_WF_sw (hw : im_WF ρ) (hi : i < im_tn (ρ 3)) (hs : s < im_tn (ρ 2)) (hm : m ≤ 10) (hg : ∀ k, k < m → g k < im_tn (ρ 0)) (hu : ∀ k k', k < m → k' < m → g k = g k' → k = k') : im_WF (im_sw ρ i s m g) := by
  have b0 := hw.1.1.1
  have b1 := hw.1.2.1.1
  have b2 := hw.1.2.2.1.1
  have b3 := hw.1.2.2.2.1.1
  have w0 := im_wa_ge i s
  have lo : ∀ k, k < 135 → im_sw ρ i s m g k = ρ k := fun k hk => im_sw_o (by omega)
  obtain ⟨h1, h2, h3, h4, h5, h6⟩ := id hw
  unfold im_WF
  rw [lo 0 (by omega), lo 1 (by omega), lo 2 (by omega), lo 3 (by omega), lo 4 (by omega)]
  refine ⟨h1, fun l a => ?_, fun l l' x y a a' p q => ?_, fun s a => ?_, fun i a => ?_, fun i' s' a b => ?_⟩
  · rw [lo _ (by omega), lo _ (by omega), lo _ (by omega)]; exact h2 l a
  · unfold im_lk at p q
    rw [lo _ (by omega), lo _ (by omega)] at p q
    exact h3 l l' x y a a' p q
  · rw [lo _ (by omega)]; exact h4 s a
  · rw [lo _ (by omega)]; exact h5 i a
  · by_cases z : i' = i ∧ s' = s
    · obtain ⟨rfl, rfl⟩ := z
      rw [im_sw_l, im_tn_nI (by omega)]
      refine ⟨im_sm_nI (by omega) (by omega), fun k hk => ?_, fun k k' hk hk' hh => ?_⟩
      · rw [im_sw_n hk]
        exact im_sm_nI (hg k hk) (by omega)
      · have p1 := hg k hk
        have p2 := hg k' hk'
        rw [im_sw_n hk, im_sw_n hk', im_tn_nI (by omega), im_tn_nI (by omega)] at hh
        exact hu k k' hk hk' hh
    · have far := im_wa_far (s := s) (i := i) (by omega) (show s' < 6 by omega) z
      obtain ⟨g1, g2, g3⟩ := h6 i' s' a b
      have g1' := g1.1
      rw [im_sw_o (by omega)]
      refine ⟨g1, fun k hk => by rw [im_sw_o (by omega)]; exact g2 k hk, fun k k' hk hk' hh => ?_⟩
      rw [im_sw_o (by omega), im_sw_o (by omega)] at hh
      exact g3 k k' hk hk' hh
theorem im_NR_sw (hw : im_WF ρ) (h : im_NR σ c ρ) (hi : i < im_tn (ρ 3)) (hs : s < im_tn (ρ 2)) (hm : m ≤ 10) (s6 : σ' (c + 6) (6 * i + s) = nI m) (s6' : ∀ j, j ≠ 6 * i + s → σ' (c + 6) j = σ (c + 6) j) (s7 : ∀ k, k < m → σ' (c + 7) (10 * (6 * i + s) + k) = nI (g k)) (s7' : ∀ j, ¬ (10 * (6 * i + s) ≤ j ∧ j < 10 * (6 * i + s) + 10) → σ' (c + 7) j = σ (c + 7) j) (s1 : ∀ j, 1 ≤ j → j ≤ 5 → σ' (c + j) = σ (c + j)) : im_NR σ' c (im_sw ρ i s m g) := by
  have b0 := hw.1.1.1
  have b1 := hw.1.2.1.1
  have b2 := hw.1.2.2.1.1
  have b3 := hw.1.2.2.2.1.1
  have w0 := im_wa_ge i s
  have lo : ∀ k, k < 135 → im_sw ρ i s m g k = ρ k := fun k hk => im_sw_o (by omega)
  obtain ⟨h1, h2, h3, h4, h5, h6, h7⟩ := h
  unfold im_NR
  rw [lo 0 (by omega), lo 1 (by omega), lo 2 (by omega), lo 3 (by omega), s1 1 (by omega) (by omega), s1 2 (by omega) (by omega), s1 3 (by omega) (by omega), s1 4 (by omega) (by omega), s1 5 (by omega) (by omega)]
  refine ⟨fun j a b => by rw [lo j (by omega)]; exact h1 j a b, fun k a => by rw [lo _ (by omega)]; exact h2 k a, fun k a => by rw [lo _ (by omega)]; exact h3 k a, fun k a => by rw [lo _ (by omega)]; exact h4 k a, fun k a => by rw [lo _ (by omega)]; exact h5 k a, fun i' s' a b => ?_, fun i' s' a b d => by rw [s6' _ (by omega)]; exact h7 i' s' a b d⟩
  by_cases z : i' = i ∧ s' = s
  · obtain ⟨rfl, rfl⟩ := z
    rw [im_sw_l, im_tn_nI (by omega)]
    exact ⟨s6, fun k hk => by rw [im_sw_n hk]; exact s7 k hk⟩
  · have far := im_wa_far (s := s) (i := i) (by omega) (show s' < 6 by omega) z
    have g1 := (hw.2.2.2.2.2 i' s' a b).1.1
    rw [im_sw_o (by omega), s6' _ (by omega)]
    refine ⟨(h6 i' s' a b).1, fun k hk => ?_⟩
    rw [im_sw_o (by omega), s7' _ (by omega)]
    exact (h6 i' s' a b).2 k hk
/-- the class sets a way -/
theorem im_setWay_L {w : Nat} (hw30 : w < 30) (hm : m ≤ 10) (hc : iw_net c) (hc2 : 20 ≤ c) {p : Nat → Nat} (kk : iw_M → Option iw_M) : ∀ (d j nn : Nat) (σ : iw_M), j + d = m → d < nn → im_ls σ 2 m p → ∃ σ', f_X1_setWay_L12 c (nI w) 2 (nI m) kk nn (nI j) σ = kk σ' ∧ (∀ x, j ≤ x → x < m → σ' (c + 7) (10 * w + x) = nI (p (m - 1 - x))) ∧ (∀ x, ¬ (10 * w + j ≤ x ∧ x < 10 * w + m) → σ' (c + 7) x = σ (c + 7) x) ∧ ∀ r, r ≠ c + 7 → σ' r = σ r := by
  have a7 := (im_al_n c hc).2.2.2.2.2.2
  have e2 : iw_al 2 = 10 := rfl
  intro d
  induction d with
  | zero =>
    intro j nn σ h1 h2 hl
    obtain ⟨nn, rfl⟩ : ∃ q, nn = q + 1 := ⟨nn - 1, by omega⟩
    refine ⟨σ, ?_, fun x x1 x2 => by omega, fun x _ => rfl, fun _ _ => rfl⟩
    rw [s_X1_setWay_12]
    unfold f_X1_setWay_B12
    rw [if_pos (by rw [im_le (by omega) (by omega)]; omega)]
  | succ d ih =>
    intro j nn σ h1 h2 hl
    obtain ⟨nn, rfl⟩ : ∃ q, nn = q + 1 := ⟨nn - 1, by omega⟩
    have e1 : nI m - (1 : Int32) - nI j = nI (m - 1 - j) := by rw [show (1 : Int32) = nI 1 from rfl, pk_sub (by omega), pk_sub (by omega)]
    have e3 : nI w * (10 : Int32) + nI j = nI (10 * w + j) := by rw [show (10 : Int32) = nI 10 from rfl, pk_mul, nI_add, Nat.mul_comm w 10]
    obtain ⟨σ', x1, x2, x3, x4⟩ := ih (j + 1) nn (iw_up σ (c + 7) (10 * w + j) (nI (p (m - 1 - j)))) (by omega) (by omega) (fun k hk => by rw [iw_up_ne (by omega)]; exact hl k hk)
    refine ⟨σ', ?_, fun x a b => ?_, fun x a => ?_, fun r hr => (x4 r hr).trans (iw_up_ne hr)⟩
    · rw [s_X1_setWay_12]
      unfold f_X1_setWay_B12
      rw [if_neg (by rw [im_le (by omega) (by omega)]; omega), e1, e3, im_at (by omega), hl _ (by omega), im_put (by omega), im_let, im_let, nI_1]
      exact x1
    · by_cases z : x = j
      · rw [z, x3 _ (by omega), im_ups]
      · exact x2 x (by omega) b
    · rw [x3 x (by omega), im_upn (by omega)]
theorem im_setWay {n : Nat} (hn : 4096 ≤ n) (hw : im_WF ρ) (h : im_NR σ c ρ) (hi : i < im_tn (ρ 3)) (hs : s < im_tn (ρ 2)) (hm : m ≤ 10) (hc : iw_net c) (hc2 : 20 ≤ c) {p : Nat → Nat} (hl : im_ls σ 2 m p) : ∃ σ', f_X1_setWay n c (nI (6 * i + s)) 2 (nI m) σ = some σ' ∧ im_NR σ' c (im_sw ρ i s m (fun k => p (m - 1 - k))) ∧ ∀ r, r ≠ c + 6 → r ≠ c + 7 → σ' r = σ r := by
  have a6 := (im_al_n c hc).2.2.2.2.2.1
  have b2 := hw.1.2.2.1.1
  have b3 := hw.1.2.2.2.1.1
  obtain ⟨σ', x1, x2, x3, x4⟩ := im_setWay_L (c := c) (m := m) (w := 6 * i + s) (by omega) hm hc hc2 f_X1_setWay_X48_12 m 0 n (iw_up σ (c + 6) (6 * i + s) (nI m)) (by omega) (by omega) (fun k hk => by rw [iw_up_ne (by omega)]; exact hl k hk)
  refine ⟨σ', ?_, im_NR_sw hw h hi hs hm (by rw [x4 _ (by omega), im_ups]) (fun j hj => by rw [x4 _ (by omega), im_upn hj]) (fun k hk => x2 k (Nat.zero_le _) hk) (fun j hj => by rw [x3 j (by omega), iw_up_ne (by omega)]) (fun j j1 j2 => by rw [x4 _ (by omega), iw_up_ne (by omega)]), fun r r1 r2 => by rw [x4 r r2, iw_up_ne r1]⟩
  unfold f_X1_setWay
  rw [im_put (by omega), im_let]
  exact x1
/-- the class drops a way -/
theorem im_dropWay (hw : im_WF ρ) (h : im_NR σ c ρ) (hi : i < im_tn (ρ 3)) (hs : s < im_tn (ρ 2)) (hc : iw_net c) : im_NR (f_X1_dropWay c (nI (6 * i + s)) σ) c (im_ru ρ (im_wa i s) 0) ∧ ∀ r, r ≠ c + 6 → f_X1_dropWay c (nI (6 * i + s)) σ r = σ r := by
  have a6 := (im_al_n c hc).2.2.2.2.2.1
  have b2 := hw.1.2.2.1.1
  have b3 := hw.1.2.2.2.1.1
  have e : im_sw ρ i s 0 (fun k => k) = im_ru ρ (im_wa i s) 0 := by
    funext k
    unfold im_sw im_ru
    by_cases z : k = im_wa i s
    · rw [if_pos z, if_pos z]; rfl
    · rw [if_neg z, if_neg z, if_neg (by omega)]
  unfold f_X1_dropWay
  rw [im_let, im_put (by omega), ← e]
  exact ⟨im_NR_sw hw h hi hs (by omega) im_ups (fun j hj => im_upn hj) (fun k hk => by omega) (fun j hj => by rw [iw_up_ne (by omega)]) (fun j j1 j2 => iw_up_ne (by omega)), fun r hr => iw_up_ne hr⟩
theorem im_WF_drp (hw : im_WF ρ) (hi : i < im_tn (ρ 3)) (hs : s < im_tn (ρ 2)) : im_WF (im_ru ρ (im_wa i s) 0) := by
  have e : im_sw ρ i s 0 (fun k => k) = im_ru ρ (im_wa i s) 0 := by
    funext k
    unfold im_sw im_ru
    by_cases z : k = im_wa i s
    · rw [if_pos z, if_pos z]; rfl
    · rw [if_neg z, if_neg z, if_neg (by omega)]
  rw [← e]
  exact im_WF_sw hw hi hs (by omega) (fun k hk => by omega) (fun k k' hk => by omega)
end
/-- the reference sets a way -/
theorem im_setM_L {i s m : Nat} (hi : i < 5) (hs : s < 6) (hm : m ≤ 10) {p : Nat → Nat} (kk : iw_M → Option iw_M) : ∀ (d j nn : Nat) (σ : iw_M), j + d = m → d < nn → σ 84 6 = nI m → im_ls σ 89 m p → ∃ σ', f_X6_explores_L241 (nI i) (nI s) kk nn (nI j) σ = kk σ' ∧ (∀ x, j ≤ x → x < m → σ' 85 (im_wa i s + 1 + x) = nI (p (m - 1 - x))) ∧ (∀ x, ¬ (im_wa i s + 1 + j ≤ x ∧ x < im_wa i s + 1 + m) → σ' 85 x = σ 85 x) ∧ ∀ r, r ≠ 85 → σ' r = σ r := by
  have e89 : iw_al 89 = 10 := rfl
  have hwa : im_wa i s ≤ 454 := by unfold im_wa; omega
  intro d
  induction d with
  | zero =>
    intro j nn σ h1 h2 h6 hl
    obtain ⟨nn, rfl⟩ : ∃ q, nn = q + 1 := ⟨nn - 1, by omega⟩
    refine ⟨σ, ?_, fun x x1 x2 => by omega, fun x _ => rfl, fun _ _ => rfl⟩
    rw [s_X6_explores_241]
    unfold f_X6_explores_B241
    rw [h6, if_pos (by rw [im_le (by omega) (by omega)]; omega)]
  | succ d ih =>
    intro j nn σ h1 h2 h6 hl
    obtain ⟨nn, rfl⟩ : ∃ q, nn = q + 1 := ⟨nn - 1, by omega⟩
    have e1 : nI m - (1 : Int32) - nI j = nI (m - 1 - j) := by rw [show (1 : Int32) = nI 1 from rfl, pk_sub (by omega), pk_sub (by omega)]
    have e2 : f_X6_wayAt (nI i) (nI s) + (1 : Int32) + nI j = nI (im_wa i s + 1 + j) := by rw [im_wayAt, show (1 : Int32) = nI 1 from rfl, nI_add, nI_add]
    obtain ⟨σ', x1, x2, x3, x4⟩ := ih (j + 1) nn (iw_up σ 85 (im_wa i s + 1 + j) (nI (p (m - 1 - j)))) (by omega) (by omega) (by rw [iw_up_ne (by decide)]; exact h6) (fun k hk => by rw [iw_up_ne (by decide)]; exact hl k hk)
    refine ⟨σ', ?_, fun x a b => ?_, fun x a => ?_, fun r hr => (x4 r hr).trans (iw_up_ne hr)⟩
    · rw [s_X6_explores_241]
      unfold f_X6_explores_B241
      rw [h6, if_neg (by rw [im_le (by omega) (by omega)]; omega), e1, e2, im_rd (by omega), im_bind, hl _ (by omega), im_wr (by rw [im_al85]; omega), im_bind, im_let, nI_1]
      exact x1
    · by_cases z : x = j
      · rw [z, x3 _ (by omega), im_ups]
      · exact x2 x (by omega) b
    · rw [x3 x (by omega), im_upn (by omega)]
theorem im_setM {n : Nat} (hn : 4096 ≤ n) {i s m : Nat} (hi : i < 5) (hs : s < 6) (hm : m ≤ 10) {p : Nat → Nat} {σ : iw_M} (h6 : σ 84 6 = nI m) (hl : im_ls σ 89 m p) : ∃ σ', f_X6_explores_X224_167 n (nI i) (nI s) σ = some σ' ∧ σ' 85 = im_sw (σ 85) i s m (fun k => p (m - 1 - k)) ∧ ∀ r, r ≠ 85 → σ' r = σ r := by
  have hwa : im_wa i s ≤ 454 := by unfold im_wa; omega
  obtain ⟨σ', x1, x2, x3, x4⟩ := im_setM_L hi hs hm f_X6_explores_X283_241 m 0 n (iw_up σ 85 (im_wa i s) (nI m)) (by omega) (by omega) (by rw [iw_up_ne (by decide)]; exact h6) (fun k hk => by rw [iw_up_ne (by decide)]; exact hl k hk)
  refine ⟨σ', ?_, ?_, fun r hr => (x4 r hr).trans (iw_up_ne hr)⟩
  · unfold f_X6_explores_X224_167
    rw [im_wayAt, h6, im_wr (by rw [im_al85]; omega), im_bind]
    exact x1
  · funext k
    by_cases z : k = im_wa i s
    · rw [z, x3 _ (by omega), im_ups, im_sw_l]
    · by_cases y : im_wa i s + 1 ≤ k ∧ k < im_wa i s + 1 + m
      · obtain ⟨x, rfl⟩ : ∃ x, k = im_wa i s + 1 + x := ⟨k - (im_wa i s + 1), by omega⟩
        rw [x2 x (by omega) (by omega), im_sw_n (by omega)]
      · rw [x3 k (by omega), im_upn z, im_sw_o (by omega)]
/-- the reference keeps the old way aside -/
theorem im_old_L {ρ : Nat → Int32} (hw : im_WF ρ) {i s : Nat} (hi : i < im_tn (ρ 3)) (hs : s < im_tn (ρ 2)) (kk : iw_M → Option iw_M) : ∀ (d j nn : Nat) (σ : iw_M), j + d = im_wlen ρ i s → d < nn → σ 85 = ρ → σ 84 8 = nI (im_wlen ρ i s) → ∃ σ', f_X6_explores_L79 (nI i) (nI s) kk nn (nI j) σ = kk σ' ∧ (∀ x, j ≤ x → x < im_wlen ρ i s → σ' 90 x = nI (im_wn ρ i s x)) ∧ (∀ x, x < j → σ' 90 x = σ 90 x) ∧ ∀ r, r ≠ 90 → σ' r = σ r := by
  have e90 : iw_al 90 = 10 := rfl
  have q := im_WF_wa hw hi hs
  obtain ⟨g1, g2, g3⟩ := hw.2.2.2.2.2 i s hi hs
  have g10 : im_wlen ρ i s < 11 := g1.1
  intro d
  induction d with
  | zero =>
    intro j nn σ h1 h2 e h8
    obtain ⟨nn, rfl⟩ : ∃ q, nn = q + 1 := ⟨nn - 1, by omega⟩
    refine ⟨σ, ?_, fun x x1 x2 => by omega, fun x _ => rfl, fun _ _ => rfl⟩
    rw [s_X6_explores_79]
    unfold f_X6_explores_B79
    rw [h8, if_pos (by rw [im_le (by omega) (by omega)]; omega)]
  | succ d ih =>
    intro j nn σ h1 h2 e h8
    obtain ⟨nn, rfl⟩ : ∃ q, nn = q + 1 := ⟨nn - 1, by omega⟩
    have nd : σ 85 (im_wa i s + 1 + j) = nI (im_wn ρ i s j) := by
      rw [e]
      exact (g2 j (show j < im_wlen ρ i s by omega)).2
    obtain ⟨σ', x1, x2, x3, x4⟩ := ih (j + 1) nn (iw_up σ 90 j (nI (im_wn ρ i s j))) (by omega) (by omega) (by rw [iw_up_ne (by decide)]; exact e) (by rw [iw_up_ne (by decide)]; exact h8)
    refine ⟨σ', ?_, fun x a b => ?_, fun x a => by rw [x3 x (by omega), im_upn (by omega)], fun r hr => (x4 r hr).trans (iw_up_ne hr)⟩
    · rw [s_X6_explores_79]
      unfold f_X6_explores_B79
      rw [h8, if_neg (by rw [im_le (by omega) (by omega)]; omega), im_nodeOf (by omega), im_bind, nd, im_wr (by omega), im_bind, im_let, nI_1]
      exact x1
    · by_cases z : x = j
      · rw [z, x3 _ (by omega), im_ups]
      · exact x2 x (by omega) b
