/-! what the calls keep of the net's numbers -/
theorem ip_V_ch {e : Int32} {B : Nat} {ρ : Nat → Int32} (h : ip_V e B ρ) (hw : im_WF ρ) {k : Nat} (hk : k < im_tn (ρ 0)) {x : Int32} (hx : 0 ≤ x) : ip_V (e + (x - ρ (12 + k))) B (im_ru ρ (12 + k) x) := by
  have b0 := hw.1.1.1
  obtain ⟨⟨h1, h2⟩, h3, h4, h5⟩ := h
  have lo : ∀ j, j ≠ 12 + k → im_ru ρ (12 + k) x j = ρ j := fun j hj => im_ru_ne hj
  have ew : ∀ i s, im_wlen (im_ru ρ (12 + k) x) i s = im_wlen ρ i s ∧ im_wn (im_ru ρ (12 + k) x) i s = im_wn ρ i s := fun i s => im_wn_c (fun j hj => lo j (by omega)) i s
  unfold ip_V
  rw [lo 0 (by omega), lo 2 (by omega), lo 3 (by omega)]
  refine ⟨⟨fun v hv => ?_, ?_⟩, fun i s hi hs hl => ?_, fun i hi => ?_, fun s hs => ?_⟩
  · by_cases q : v = k
    · rw [q, im_ru_eq]; exact hx
    · rw [lo _ (by omega)]; exact h1 v hv
  · rw [ip_es_u (v := k) (x := x) im_ru_eq (fun u hu => lo _ (by omega)) _ hk, lo 10 (by omega), ← h2]
    have key : ∀ S A T : Int32, S + A + T = S + T + A := fun S A T => by grind
    exact key _ _ _
  · rw [(ew i s).1] at hl ⊢
    rw [(ew i s).2, lo _ (by omega), lo _ (by omega)]
    exact h3 i s hi hs hl
  · rw [lo _ (by omega), lo _ (by omega)]
    exact h4 i hi
  · rw [lo _ (by omega)]
    exact h5 s hs
theorem ip_V_me {e : Int32} {B : Nat} {ρ : Nat → Int32} (h : ip_V e B ρ) (hw : im_WF ρ) {k : Nat} (hk : k < im_tn (ρ 2)) {x : Int32} (hx : -100 ≤ x) : ip_V e B (im_ru ρ (82 + (3 * k + 2)) x) := by
  have b0 := hw.1.1.1
  have b2 := hw.1.2.2.1.1
  obtain ⟨⟨h1, h2⟩, h3, h4, h5⟩ := h
  have lo : ∀ j, j ≠ 82 + (3 * k + 2) → im_ru ρ (82 + (3 * k + 2)) x j = ρ j := fun j hj => im_ru_ne hj
  have ew : ∀ i s, im_wlen (im_ru ρ (82 + (3 * k + 2)) x) i s = im_wlen ρ i s ∧ im_wn (im_ru ρ (82 + (3 * k + 2)) x) i s = im_wn ρ i s := fun i s => im_wn_c (fun j hj => lo j (by omega)) i s
  unfold ip_V
  rw [lo 0 (by omega), lo 2 (by omega), lo 3 (by omega)]
  refine ⟨⟨fun v hv => ?_, ?_⟩, fun i s hi hs hl => ?_, fun i hi => ?_, fun s hs => ?_⟩
  · rw [lo _ (by omega)]; exact h1 v hv
  · rw [ip_es_c _ (fun v hv => lo _ (by omega)), lo 10 (by omega)]; exact h2
  · rw [(ew i s).1] at hl ⊢
    rw [(ew i s).2, lo _ (by omega), lo _ (by omega)]
    exact h3 i s hi hs hl
  · rw [lo _ (by omega), lo _ (by omega)]
    exact h4 i hi
  · by_cases q : s = k
    · rw [q, show 82 + 3 * k + 2 = 82 + (3 * k + 2) by omega, im_ru_eq]
      exact Int32.le_trans (by decide) hx
    · rw [lo _ (by omega)]
      exact h5 s hs
theorem ip_V_nd {e : Int32} {B : Nat} {ρ : Nat → Int32} (h : ip_V e B ρ) (hw : im_WF ρ) (hN : im_tn (ρ 0) < 10) {x : Int32} (hx : 0 ≤ x) : ip_V (e + x) B (ip_nd ρ (im_tn (ρ 0)) x) := by
  obtain ⟨⟨h1, h2⟩, h3, h4, h5⟩ := h
  obtain ⟨N, eN⟩ : ∃ y, y = im_tn (ρ 0) := ⟨_, rfl⟩
  rw [← eN] at h1 h2 hN ⊢
  have lo : ∀ j, j ≠ 0 → j ≠ 12 + N → ip_nd ρ N x j = ρ j := fun j j1 j2 => by
    unfold ip_nd
    rw [im_ru_ne j1, im_ru_ne j2]
  have e0 : im_tn (ip_nd ρ N x 0) = N + 1 := by
    unfold ip_nd
    rw [im_ru_eq, im_tn_nI (by omega)]
  have eN2 : ip_nd ρ N x (12 + N) = x := by
    unfold ip_nd
    rw [im_ru_ne (by omega), im_ru_eq]
  have ew : ∀ i s, im_wlen (ip_nd ρ N x) i s = im_wlen ρ i s ∧ im_wn (ip_nd ρ N x) i s = im_wn ρ i s := fun i s => im_wn_c (fun j hj => lo j (by omega) (by omega)) i s
  unfold ip_V
  rw [e0, lo 2 (by omega) (by omega), lo 3 (by omega) (by omega)]
  refine ⟨⟨fun v hv => ?_, ?_⟩, fun i s hi hs hl => ?_, fun i hi => ?_, fun s hs => ?_⟩
  · by_cases q : v = N
    · rw [q, eN2]; exact hx
    · rw [lo _ (by omega) (by omega)]; exact h1 v (by omega)
  · rw [ip_es_s, ip_es_c N (fun v hv => lo _ (by omega) (by omega)), eN2, lo 10 (by omega) (by omega), ← h2]
    have key : ∀ S A T : Int32, S + A + T = S + T + A := fun S A T => by grind
    exact key _ _ _
  · rw [(ew i s).1] at hl ⊢
    rw [(ew i s).2, lo _ (by omega) (by omega), lo _ (by omega) (by omega)]
    exact h3 i s hi hs hl
  · rw [lo _ (by omega) (by omega), lo _ (by omega) (by omega)]
    exact h4 i hi
  · rw [lo _ (by omega) (by omega)]
    exact h5 s hs
theorem ip_V_lk {e : Int32} {B : Nat} {ρ : Nat → Int32} (h : ip_V e B ρ) (hw : im_WF ρ) {L a b w : Nat} (hL : L < 20) : ip_V e B (ip_lk ρ L a b w) :=
  ip_V_c h (fun k hk => ip_lk_o (by omega) (by omega)) (ip_pe_c (fun k hk => ip_lk_o (by omega) (by have := hw.1.1.1; omega)))
theorem ip_V_cu {e : Int32} {B : Nat} {ρ : Nat → Int32} (h : ip_V e B ρ) (hw : im_WF ρ) {l L : Nat} (hL : L ≤ 20) : ip_V e B (ip_cu ρ l L) := by
  have lo : ∀ k, k ≠ 1 → (k < 22 ∨ 82 ≤ k) → ip_cu ρ l L k = ρ k := fun k k1 k2 => by
    unfold ip_cu
    rw [if_neg k1, if_neg (by omega)]
  exact ip_V_c h (fun k hk => lo k (by omega) (by omega)) (ip_pe_c (fun k hk => lo k (by omega) (by have := hw.1.1.1; omega)))
theorem ip_V_4 {e : Int32} {B : Nat} {ρ : Nat → Int32} (h : ip_V e B ρ) {x : Int32} : ip_V e B (im_ru ρ 4 x) :=
  ip_V_c h (fun k hk => im_ru_ne (by omega)) (ip_pe_c (fun k hk => im_ru_ne (by omega)))
theorem ip_V_se {e : Int32} {B : Nat} {ρ : Nat → Int32} (h : ip_V e B ρ) (hw : im_WF ρ) {a : Nat} {p2 p3 : Int32} (hS : im_tn (ρ 2) < 6) (hx : -100 ≤ p3) : ip_V e B (ip_se ρ (im_tn (ρ 2)) a p2 p3) := by
  have b0 := hw.1.1.1
  have b3 := hw.1.2.2.2.1.1
  have hw6 := hw.2.2.2.2.2
  obtain ⟨⟨h1, h2⟩, h3, h4, h5⟩ := h
  obtain ⟨S, eS⟩ : ∃ y, y = im_tn (ρ 2) := ⟨_, rfl⟩
  rw [← eS] at h3 h5 hS hw6 ⊢
  obtain ⟨v1, v2, v3, v4, v5, v6⟩ := ip_se_v (ρ := ρ) (a := a) (p2 := p2) (p3 := p3) hS
  have lo : ∀ j, j < 82 → j ≠ 2 → ip_se ρ S a p2 p3 j = ρ j := fun j j1 j2 => v6 j j2 (by omega) (fun i _ => by have := im_wa_ge i S; omega)
  have loi : ∀ j, 100 ≤ j → j < 135 → ip_se ρ S a p2 p3 j = ρ j := fun j j1 j2 => v6 j (by omega) (by omega) (fun i _ => by have := im_wa_ge i S; omega)
  have los : ∀ s, s < S → ∀ w, w < 3 → ip_se ρ S a p2 p3 (82 + 3 * s + w) = ρ (82 + 3 * s + w) := fun s hs w hw3 => v6 _ (by omega) (by omega) (fun i _ => by have := im_wa_ge i S; omega)
  have e2 : im_tn (ip_se ρ S a p2 p3 2) = S + 1 := by rw [v1, im_tn_nI (by omega)]
  have low : ∀ i s k, s < S → k < 11 → ip_se ρ S a p2 p3 (im_wa i s + k) = ρ (im_wa i s + k) := fun i s k hs hk => v6 _ (by have := im_wa_ge i s; omega) (by have := im_wa_ge i s; omega) (fun i' _ => by unfold im_wa; omega)
  have ew : ∀ i s, s < S → im_wlen (ip_se ρ S a p2 p3) i s = im_wlen ρ i s := fun i s hs => by
    unfold im_wlen
    have := low i s 0 hs (by omega)
    rw [Nat.add_zero] at this
    rw [this]
  have en : ∀ i s k, s < S → k < 10 → im_wn (ip_se ρ S a p2 p3) i s k = im_wn ρ i s k := fun i s k hs hk => by
    unfold im_wn
    have := low i s (1 + k) hs (by omega)
    rw [← Nat.add_assoc] at this
    rw [this]
  unfold ip_V
  rw [lo 0 (by omega) (by omega), e2, lo 3 (by omega) (by omega)]
  refine ⟨⟨fun v hv => ?_, ?_⟩, fun i s hi hs hl => ?_, fun i hi => ?_, fun s hs => ?_⟩
  · rw [lo _ (by omega) (by omega)]; exact h1 v hv
  · rw [ip_es_c _ (fun v hv => lo _ (by omega) (by omega)), lo 10 (by omega) (by omega)]; exact h2
  · by_cases q : s = S
    · rw [q] at hl
      unfold im_wlen at hl
      rw [v5 i (by omega), show (0 : Int32) = nI 0 from rfl, im_tn_nI (by omega)] at hl
      omega
    · have hs' : s < S := by omega
      have l10 : im_wlen ρ i s < 11 := (hw6 i s hi hs').1.1
      have g := los s hs' 0 (by omega)
      rw [Nat.add_zero] at g
      rw [ew i s hs'] at hl ⊢
      rw [en i s 0 hs' (by omega), en i s _ hs' (by omega), g, loi _ (by omega) (by omega)]
      exact h3 i s hi hs' hl
  · rw [loi _ (by omega) (by omega), loi _ (by omega) (by omega)]
    exact h4 i hi
  · by_cases q : s = S
    · rw [q, v4]
      exact Int32.le_trans (by decide) hx
    · rw [los s (by omega) 2 (by omega)]
      exact h5 s (by omega)
theorem ip_V_in {e : Int32} {B : Nat} {ρ : Nat → Int32} (h : ip_V e B ρ) (hw : im_WF ρ) {a : Nat} {p2 p3 p4 p5 : Int32} (hI : im_tn (ρ 3) < 5) : ip_V e B (ip_in ρ (im_tn (ρ 3)) a p2 p3 p4 p5) := by
  have b0 := hw.1.1.1
  have b2 := hw.1.2.2.1.1
  have hw6 := hw.2.2.2.2.2
  obtain ⟨⟨h1, h2⟩, h3, h4, h5⟩ := h
  obtain ⟨I, eI⟩ : ∃ y, y = im_tn (ρ 3) := ⟨_, rfl⟩
  rw [← eI] at h3 h4 hI hw6 ⊢
  obtain ⟨⟨v3, v0, v1, v2, v33, v4, v5, v6⟩, hz, he⟩ := ip_in_v (ρ := ρ) (a := a) (p2 := p2) (p3 := p3) (p4 := p4) (p5 := p5) hI
  have lo : ∀ j, j < 100 → j ≠ 3 → ip_in ρ I a p2 p3 p4 p5 j = ρ j := fun j j1 j2 => he j j2 (by omega) (fun s _ => by have := im_wa_ge I s; omega)
  have loi : ∀ i, i < I → ∀ w, w < 7 → ip_in ρ I a p2 p3 p4 p5 (100 + 7 * i + w) = ρ (100 + 7 * i + w) := fun i hi w hw7 => he _ (by omega) (by omega) (fun s _ => by have := im_wa_ge I s; omega)
  have e3 : im_tn (ip_in ρ I a p2 p3 p4 p5 3) = I + 1 := by rw [v3, im_tn_nI (by omega)]
  have low : ∀ i s k, i < I → s < 6 → k < 11 → ip_in ρ I a p2 p3 p4 p5 (im_wa i s + k) = ρ (im_wa i s + k) := fun i s k hi hs hk => he _ (by have := im_wa_ge i s; omega) (by have := im_wa_ge i s; omega) (fun s' hs' => by unfold im_wa; omega)
  have ew : ∀ i s, i < I → s < 6 → im_wlen (ip_in ρ I a p2 p3 p4 p5) i s = im_wlen ρ i s := fun i s hi hs => by
    unfold im_wlen
    have := low i s 0 hi hs (by omega)
    rw [Nat.add_zero] at this
    rw [this]
  have en : ∀ i s k, i < I → s < 6 → k < 10 → im_wn (ip_in ρ I a p2 p3 p4 p5) i s k = im_wn ρ i s k := fun i s k hi hs hk => by
    unfold im_wn
    have := low i s (1 + k) hi hs (by omega)
    rw [← Nat.add_assoc] at this
    rw [this]
  unfold ip_V
  rw [lo 0 (by omega) (by omega), lo 2 (by omega) (by omega), e3]
  refine ⟨⟨fun v hv => ?_, ?_⟩, fun i s hi hs hl => ?_, fun i hi => ?_, fun s hs => ?_⟩
  · rw [lo _ (by omega) (by omega)]; exact h1 v hv
  · rw [ip_es_c _ (fun v hv => lo _ (by omega) (by omega)), lo 10 (by omega) (by omega)]; exact h2
  · by_cases q : i = I
    · rw [q] at hl
      unfold im_wlen at hl
      rw [hz s (by omega), show (0 : Int32) = nI 0 from rfl, im_tn_nI (by omega)] at hl
      omega
    · have hi' : i < I := by omega
      have l10 : im_wlen ρ i s < 11 := (hw6 i s hi' hs).1.1
      have g := loi i hi' 0 (by omega)
      rw [Nat.add_zero] at g
      rw [ew i s hi' (by omega)] at hl ⊢
      rw [en i s 0 hi' (by omega) (by omega), en i s _ hi' (by omega) (by omega), lo _ (by omega) (by omega), g]
      exact h3 i s hi' hs hl
  · by_cases q : i = I
    · rw [q]
      exact ⟨0, 0, Nat.zero_le _, Nat.zero_le _, v5, v6⟩
    · rw [loi i (by omega) 5 (by omega), loi i (by omega) 6 (by omega)]
      exact h4 i (by omega)
  · rw [lo _ (by omega) (by omega)]
    exact h5 s hs
theorem ip_V_dr {e : Int32} {B : Nat} {ρ : Nat → Int32} (h : ip_V e B ρ) (hw : im_WF ρ) {i : Nat} (hi : i < im_tn (ρ 3)) : ip_V e B (ip_dr ρ i (im_tn (ρ 3))) :=
  ((ip_pg_end hw rfl hi (ip_dr_d hi (Nat.le_of_lt_succ hw.1.2.2.2.1.1))).2 e B h).1
