/-! sums, and how many ways go over a link -/
def im_su (g : Nat → Nat) : Nat → Nat → Nat
  | 0, _ => 0
  | d + 1, a => g a + im_su g d (a + 1)
theorem im_su_s (g : Nat → Nat) (d a : Nat) : im_su g (d + 1) a = g a + im_su g d (a + 1) := rfl
theorem im_su_0 {g : Nat → Nat} : ∀ (d a : Nat), (∀ k, a ≤ k → k < a + d → g k = 0) → im_su g d a = 0 := by
  intro d
  induction d with
  | zero => intro a _; rfl
  | succ d ih =>
    intro a h
    rw [im_su_s, h a (by omega) (by omega), ih (a + 1) (fun k k1 k2 => h k (by omega) (by omega))]
theorem im_su_1 {g : Nat → Nat} (hg : ∀ k, g k ≤ 1) : ∀ (d a : Nat), (∀ k j, a ≤ k → k < a + d → a ≤ j → j < a + d → g k = 1 → g j = 1 → k = j) → im_su g d a ≤ 1 := by
  intro d
  induction d with
  | zero => intro a _; exact Nat.zero_le _
  | succ d ih =>
    intro a h
    rw [im_su_s]
    have h1 := ih (a + 1) (fun k j k1 k2 j1 j2 => h k j (by omega) (by omega) (by omega) (by omega))
    by_cases q : g a = 1
    · rw [im_su_0 d (a + 1) (fun k k1 k2 => by
        have := hg k
        by_cases z : g k = 1
        · have := h a k (by omega) (by omega) (by omega) (by omega) q z
          omega
        · omega)]
      omega
    · have := hg a
      omega
/-- node k of the way of interest i and sensor s -/
def im_wn (ρ : Nat → Int32) (i s k : Nat) : Nat := im_tn (ρ (im_wa i s + 1 + k))
def im_wlen (ρ : Nat → Int32) (i s : Nat) : Nat := im_tn (ρ (im_wa i s))
def im_lkb (ρ : Nat → Int32) (l a b : Nat) : Bool := (decide (im_tn (ρ (22 + 3 * l)) = a) && decide (im_tn (ρ (22 + 3 * l + 1)) = b)) || (decide (im_tn (ρ (22 + 3 * l)) = b) && decide (im_tn (ρ (22 + 3 * l + 1)) = a))
theorem im_lkb_iff {ρ : Nat → Int32} {l a b : Nat} : im_lkb ρ l a b = true ↔ im_lk ρ l a b := by
  unfold im_lkb im_lk
  simp only [Bool.or_eq_true, Bool.and_eq_true, decide_eq_true_iff]
/-- the way goes over link l between its nodes k - 1 and k -/
def im_ov (ρ : Nat → Int32) (l i s k : Nat) : Nat := if im_lkb ρ l (im_wn ρ i s (k - 1)) (im_wn ρ i s k) = true then 1 else 0
theorem im_ov_1 {ρ : Nat → Int32} {l i s k : Nat} : im_ov ρ l i s k = 1 ↔ im_lk ρ l (im_wn ρ i s (k - 1)) (im_wn ρ i s k) := by
  unfold im_ov
  by_cases q : im_lkb ρ l (im_wn ρ i s (k - 1)) (im_wn ρ i s k) = true
  · rw [if_pos q]
    exact ⟨fun _ => im_lkb_iff.mp q, fun _ => rfl⟩
  · rw [if_neg q]
    exact ⟨fun z => by omega, fun z => absurd (im_lkb_iff.mpr z) q⟩
theorem im_ov_le {ρ : Nat → Int32} {l i s k : Nat} : im_ov ρ l i s k ≤ 1 := by
  unfold im_ov
  split <;> omega
section
variable {σ : iw_M} {c : Nat} {ρ : Nat → Int32}
theorem im_way_X (hc : iw_net c) (hw : im_WF ρ) (h : im_NR σ c ρ) {i s : Nat} (hi : i < im_tn (ρ 3)) (hs : s < im_tn (ρ 2)) : im_wlen ρ i s ≤ 10 ∧ f_X5_at (c + 6) (nI (6 * i + s)) σ = nI (im_wlen ρ i s) ∧ ∀ k, k < im_wlen ρ i s → im_wn ρ i s k < im_tn (ρ 0) ∧ f_X5_at (c + 7) (nI (10 * (6 * i + s) + k)) σ = nI (im_wn ρ i s k) := by
  have b2 := hw.1.2.2.1.1
  have b3 := hw.1.2.2.2.1.1
  obtain ⟨g1, g2, -⟩ := hw.2.2.2.2.2 i s hi hs
  have g := g1.1
  obtain ⟨h1, h2⟩ := h.2.2.2.2.2.1 i s hi hs
  have a1 := im_al_n c hc
  refine ⟨Nat.le_of_lt_succ g, ?_, fun k hk => ⟨(g2 k hk).1, ?_⟩⟩
  · rw [im_at (by rw [a1.2.2.2.2.2.1]; omega), h1]
    exact g1.2
  · unfold im_wlen at hk
    rw [im_at (by rw [a1.2.2.2.2.2.2]; omega), h2 k hk]
    exact (g2 k hk).2
theorem im_ov_un (hw : im_WF ρ) {i s l : Nat} (hi : i < im_tn (ρ 3)) (hs : s < im_tn (ρ 2)) {k j : Nat} (k0 : 1 ≤ k) (k1 : k < im_wlen ρ i s) (j0 : 1 ≤ j) (j1 : j < im_wlen ρ i s) (hk : im_ov ρ l i s k = 1) (hj : im_ov ρ l i s j = 1) : k = j := by
  obtain ⟨-, -, g⟩ := hw.2.2.2.2.2 i s hi hs
  unfold im_wlen at k1 j1
  have q1 := im_ov_1.mp hk
  have q2 := im_ov_1.mp hj
  unfold im_lk im_wn at q1 q2
  have e1 := g k j k1 j1
  have e2 := g (k - 1) j (by omega) j1
  have e3 := g k (j - 1) k1 (by omega)
  have e4 := g (k - 1) (j - 1) (by omega) (by omega)
  rcases q1 with ⟨x1, x2⟩ | ⟨x1, x2⟩ <;> rcases q2 with ⟨y1, y2⟩ | ⟨y1, y2⟩
  · exact e1 (by rw [← x2, ← y2])
  · have z1 := e3 (by rw [← x2, ← y2])
    have z2 := e2 (by rw [← x1, ← y1])
    omega
  · have z1 := e3 (by rw [← x1, ← y1])
    have z2 := e2 (by rw [← x2, ← y2])
    omega
  · exact e1 (by rw [← x1, ← y1])
theorem im_goesOver_L (hc : iw_net c) (hw : im_WF ρ) (h : im_NR σ c ρ) {i s l : Nat} (hi : i < im_tn (ρ 3)) (hs : s < im_tn (ρ 2)) (hl : l < im_tn (ρ 1)) (k : Option Int32) : ∀ (d j nn : Nat), 1 ≤ j → j + d = max 1 (im_wlen ρ i s) → d < nn → f_X1_goesOver_L9 c (nI (6 * i + s)) (nI (im_tn (ρ (22 + 3 * l)))) (nI (im_tn (ρ (22 + 3 * l + 1)))) σ (nI (10 * (6 * i + s))) k nn (nI j) = if im_su (im_ov ρ l i s) d j = 0 then k else some 1 := by
  have b0 := hw.1.1.1
  obtain ⟨w1, w2, w3⟩ := im_way_X hc hw h hi hs
  obtain ⟨l1, l2, -⟩ := hw.2.1 l hl
  have l1' := l1.1
  have l2' := l2.1
  intro d
  induction d with
  | zero =>
    intro j nn j0 h1 h2
    obtain ⟨nn, rfl⟩ : ∃ q, nn = q + 1 := ⟨nn - 1, by omega⟩
    rw [s_X1_goesOver_9]
    unfold f_X1_goesOver_B9
    rw [w2, if_pos (by rw [im_le (by omega) (by omega)]; omega), if_pos (show im_su (im_ov ρ l i s) 0 j = 0 from rfl)]
  | succ d ih =>
    intro j nn j0 h1 h2
    obtain ⟨nn, rfl⟩ : ∃ q, nn = q + 1 := ⟨nn - 1, by omega⟩
    have n1 := w3 (j - 1) (by omega)
    have n2 := w3 j (by omega)
    have m1 := n1.1
    have m2 := n2.1
    have e1 : nI (10 * (6 * i + s)) + nI j - 1 = nI (10 * (6 * i + s) + (j - 1)) := by
      rw [nI_add, show (1 : Int32) = nI 1 from rfl, pk_sub (by omega)]
      congr 1
      omega
    rw [s_X1_goesOver_9]
    unfold f_X1_goesOver_B9
    rw [w2, if_neg (by rw [im_le (by omega) (by omega)]; omega), e1, nI_add, n1.2, n2.2, im_isPair (by omega) (by omega) (by omega) (by omega), im_su_s]
    by_cases q : im_ov ρ l i s j = 1
    · rw [q]
      have q' := im_ov_1.mp q
      unfold im_lk at q'
      rw [if_pos (show (im_wn ρ i s (j - 1) = im_tn (ρ (22 + 3 * l)) ∧ im_wn ρ i s j = im_tn (ρ (22 + 3 * l + 1))) ∨ (im_wn ρ i s (j - 1) = im_tn (ρ (22 + 3 * l + 1)) ∧ im_wn ρ i s j = im_tn (ρ (22 + 3 * l))) by omega), if_neg (show ¬ (1 : Int32) = 0 by decide), if_neg (by omega)]
    · have q0 : im_ov ρ l i s j = 0 := by have := im_ov_le (ρ := ρ) (l := l) (i := i) (s := s) (k := j); omega
      have q' : ¬ im_lk ρ l (im_wn ρ i s (j - 1)) (im_wn ρ i s j) := fun z => q (im_ov_1.mpr z)
      unfold im_lk at q'
      rw [q0, Nat.zero_add, if_neg (show ¬ ((im_wn ρ i s (j - 1) = im_tn (ρ (22 + 3 * l)) ∧ im_wn ρ i s j = im_tn (ρ (22 + 3 * l + 1))) ∨ (im_wn ρ i s (j - 1) = im_tn (ρ (22 + 3 * l + 1)) ∧ im_wn ρ i s j = im_tn (ρ (22 + 3 * l)))) by omega), if_pos rfl, im_let, nI_1]
      exact ih (j + 1) nn (by omega) (by omega) (by omega)
/-- how often one way goes over a link: once, or not at all -/
def im_o1 (ρ : Nat → Int32) (l i s : Nat) : Nat := im_su (im_ov ρ l i s) (im_wlen ρ i s - 1) 1
theorem im_o1_le (hw : im_WF ρ) {i s l : Nat} (hi : i < im_tn (ρ 3)) (hs : s < im_tn (ρ 2)) : im_o1 ρ l i s ≤ 1 :=
  im_su_1 (fun _ => im_ov_le) _ _ (fun k j k1 k2 j1 j2 hk hj => im_ov_un hw hi hs k1 (by omega) j1 (by omega) hk hj)
theorem im_goesOver {n : Nat} (hn : 4096 ≤ n) (hc : iw_net c) (hw : im_WF ρ) (h : im_NR σ c ρ) {i s l : Nat} (hi : i < im_tn (ρ 3)) (hs : s < im_tn (ρ 2)) (hl : l < im_tn (ρ 1)) : f_X1_goesOver n c (nI (6 * i + s)) (nI (im_tn (ρ (22 + 3 * l)))) (nI (im_tn (ρ (22 + 3 * l + 1)))) σ = some (nI (im_o1 ρ l i s)) := by
  have w1 := (im_way_X hc hw h hi hs).1
  unfold f_X1_goesOver
  rw [im_let, show (10 : Int32) = nI 10 from rfl, pk_mul, show (6 * i + s) * 10 = 10 * (6 * i + s) by omega, show (1 : Int32) = nI 1 from rfl, im_goesOver_L hc hw h hi hs hl _ (im_wlen ρ i s - 1) 1 n (by omega) (by omega) (by omega)]
  have := im_o1_le hw (l := l) hi hs
  unfold im_o1 at this ⊢
  by_cases q : im_su (im_ov ρ l i s) (im_wlen ρ i s - 1) 1 = 0
  · rw [if_pos q, q]; rfl
  · rw [if_neg q, show im_su (im_ov ρ l i s) (im_wlen ρ i s - 1) 1 = 1 by omega]; rfl
theorem im_waysOver_L21 {n : Nat} (hn : 4096 ≤ n) (hc : iw_net c) (hw : im_WF ρ) (h : im_NR σ c ρ) {i l : Nat} (hi : i < im_tn (ρ 3)) (hl : l < im_tn (ρ 1)) (k : Int32 → Option Int32) : ∀ (d s nn v : Nat), s + d = im_tn (ρ 2) → d < nn → f_X1_waysOver_L21 n c (nI (im_tn (ρ (22 + 3 * l)))) (nI (im_tn (ρ (22 + 3 * l + 1)))) σ (nI i) k nn (nI v) (nI s) = k (nI (v + im_su (im_o1 ρ l i) d s)) := by
  have b2 := hw.1.2.2.1
  have b2' := b2.1
  have b3 := hw.1.2.2.2.1.1
  have e : f_X5_at (c + 1) (2 : Int32) σ = nI (im_tn (ρ 2)) := ((im_at (k := 2) (by rw [(im_al_n c hc).1]; decide)).trans (h.1 2 (by decide) (by decide))).trans b2.2
  intro d
  induction d with
  | zero =>
    intro s nn v h1 h2
    obtain ⟨nn, rfl⟩ : ∃ q, nn = q + 1 := ⟨nn - 1, by omega⟩
    rw [s_X1_waysOver_21]
    unfold f_X1_waysOver_B21
    rw [e, if_pos (by rw [im_le (by omega) (by omega)]; omega)]
    rfl
  | succ d ih =>
    intro s nn v h1 h2
    obtain ⟨nn, rfl⟩ : ∃ q, nn = q + 1 := ⟨nn - 1, by omega⟩
    rw [s_X1_waysOver_21]
    unfold f_X1_waysOver_B21
    rw [e, if_neg (by rw [im_le (by omega) (by omega)]; omega), im_wayOf, im_goesOver hn hc hw h hi (by omega) hl, im_bind, im_su_s]
    have hle := im_o1_le hw (l := l) hi (show s < im_tn (ρ 2) by omega)
    unfold f_X1_waysOver_J53
    simp only [im_let]
    rw [nI_1, nI_1]
    by_cases q : im_o1 ρ l i s = 0
    · rw [q, if_pos (show nI 0 = (0 : Int32) from rfl), ih (s + 1) nn v (by omega) (by omega), Nat.zero_add]
    · rw [show im_o1 ρ l i s = 1 by omega, if_neg (by decide), ih (s + 1) nn (v + 1) (by omega) (by omega), Nat.add_assoc]
theorem im_waysOver_L5 {n : Nat} (hn : 4096 ≤ n) (hc : iw_net c) (hw : im_WF ρ) (h : im_NR σ c ρ) {l : Nat} (hl : l < im_tn (ρ 1)) (k : Int32 → Option Int32) : ∀ (d i nn v : Nat), i + d = im_tn (ρ 3) → d < nn → f_X1_waysOver_L5 n c (nI (im_tn (ρ (22 + 3 * l)))) (nI (im_tn (ρ (22 + 3 * l + 1)))) σ k nn (nI v) (nI i) = k (nI (v + im_su (fun i => im_su (im_o1 ρ l i) (im_tn (ρ 2)) 0) d i)) := by
  have b2' := hw.1.2.2.1.1
  have b3 := hw.1.2.2.2.1
  have b3' := b3.1
  have e : f_X5_at (c + 1) (3 : Int32) σ = nI (im_tn (ρ 3)) := ((im_at (k := 3) (by rw [(im_al_n c hc).1]; decide)).trans (h.1 3 (by decide) (by decide))).trans b3.2
  intro d
  induction d with
  | zero =>
    intro i nn v h1 h2
    obtain ⟨nn, rfl⟩ : ∃ q, nn = q + 1 := ⟨nn - 1, by omega⟩
    rw [s_X1_waysOver_5]
    unfold f_X1_waysOver_B5
    rw [e, if_pos (by rw [im_le (by omega) (by omega)]; omega)]
    rfl
  | succ d ih =>
    intro i nn v h1 h2
    obtain ⟨nn, rfl⟩ : ∃ q, nn = q + 1 := ⟨nn - 1, by omega⟩
    rw [s_X1_waysOver_5]
    unfold f_X1_waysOver_B5
    rw [e, if_neg (by rw [im_le (by omega) (by omega)]; omega), show (0 : Int32) = nI 0 from rfl, im_waysOver_L21 hn hc hw h (by omega) hl _ (im_tn (ρ 2)) 0 n v (by omega) (by omega), im_su_s]
    unfold f_X1_waysOver_X59_21
    rw [im_let, nI_1, ih (i + 1) nn _ (by omega) (by omega), Nat.add_assoc]
/-! the reference's count -/
theorem im_load_L43 {n : Nat} (hn : 4096 ≤ n) (hw : im_WF (σ 85)) {i s l : Nat} (hi : i < im_tn (σ 85 3)) (hs : s < im_tn (σ 85 2)) (hl : l < im_tn (σ 85 1)) (k : Int32 → Option Int32) : ∀ (d j nn v : Nat), 1 ≤ j → j + d = max 1 (im_wlen (σ 85) i s) → d < nn → f_X6_load_L43 n (nI l) σ (nI i) (nI s) k nn (nI v) (nI j) = k (nI (v + im_su (im_ov (σ 85) l i s) d j)) := by
  have b0 := hw.1.1.1
  have b1 := hw.1.2.1.1
  have b2 := hw.1.2.2.1.1
  have b3 := hw.1.2.2.2.1.1
  obtain ⟨g1, g2, -⟩ := hw.2.2.2.2.2 i s hi hs
  have g := g1.1
  have hwa := im_WF_wa hw hi hs
  intro d
  induction d with
  | zero =>
    intro j nn v j0 h1 h2
    obtain ⟨nn, rfl⟩ : ∃ q, nn = q + 1 := ⟨nn - 1, by omega⟩
    unfold im_wlen at h1
    rw [s_X6_load_43]
    unfold f_X6_load_B43
    rw [im_lengthOf (by omega), im_bind, g1.2, if_pos (by rw [im_le (by omega) (by omega)]; omega)]
    rfl
  | succ d ih =>
    intro j nn v j0 h1 h2
    obtain ⟨nn, rfl⟩ : ∃ q, nn = q + 1 := ⟨nn - 1, by omega⟩
    have h1' := h1
    unfold im_wlen at h1'
    rw [s_X6_load_43]
    unfold f_X6_load_B43
    have n1 := g2 (j - 1) (by omega)
    have n2 := g2 j (by omega)
    have m1 := n1.1
    have m2 := n2.1
    have e1 : nI j - (1 : Int32) = nI (j - 1) := by rw [show (1 : Int32) = nI 1 from rfl, pk_sub (by omega)]
    obtain ⟨B1, B2⟩ := im_linkOf hn hw (a := im_wn (σ 85) i s (j - 1)) (b := im_wn (σ 85) i s j) (by unfold im_wn; omega) (by unfold im_wn; omega)
    rw [im_lengthOf (by omega), im_bind, g1.2, if_neg (by rw [im_le (by omega) (by omega)]; omega), e1, im_nodeOf (by omega), im_bind, im_nodeOf (by omega), im_bind, n1.2, n2.2]
    have ih1 := ih (j + 1) nn (v + 1) (by omega) (by omega) (by omega)
    have ih0 := ih (j + 1) nn v (by omega) (by omega) (by omega)
    unfold f_X6_load_J89
    simp only [im_let]
    rw [nI_1, nI_1, Int32.add_zero, im_su_s]
    by_cases q : im_ov (σ 85) l i s j = 1
    · have q' := im_ov_1.mp q
      have B := B2 l hl q'
      unfold im_wn at B
      rw [B, im_bind, if_pos rfl, q, ih1, Nat.add_assoc]
    · have q0 : im_ov (σ 85) l i s j = 0 := by have := im_ov_le (ρ := σ 85) (l := l) (i := i) (s := s) (k := j); omega
      have q' : ¬ im_lk (σ 85) l (im_wn (σ 85) i s (j - 1)) (im_wn (σ 85) i s j) := fun z => q (im_ov_1.mpr z)
      rw [q0, Nat.zero_add, ← ih0]
      by_cases r : ∃ l', l' < im_tn (σ 85 1) ∧ im_lk (σ 85) l' (im_wn (σ 85) i s (j - 1)) (im_wn (σ 85) i s j)
      · obtain ⟨l', r1, r2⟩ := r
        have B := B2 l' r1 r2
        unfold im_wn at B
        rw [B, im_bind, if_neg (by rw [im_eq (by omega) (by omega)]; exact fun z => q' (z ▸ r2))]
      · have B := B1 (fun l' r1 r2 => r ⟨l', r1, r2⟩)
        unfold im_wn at B
        rw [B, im_bind, if_neg (fun z => by
          have z1 := congrArg Int32.toInt z
          rw [nI_toInt (by omega)] at z1
          rw [show (-1000 : Int32).toInt = -1000 from rfl] at z1
          omega)]
theorem im_load_L29 {n : Nat} (hn : 4096 ≤ n) (hw : im_WF (σ 85)) {i l : Nat} (hi : i < im_tn (σ 85 3)) (hl : l < im_tn (σ 85 1)) (k : Int32 → Option Int32) : ∀ (d s nn v : Nat), s + d = im_tn (σ 85 2) → d < nn → f_X6_load_L29 n (nI l) σ (nI i) k nn (nI v) (nI s) = k (nI (v + im_su (im_o1 (σ 85) l i) d s)) := by
  have b2 := hw.1.2.2.1
  have b2' := b2.1
  have r0 : iw_rd σ 85 (2 : Int32) = some (nI (im_tn (σ 85 2))) := (im_m_rd (k := 2) (by decide)).trans (congrArg some b2.2)
  intro d
  induction d with
  | zero =>
    intro s nn v h1 h2
    obtain ⟨nn, rfl⟩ : ∃ q, nn = q + 1 := ⟨nn - 1, by omega⟩
    rw [s_X6_load_29]
    unfold f_X6_load_B29
    rw [r0, im_bind, if_pos (by rw [im_le (by omega) (by omega)]; omega)]
    rfl
  | succ d ih =>
    intro s nn v h1 h2
    obtain ⟨nn, rfl⟩ : ∃ q, nn = q + 1 := ⟨nn - 1, by omega⟩
    have w1 := (hw.2.2.2.2.2 i s hi (by omega)).1.1
    have w1' : im_wlen (σ 85) i s < 11 := w1
    rw [s_X6_load_29]
    unfold f_X6_load_B29
    rw [r0, im_bind, if_neg (by rw [im_le (by omega) (by omega)]; omega), show (1 : Int32) = nI 1 from rfl, im_load_L43 hn hw hi (by omega) hl _ (im_wlen (σ 85) i s - 1) 1 n v (by omega) (by omega) (by omega), im_su_s]
    unfold f_X6_load_X97_43
    rw [im_let, nI_1, ih (s + 1) nn _ (by omega) (by omega), Nat.add_assoc]
    rfl
theorem im_load_L16 {n : Nat} (hn : 4096 ≤ n) (hw : im_WF (σ 85)) {l : Nat} (hl : l < im_tn (σ 85 1)) (k : Int32 → Option Int32) : ∀ (d i nn v : Nat), i + d = im_tn (σ 85 3) → d < nn → f_X6_load_L16 n (nI l) σ k nn (nI v) (nI i) = k (nI (v + im_su (fun i => im_su (im_o1 (σ 85) l i) (im_tn (σ 85 2)) 0) d i)) := by
  have b2' := hw.1.2.2.1.1
  have b3 := hw.1.2.2.2.1
  have b3' := b3.1
  have r0 : iw_rd σ 85 (3 : Int32) = some (nI (im_tn (σ 85 3))) := (im_m_rd (k := 3) (by decide)).trans (congrArg some b3.2)
  intro d
  induction d with
  | zero =>
    intro i nn v h1 h2
    obtain ⟨nn, rfl⟩ : ∃ q, nn = q + 1 := ⟨nn - 1, by omega⟩
    rw [s_X6_load_16]
    unfold f_X6_load_B16
    rw [r0, im_bind, if_pos (by rw [im_le (by omega) (by omega)]; omega)]
    rfl
  | succ d ih =>
    intro i nn v h1 h2
    obtain ⟨nn, rfl⟩ : ∃ q, nn = q + 1 := ⟨nn - 1, by omega⟩
    rw [s_X6_load_16]
    unfold f_X6_load_B16
    rw [r0, im_bind, if_neg (by rw [im_le (by omega) (by omega)]; omega), show (0 : Int32) = nI 0 from rfl, im_load_L29 hn hw (by omega) hl _ (im_tn (σ 85 2)) 0 n v (by omega) (by omega), im_su_s]
    unfold f_X6_load_X103_29
    rw [im_let, nI_1, ih (i + 1) nn _ (by omega) (by omega), Nat.add_assoc]
end
theorem sim_load_ok (n : Nat) (hn : 4096 ≤ n) : sim_load n im_RR := by
  intro p1 σx σm h
  obtain ⟨hN, hW⟩ := im_0 h
  obtain ⟨-, ⟨L, L1, L2, L3, L4⟩, -⟩ := im_cnt hN hW
  have b3 := hW.1.2.2.2.1.1
  unfold f_X5_load f_X6_load
  rw [show f_X1_has 20 (1 : Int32) p1 σx = f_X1_has 20 (nI 1) p1 σx from rfl, im_has iw_net_20 (by decide) (by omega) p1 L4, im_isLink p1 (by omega) L3, im_bind, im_b01, im_b01]
  by_cases c : ∃ k, k < L ∧ p1 = nI k
  · rw [if_pos c, if_pos c]
    obtain ⟨l, hl, rfl⟩ := c
    have e := im_ends iw_net_20 hW hN (show l < im_tn (σm 85 1) by omega)
    unfold f_X1_waysOver
    rw [e.1, e.2.1, show (0 : Int32) = nI 0 from rfl, im_waysOver_L5 hn iw_net_20 hW hN (by omega) _ (im_tn (σm 85 3)) 0 n 0 (by omega) (by omega), im_load_L16 hn hW (by omega) _ (im_tn (σm 85 3)) 0 n 0 (by omega) (by omega)]
    unfold f_X1_waysOver_X65_5 f_X6_load_X109_16
    exact ⟨_, _, _, ⟨rfl, rfl⟩, ⟨rfl, rfl⟩, h⟩
  · rw [if_neg c, if_neg c]
    exact ⟨_, _, _, ⟨rfl, rfl⟩, ⟨rfl, rfl⟩, h⟩
