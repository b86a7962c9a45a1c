/-! what the class's Paths learn from a net; is a way whole -/
def im_path (c : Nat) : Prop := c = 8 ∨ c = 14
theorem im_al_p (c : Nat) (h : im_path c) : iw_al (c + 1) = 100 ∧ iw_al (c + 2) = 10 ∧ iw_al (c + 3) = 10 ∧ iw_al (c + 4) = 100 ∧ iw_al (c + 5) = 100 := by
  rcases h with rfl | rfl <;> decide
theorem im_fill_L {a : Nat} (hal : iw_al a ≤ 1000) (x : Int32) (k : iw_M → Option iw_M) : ∀ (d i nn : Nat) (σ : iw_M), i + d = iw_al a → d < nn → f_J7_fill_53178_L5 a x (nI (iw_al a)) k nn (nI i) σ = k (im_fl σ a i (iw_al a) x) := by
  intro d
  induction d with
  | zero =>
    intro i nn σ h1 h2
    obtain ⟨nn, rfl⟩ : ∃ q, nn = q + 1 := ⟨nn - 1, by omega⟩
    rw [s_J7_fill_53178_5]
    unfold f_J7_fill_53178_B5
    rw [if_pos (by rw [im_le (by omega) (by omega)]; omega), show i = iw_al a by omega, im_fl_end]
  | succ d ih =>
    intro i nn σ h1 h2
    obtain ⟨nn, rfl⟩ : ∃ q, nn = q + 1 := ⟨nn - 1, by omega⟩
    rw [s_J7_fill_53178_5]
    unfold f_J7_fill_53178_B5
    rw [if_neg (by rw [im_le (by omega) (by omega)]; omega), im_wr (by omega), im_bind, im_let, nI_1, ih (i + 1) nn _ (by omega) (by omega), im_fl_step (by omega)]
theorem im_fill {n : Nat} (hn : 4096 ≤ n) {a : Nat} (hal : iw_al a ≤ 1000) (x : Int32) (σ : iw_M) : f_J7_fill_53178 n a x σ = some (im_fl σ a 0 (iw_al a) x) := by
  unfold f_J7_fill_53178
  rw [im_let, show (0 : Int32) = nI 0 from rfl, im_fill_L hal x _ (iw_al a) 0 n σ (by omega) (by omega)]
  rfl
/-- the delay between two nodes after the first so many links; none is 0 -/
def im_dr (ρ : Nat → Int32) (a b : Nat) : Nat → Nat
  | 0 => 0
  | l + 1 => if im_lkb ρ l a b = true then im_tn (ρ (22 + 3 * l + 2)) else im_dr ρ a b l
theorem im_dr_s (ρ : Nat → Int32) (a b l : Nat) : im_dr ρ a b (l + 1) = if im_lkb ρ l a b = true then im_tn (ρ (22 + 3 * l + 2)) else im_dr ρ a b l := rfl
def im_dl (ρ : Nat → Int32) (a b : Nat) : Nat := im_dr ρ a b (im_tn (ρ 1))
theorem im_dr_0 {ρ : Nat → Int32} {a b : Nat} : ∀ i, (∀ l, l < i → ¬ im_lk ρ l a b) → im_dr ρ a b i = 0 := by
  intro i
  induction i with
  | zero => intro _; rfl
  | succ i ih =>
    intro h
    rw [im_dr_s, if_neg (fun z => h i (by omega) (im_lkb_iff.mp z))]
    exact ih (fun l hl => h l (by omega))
theorem im_dr_1 {ρ : Nat → Int32} {a b l : Nat} (hl : im_lk ρ l a b) : ∀ i, l < i → (∀ l', l' < i → im_lk ρ l' a b → l' = l) → im_dr ρ a b i = im_tn (ρ (22 + 3 * l + 2)) := by
  intro i
  induction i with
  | zero => intro h _; omega
  | succ i ih =>
    intro h u
    rw [im_dr_s]
    by_cases q : im_lkb ρ i a b = true
    · rw [if_pos q, u i (by omega) (im_lkb_iff.mp q)]
    · rw [if_neg q]
      have : l ≠ i := fun z => q (im_lkb_iff.mpr (z ▸ hl))
      exact ih (by omega) (fun l' h' => u l' (by omega))
theorem im_dl_1 {ρ : Nat → Int32} (hw : im_WF ρ) {a b l : Nat} (hl : l < im_tn (ρ 1)) (h : im_lk ρ l a b) : im_dl ρ a b = im_tn (ρ (22 + 3 * l + 2)) ∧ 0 < im_dl ρ a b ∧ im_dl ρ a b < 21 := by
  have e : im_dl ρ a b = im_tn (ρ (22 + 3 * l + 2)) := im_dr_1 h _ hl (fun l' h' q => hw.2.2.1 l' l a b h' hl q h)
  obtain ⟨-, -, g1, g2, -⟩ := hw.2.1 l hl
  have := g1.1
  rw [e]
  exact ⟨rfl, g2, this⟩
theorem im_dl_0 {ρ : Nat → Int32} {a b : Nat} (h : ∀ l, l < im_tn (ρ 1) → ¬ im_lk ρ l a b) : im_dl ρ a b = 0 := im_dr_0 _ h
/-- the class's delays are the net's, so far as the first i links go -/
def im_mx (σ : iw_M) (c : Nat) (ρ : Nat → Int32) (i : Nat) : Prop := ∀ a b, a < 10 → b < 10 → σ (c + 1) (10 * a + b) = nI (im_dr ρ a b i)
section
variable {σ : iw_M} {c c1 : Nat} {ρ : Nat → Int32}
theorem im_learn_L {n : Nat} (hp : im_path c) (hc : iw_net c1) (h20 : 20 ≤ c1) (hw : im_WF ρ) (k : iw_M → Option iw_M) : ∀ (d i nn : Nat) (σ : iw_M), i + d = im_tn (ρ 1) → d < nn → im_NR σ c1 ρ → im_mx σ c ρ i → ∃ σ', f_X2_learn_L18 n c c1 k nn (nI i) σ = k σ' ∧ im_mx σ' c ρ (im_tn (ρ 1)) ∧ ∀ r, r ≠ c + 1 → σ' r = σ r := by
  have b0 := hw.1.1.1
  have b1 := hw.1.2.1
  have b1' := b1.1
  have hpc : c = 8 ∨ c = 14 := hp
  intro d
  induction d with
  | zero =>
    intro i nn σ h1 h2 h hm
    obtain ⟨nn, rfl⟩ : ∃ q, nn = q + 1 := ⟨nn - 1, by omega⟩
    refine ⟨σ, ?_, by rw [show im_tn (ρ 1) = i by omega]; exact hm, fun _ _ => rfl⟩
    rw [s_X2_learn_18]
    unfold f_X2_learn_B18
    rw [show (1 : Int32) = nI 1 from rfl, im_num n hc (by decide) (by decide), im_bind, h.1 1 (by decide) (by decide), b1.2, if_pos (by rw [im_le (by omega) (by omega)]; omega)]
  | succ d ih =>
    intro i nn σ h1 h2 h hm
    obtain ⟨nn, rfl⟩ : ∃ q, nn = q + 1 := ⟨nn - 1, by omega⟩
    have hi : i < im_tn (ρ 1) := by omega
    obtain ⟨l1, l2, l3, l4, l5⟩ := hw.2.1 i hi
    have l1' := l1.1
    have l2' := l2.1
    obtain ⟨p0, p1, p2⟩ := im_ends hc hw h hi
    have ga := (im_al_p c hp).1
    generalize hx : im_tn (ρ (22 + 3 * i)) = x at *
    generalize hy : im_tn (ρ (22 + 3 * i + 1)) = y at *
    generalize hd : im_tn (ρ (22 + 3 * i + 2)) = w at *
    have h' : im_NR (iw_up σ (c + 1) (x * 10 + y) (nI w)) c1 ρ := im_NR_congr h (fun j j1 j2 => iw_up_ne (by omega))
    have q2 := (im_ends hc hw h' hi).2.2
    rw [hd] at q2
    obtain ⟨σ', e1, e2, e3⟩ := ih (i + 1) nn (iw_up (iw_up σ (c + 1) (x * 10 + y) (nI w)) (c + 1) (y * 10 + x) (nI w)) (by omega) (by omega) (im_NR_congr h' (fun j j1 j2 => iw_up_ne (by omega))) (fun a b ha hb => by
      rw [im_up1, im_up1, im_dr_s, hd]
      by_cases q : im_lkb ρ i a b = true
      · have q' := im_lkb_iff.mp q
        unfold im_lk at q'
        rw [hx, hy] at q'
        rw [if_pos q]
        by_cases r : 10 * a + b = y * 10 + x
        · rw [if_pos r]
        · rw [if_neg r, if_pos (by omega)]
      · have q' : ¬ im_lk ρ i a b := fun z => q (im_lkb_iff.mpr z)
        unfold im_lk at q'
        rw [hx, hy] at q'
        rw [if_neg q, if_neg (by omega), if_neg (by omega)]
        exact hm a b ha hb)
    refine ⟨σ', ?_, e2, fun r hr => by rw [e3 r hr, iw_up_ne hr, iw_up_ne hr]⟩
    rw [s_X2_learn_18]
    unfold f_X2_learn_B18
    rw [show f_X1_number n c1 (1 : Int32) σ = f_X1_number n c1 (nI 1) σ from rfl, im_num n hc (by decide) (by decide), im_bind, h.1 1 (by decide) (by decide), b1.2, if_neg (by rw [im_le (by omega) (by omega)]; omega), p0, p1, p2]
    simp only [im_let]
    rw [show (10 : Int32) = nI 10 from rfl, pk_mul, nI_add, pk_mul, nI_add, im_put (a := c + 1) (k := x * 10 + y) (by omega), q2, im_put (by omega), nI_1]
    exact e1
theorem im_learn {n : Nat} (hn : 4096 ≤ n) (hp : im_path c) (hc : iw_net c1) (h20 : 20 ≤ c1) (hw : im_WF ρ) (h : im_NR σ c1 ρ) : ∃ σ', f_X2_learn n c c1 σ = some σ' ∧ im_mx σ' c ρ (im_tn (ρ 1)) ∧ (∀ j, j < 10 → σ' (c + 2) j = 0) ∧ ∀ r, r ≠ c + 1 → r ≠ c + 2 → σ' r = σ r := by
  have b1 := hw.1.2.1.1
  have hpc : c = 8 ∨ c = 14 := hp
  have ga := im_al_p c hp
  obtain ⟨σ', e1, e2, e3⟩ := im_learn_L (n := n) hp hc h20 hw f_X2_learn_X88_18 (im_tn (ρ 1)) 0 n (im_fl (im_fl σ (c + 1) 0 (iw_al (c + 1)) 0) (c + 2) 0 (iw_al (c + 2)) 0) (by omega) (by omega) (im_NR_congr h (fun j j1 j2 => by rw [im_fl_o (by omega), im_fl_o (by omega)])) (fun a b ha hb => by rw [im_fl_o (by omega), im_fl_e, if_pos (by omega)]; rfl)
  refine ⟨σ', ?_, e2, fun j hj => ?_, fun r r1 r2 => ?_⟩
  · unfold f_X2_learn
    rw [im_fill hn (by omega), im_bind, im_fill hn (by omega), im_bind, show f_X2_learn_L18 n c c1 f_X2_learn_X88_18 n (0 : Int32) (im_fl (im_fl σ (c + 1) 0 (iw_al (c + 1)) 0) (c + 2) 0 (iw_al (c + 2)) 0) = f_X2_learn_L18 n c c1 f_X2_learn_X88_18 n (nI 0) (im_fl (im_fl σ (c + 1) 0 (iw_al (c + 1)) 0) (c + 2) 0 (iw_al (c + 2)) 0) from rfl, e1]
    rfl
  · rw [e3 _ (by omega), im_fl_e, if_pos (by omega)]
  · rw [e3 r r1, im_fl_o r2, im_fl_o r1]
theorem im_delayB (hp : im_path c) (hm : im_mx σ c ρ (im_tn (ρ 1))) {a b : Nat} (ha : a < 10) (hb : b < 10) : f_X2_delayBetween c (nI a) (nI b) σ = nI (im_dl ρ a b) := by
  have ga := (im_al_p c hp).1
  unfold f_X2_delayBetween
  rw [show (10 : Int32) = nI 10 from rfl, pk_mul, nI_add, im_at (by omega), Nat.mul_comm a 10, hm a b ha hb]
  rfl
theorem im_holds {M p : Nat} (hM : M < 1024) (hp : p < 10) : f_X5_holds (nI M) (nI p) = if M.testBit p = true then 1 else 0 := by
  unfold f_X5_holds
  rw [if_neg (by rw [show (0 : Int32) = nI 0 from rfl, im_lt (by omega) (by omega)]; omega), if_neg (by rw [im_lit 10, im_le (by omega) (by omega)]; omega), im_shr ⟨M, hM⟩ ⟨p, hp⟩]
  unfold im_bt
  by_cases q : M.testBit p = true
  · rw [if_pos q, if_pos (show nI 1 = (1 : Int32) from rfl), if_pos q]
  · rw [if_neg q, if_neg (show ¬ nI 0 = (1 : Int32) by decide), if_neg q]
def im_ab (g : Nat → Bool) : Nat → Nat → Bool
  | 0, _ => true
  | d + 1, a => g a && im_ab g d (a + 1)
theorem im_ab_s (g : Nat → Bool) (d a : Nat) : im_ab g (d + 1) a = (g a && im_ab g d (a + 1)) := rfl
/-- the way's node k is alive, and a link leads to it from the node before -/
def im_gd (ρ : Nat → Int32) (i s k : Nat) : Bool := im_al ρ (im_wn ρ i s k) && (decide (k = 0) || decide (0 < im_dl ρ (im_wn ρ i s (k - 1)) (im_wn ρ i s k)))
def im_ww (ρ : Nat → Int32) (i s : Nat) : Bool := decide (0 < im_wlen ρ i s) && im_ab (im_gd ρ i s) (im_wlen ρ i s) 0
theorem im_dl_lt (hw : im_WF ρ) (a b : Nat) : im_dl ρ a b < 21 := by
  by_cases q : ∃ l, l < im_tn (ρ 1) ∧ im_lkb ρ l a b = true
  · obtain ⟨l, q1, q2⟩ := q
    exact (im_dl_1 hw q1 (im_lkb_iff.mp q2)).2.2
  · rw [im_dl_0 (fun l h1 h2 => q ⟨l, h1, im_lkb_iff.mpr h2⟩)]
    decide
theorem im_carry_L (hp : im_path c) (hc : iw_net c1) (hw : im_WF ρ) (h : im_NR σ c1 ρ) (hm : im_mx σ c ρ (im_tn (ρ 1))) {i s : Nat} (hi : i < im_tn (ρ 3)) (hs : s < im_tn (ρ 2)) (k : Option Int32) : ∀ (d j nn : Nat), j + d = im_wlen ρ i s → d < nn → f_X2_carry_L10 c c1 (nI (6 * i + s)) (nI (im_mk (im_al ρ) (im_tn (ρ 0)))) σ (nI (im_wlen ρ i s)) k nn (nI j) = if im_ab (im_gd ρ i s) d j = true then k else some 0 := by
  have b0 := hw.1.1.1
  obtain ⟨w1, w2, w3⟩ := im_way_X hc hw h hi hs
  have nd : ∀ j, j < im_wlen ρ i s → f_X1_nodeOf c1 (nI (6 * i + s)) (nI j) σ = nI (im_wn ρ i s j) := fun j hj => by
    unfold f_X1_nodeOf
    rw [show (10 : Int32) = nI 10 from rfl, pk_mul, nI_add, Nat.mul_comm (6 * i + s) 10]
    exact (w3 j hj).2
  have hM := im_mk_1024 (im_al ρ) (show im_tn (ρ 0) ≤ 10 by omega)
  intro d
  induction d with
  | zero =>
    intro j nn h1 h2
    obtain ⟨nn, rfl⟩ : ∃ q, nn = q + 1 := ⟨nn - 1, by omega⟩
    rw [s_X2_carry_10]
    unfold f_X2_carry_B10
    rw [if_pos (by rw [im_le (by omega) (by omega)]; omega), if_pos (show im_ab (im_gd ρ i s) 0 j = true from rfl)]
  | succ d ih =>
    intro j nn h1 h2
    obtain ⟨nn, rfl⟩ : ∃ q, nn = q + 1 := ⟨nn - 1, by omega⟩
    have m2 := (w3 j (by omega)).1
    rw [s_X2_carry_10]
    unfold f_X2_carry_B10 f_X2_carry_J60
    rw [if_neg (by rw [im_le (by omega) (by omega)]; omega), im_let, nd j (by omega), im_holds hM (by omega), im_b01, im_mk_bit, im_let, nI_1, ih (j + 1) nn (by omega) (by omega), im_ab_s]
    by_cases q : im_al ρ (im_wn ρ i s j) = true
    · rw [if_pos (by rw [q, decide_eq_true m2]; rfl)]
      by_cases r : j = 0
      · subst r
        have hg : im_gd ρ i s 0 = true := by unfold im_gd; rw [q]; rfl
        rw [if_pos (by decide), hg, Bool.true_and]
      · have m1 := (w3 (j - 1) (by omega)).1
        have e1 : nI j - (1 : Int32) = nI (j - 1) := by rw [show (1 : Int32) = nI 1 from rfl, pk_sub (by omega)]
        have hlt := im_dl_lt hw (im_wn ρ i s (j - 1)) (im_wn ρ i s j)
        rw [if_neg (by rw [show (0 : Int32) = nI 0 from rfl, im_le (by omega) (by omega)]; omega), e1, nd (j - 1) (by omega), im_delayB hp hm (by omega) (by omega)]
        by_cases t : im_dl ρ (im_wn ρ i s (j - 1)) (im_wn ρ i s j) = 0
        · have hg : im_gd ρ i s j = false := by unfold im_gd; rw [q, t, decide_eq_false r]; rfl
          rw [t, if_pos (show nI 0 = (0 : Int32) from rfl), hg, Bool.false_and, if_neg (by decide)]
        · have hg : im_gd ρ i s j = true := by unfold im_gd; rw [q, decide_eq_true (show 0 < im_dl ρ (im_wn ρ i s (j - 1)) (im_wn ρ i s j) by omega), Bool.or_true]; rfl
          rw [if_neg (by rw [show (0 : Int32) = nI 0 from rfl, im_eq (by omega) (by omega)]; exact t), hg, Bool.true_and]
    · have q' : im_al ρ (im_wn ρ i s j) = false := by cases hq : im_al ρ (im_wn ρ i s j) with
        | false => rfl
        | true => exact absurd hq q
      have hg : im_gd ρ i s j = false := by unfold im_gd; rw [q']; rfl
      rw [if_neg (by rw [q', Bool.and_false]; decide), hg, Bool.false_and, if_neg (by decide)]
theorem im_carry {n : Nat} (hn : 4096 ≤ n) (hp : im_path c) (hc : iw_net c1) (hw : im_WF ρ) (h : im_NR σ c1 ρ) (hm : im_mx σ c ρ (im_tn (ρ 1))) {i s : Nat} (hi : i < im_tn (ρ 3)) (hs : s < im_tn (ρ 2)) : f_X2_carry n c c1 (nI (6 * i + s)) (nI (im_mk (im_al ρ) (im_tn (ρ 0)))) σ = some (if im_ww ρ i s = true then 1 else 0) := by
  obtain ⟨w1, w2, -⟩ := im_way_X hc hw h hi hs
  have el : f_X1_lengthOf c1 (nI (6 * i + s)) σ = nI (im_wlen ρ i s) := w2
  unfold f_X2_carry
  rw [im_let, el, show (0 : Int32) = nI 0 from rfl, im_carry_L hp hc hw h hm hi hs _ (im_wlen ρ i s) 0 n (by omega) (by omega)]
  unfold f_X2_carry_X66_10 im_ww
  by_cases q : im_wlen ρ i s = 0
  · rw [q, if_pos (show im_ab (im_gd ρ i s) 0 0 = true from rfl), if_pos (show nI 0 ≤ (0 : Int32) by decide)]
    rfl
  · rw [if_neg (show ¬ nI (im_wlen ρ i s) ≤ (0 : Int32) by rw [show (0 : Int32) = nI 0 from rfl, im_le (by omega) (by omega)]; omega), decide_eq_true (show 0 < im_wlen ρ i s by omega), Bool.true_and]
    by_cases r : im_ab (im_gd ρ i s) (im_wlen ρ i s) 0 = true
    · rw [if_pos r, if_pos r]
    · rw [if_neg r, if_neg r]
      rfl
theorem im_wW_L0 {n : Nat} (hw : im_WF (σ 85)) {i s : Nat} (hi : i < im_tn (σ 85 3)) (hs : s < im_tn (σ 85 2)) (k : Int32 → Option Int32) : ∀ (d j nn : Nat), j + d = im_wlen (σ 85) i s → d < nn → f_X6_isWholeWay_L18 n (nI i) (nI s) σ k nn 0 (nI j) = k 0 := by
  have g1 := (hw.2.2.2.2.2 i s hi hs).1
  have g := g1.1
  have hwa := im_WF_wa hw hi hs
  intro d
  induction d with
  | zero =>
    intro j nn h1 h2
    obtain ⟨nn, rfl⟩ : ∃ q, nn = q + 1 := ⟨nn - 1, by omega⟩
    unfold im_wlen at h1
    rw [s_X6_isWholeWay_18]
    unfold f_X6_isWholeWay_B18
    rw [im_lengthOf (by omega), im_bind, g1.2, if_pos (by rw [im_le (by omega) (by omega)]; omega)]
  | succ d ih =>
    intro j nn h1 h2
    obtain ⟨nn, rfl⟩ : ∃ q, nn = q + 1 := ⟨nn - 1, by omega⟩
    have h1' := h1
    unfold im_wlen at h1'
    rw [s_X6_isWholeWay_18]
    unfold f_X6_isWholeWay_B18 f_X6_isWholeWay_J85 f_X6_isWholeWay_J86
    rw [im_lengthOf (by omega), im_bind, g1.2, if_neg (by rw [im_le (by omega) (by omega)]; omega), if_pos rfl, im_let, nI_1, ih (j + 1) nn (by omega) (by omega)]
theorem im_wW_L1 {n : Nat} (hn : 4096 ≤ n) (hw : im_WF (σ 85)) {i s : Nat} (hi : i < im_tn (σ 85 3)) (hs : s < im_tn (σ 85 2)) (k : Int32 → Option Int32) : ∀ (d j nn : Nat), j + d = im_wlen (σ 85) i s → d < nn → f_X6_isWholeWay_L18 n (nI i) (nI s) σ k nn 1 (nI j) = k (if im_ab (im_gd (σ 85) i s) d j = true then 1 else 0) := by
  have b0 := hw.1.1.1
  have b1 := hw.1.2.1.1
  obtain ⟨g1, g2, -⟩ := hw.2.2.2.2.2 i s hi hs
  have g := g1.1
  have hwa := im_WF_wa hw hi hs
  intro d
  induction d with
  | zero =>
    intro j nn h1 h2
    obtain ⟨nn, rfl⟩ : ∃ q, nn = q + 1 := ⟨nn - 1, by omega⟩
    unfold im_wlen at h1
    rw [s_X6_isWholeWay_18]
    unfold f_X6_isWholeWay_B18
    rw [im_lengthOf (by omega), im_bind, g1.2, if_pos (by rw [im_le (by omega) (by omega)]; omega)]
    rfl
  | succ d ih =>
    intro j nn h1 h2
    obtain ⟨nn, rfl⟩ : ∃ q, nn = q + 1 := ⟨nn - 1, by omega⟩
    have h1' := h1
    unfold im_wlen at h1'
    have n2 := g2 j (by omega)
    have m2 := n2.1
    have z0 := im_wW_L0 (n := n) hw hi hs k d (j + 1) nn (by omega) (by omega)
    have z1 := ih (j + 1) nn (by omega) (by omega)
    rw [s_X6_isWholeWay_18]
    unfold f_X6_isWholeWay_B18 f_X6_isWholeWay_J85 f_X6_isWholeWay_J81 f_X6_isWholeWay_J86
    simp only [im_let]
    rw [im_lengthOf (by omega), im_bind, g1.2, if_neg (by rw [im_le (by omega) (by omega)]; omega), if_neg (by decide), im_nodeOf (by omega), im_bind, n2.2, im_isAlive (by omega), im_bind, nI_1, z0, z1, im_ab_s]
    by_cases q : 0 < σ 85 (12 + im_tn (σ 85 (im_wa i s + 1 + j)))
    · have q' : im_al (σ 85) (im_wn (σ 85) i s j) = true := decide_eq_true q
      rw [if_pos q, if_neg (by decide)]
      by_cases r : j = 0
      · subst r
        have hg : im_gd (σ 85) i s 0 = true := by unfold im_gd; rw [q']; rfl
        rw [if_pos (show nI 0 = (0 : Int32) from rfl), hg, Bool.true_and]
      · have n1 := g2 (j - 1) (by omega)
        have m1 := n1.1
        have e1 : nI j - (1 : Int32) = nI (j - 1) := by rw [show (1 : Int32) = nI 1 from rfl, pk_sub (by omega)]
        obtain ⟨B1, B2⟩ := im_linkOf hn hw (a := im_wn (σ 85) i s (j - 1)) (b := im_wn (σ 85) i s j) (by unfold im_wn; omega) (by unfold im_wn; omega)
        rw [if_neg (by rw [show (0 : Int32) = nI 0 from rfl, im_eq (by omega) (by omega)]; exact r), e1, im_nodeOf (by omega), im_bind, n1.2, im_bind]
        by_cases t : ∃ l, l < im_tn (σ 85 1) ∧ im_lkb (σ 85) l (im_wn (σ 85) i s (j - 1)) (im_wn (σ 85) i s j) = true
        · obtain ⟨l, t1, t2⟩ := t
          have t3 := im_lkb_iff.mp t2
          have B := B2 l t1 t3
          unfold im_wn at B
          have hg : im_gd (σ 85) i s j = true := by unfold im_gd; rw [q', decide_eq_true (im_dl_1 hw t1 t3).2.1, Bool.or_true]; rfl
          rw [B, im_bind, if_neg (fun z => by
            have z1 := congrArg Int32.toInt z
            rw [nI_toInt (by omega)] at z1
            rw [show (-1000 : Int32).toInt = -1000 from rfl] at z1
            omega), hg, Bool.true_and]
        · have t' : ∀ l, l < im_tn (σ 85 1) → ¬ im_lk (σ 85) l (im_wn (σ 85) i s (j - 1)) (im_wn (σ 85) i s j) := fun l h1 h2 => t ⟨l, h1, im_lkb_iff.mpr h2⟩
          have B := B1 t'
          unfold im_wn at B
          have hg : im_gd (σ 85) i s j = false := by unfold im_gd; rw [q', im_dl_0 t', decide_eq_false r]; rfl
          rw [B, im_bind, if_pos rfl, hg, Bool.false_and, if_neg (by decide)]
    · have q' : im_al (σ 85) (im_wn (σ 85) i s j) = false := decide_eq_false q
      have hg : im_gd (σ 85) i s j = false := by unfold im_gd; rw [q']; rfl
      rw [if_neg q, if_pos rfl, hg, Bool.false_and, if_neg (by decide)]
theorem im_isWholeWay {n : Nat} (hn : 4096 ≤ n) (hw : im_WF (σ 85)) {i s : Nat} (hi : i < im_tn (σ 85 3)) (hs : s < im_tn (σ 85 2)) : f_X6_isWholeWay n (nI i) (nI s) σ = some (if im_ww (σ 85) i s = true then 1 else 0) := by
  have g1 := (hw.2.2.2.2.2 i s hi hs).1
  have g := g1.1
  have hwa := im_WF_wa hw hi hs
  have gl : im_wlen (σ 85) i s < 11 := g
  unfold f_X6_isWholeWay f_X6_isWholeWay_J14
  rw [im_lengthOf (by omega), im_bind, show σ 85 (im_wa i s) = nI (im_wlen (σ 85) i s) from g1.2]
  unfold im_ww
  by_cases q : im_wlen (σ 85) i s = 0
  · have z := im_wW_L0 (n := n) hw hi hs f_X6_isWholeWay_X93_18 0 0 n (by omega) (by omega)
    rw [q, if_pos (by decide), show f_X6_isWholeWay_L18 n (nI i) (nI s) σ f_X6_isWholeWay_X93_18 n (0 : Int32) (0 : Int32) = f_X6_isWholeWay_L18 n (nI i) (nI s) σ f_X6_isWholeWay_X93_18 n (0 : Int32) (nI 0) from rfl, z]
    rfl
  · have z := im_wW_L1 (n := n) hn hw hi hs f_X6_isWholeWay_X93_18 (im_wlen (σ 85) i s) 0 n (by omega) (by omega)
    rw [if_neg (show ¬ nI (im_wlen (σ 85) i s) ≤ (0 : Int32) by rw [show (0 : Int32) = nI 0 from rfl, im_le (by omega) (by omega)]; omega), show f_X6_isWholeWay_L18 n (nI i) (nI s) σ f_X6_isWholeWay_X93_18 n (1 : Int32) (0 : Int32) = f_X6_isWholeWay_L18 n (nI i) (nI s) σ f_X6_isWholeWay_X93_18 n (1 : Int32) (nI 0) from rfl, z, decide_eq_true (show 0 < im_wlen (σ 85) i s by omega), Bool.true_and]
    by_cases r : im_ab (im_gd (σ 85) i s) (im_wlen (σ 85) i s) 0 = true
    · rw [if_pos r]; rfl
    · rw [if_neg r]; rfl
end
theorem sim_isWhole_ok (n : Nat) (hn : 4096 ≤ n) : sim_isWhole n im_RR := by
  intro p1 p2 σx σm h
  obtain ⟨hN, hW⟩ := im_0 h
  obtain ⟨-, -, ⟨S, S1, S2, S3, S4⟩, ⟨I, I1, I2, I3, I4⟩⟩ := im_cnt hN hW
  unfold f_X5_isWhole f_X6_isWhole
  rw [im_hasWay I1 S1 I4 S4, im_b01, im_isInterest p1 (by omega) I3, im_bind, im_b01]
  by_cases c : ∃ k, k < I ∧ p1 = nI k
  · rw [if_pos c, im_isSensor p2 (by omega) S3, im_bind, im_b01]
    by_cases d : ∃ k, k < S ∧ p2 = nI k
    · rw [if_pos d, if_pos ⟨c, d⟩]
      obtain ⟨i, hi, rfl⟩ := c
      obtain ⟨s, hs, rfl⟩ := d
      obtain ⟨σx', e1, e2, e3, e4⟩ := im_learn hn (Or.inl rfl : im_path 8) iw_net_20 (by decide) hW hN
      have hN' : im_NR σx' 20 (σm 85) := im_NR_congr hN (fun j j1 j2 => e4 _ (by omega) (by omega))
      rw [e1, im_bind, im_aliveNodes hn iw_net_20 hW hN', im_bind, im_wayOf, im_carry hn (Or.inl rfl : im_path 8) iw_net_20 hW hN' e2 (by omega) (by omega), im_bind, im_isWholeWay hn hW (by omega) (by omega), im_bind, im_b01, im_b01]
      have hR : im_RR σx' σm := im_upd h (fun b hb => e4 b (by omega) (by omega)) rfl rfl rfl (fun _ _ _ => rfl) (by rw [im_sl0]; exact hN') (by rw [im_sl0]; exact hW)
      by_cases q : im_ww (σm 85) i s = true
      · rw [if_pos q, if_pos q]
        exact ⟨_, _, _, rfl, ⟨rfl, rfl⟩, hR⟩
      · rw [if_neg q, if_neg q]
        exact ⟨_, _, _, rfl, ⟨rfl, rfl⟩, hR⟩
    · rw [if_neg d, if_neg (fun q => d q.2)]
      exact ⟨_, σx, σm, rfl, ⟨rfl, rfl⟩, h⟩
  · rw [if_neg c, if_neg (fun q => c q.1)]
    exact ⟨_, σx, σm, rfl, ⟨rfl, rfl⟩, h⟩
