/-! the nodes alive, as a mask and as a number -/
def im_mk (al : Nat → Bool) : Nat → Nat
  | 0 => 0
  | k + 1 => if al k = true then im_mk al k ||| 2 ^ k else im_mk al k
def im_cn (al : Nat → Bool) : Nat → Nat
  | 0 => 0
  | k + 1 => im_cn al k + if al k = true then 1 else 0
theorem im_mk_s (al : Nat → Bool) (k : Nat) : im_mk al (k + 1) = if al k = true then im_mk al k ||| 2 ^ k else im_mk al k := rfl
theorem im_cn_s (al : Nat → Bool) (k : Nat) : im_cn al (k + 1) = im_cn al k + if al k = true then 1 else 0 := rfl
theorem im_mk_lt (al : Nat → Bool) (k : Nat) : im_mk al k < 2 ^ k := by
  induction k with
  | zero => exact (by decide : 0 < 2 ^ 0)
  | succ k ih =>
    have h1 : (2 : Nat) ^ k < 2 ^ (k + 1) := by rw [Nat.pow_succ]; omega
    unfold im_mk
    split
    · exact Nat.or_lt_two_pow (Nat.lt_trans ih h1) h1
    · exact Nat.lt_trans ih h1
theorem im_mk_bit (al : Nat → Bool) (k j : Nat) : (im_mk al k).testBit j = (decide (j < k) && al j) := by
  induction k with
  | zero =>
    show (0 : Nat).testBit j = _
    rw [Nat.zero_testBit]
    simp
  | succ k ih =>
    unfold im_mk
    by_cases e : al k = true
    · rw [if_pos e, Nat.testBit_or, ih, Nat.testBit_two_pow]
      by_cases q : k = j
      · subst q; simp [e]
      · have : (decide (j < k + 1)) = decide (j < k) := by
          by_cases z : j < k
          · simp [z, Nat.lt_succ_of_lt z]
          · have : ¬ j < k + 1 := by omega
            simp [z, this]
        rw [this]; simp [q]
    · rw [if_neg e, ih]
      by_cases q : k = j
      · subst q; simp [e]
      · have : (decide (j < k + 1)) = decide (j < k) := by
          by_cases z : j < k
          · simp [z, Nat.lt_succ_of_lt z]
          · have : ¬ j < k + 1 := by omega
            simp [z, this]
        rw [this]
theorem im_cn_le (al : Nat → Bool) (k : Nat) : im_cn al k ≤ k := by
  induction k with
  | zero => exact Nat.le_refl _
  | succ k ih =>
    unfold im_cn
    split <;> omega
def im_bt (M j : Nat) : Nat := if M.testBit j = true then 1 else 0
def im_pc (M : Nat) : Nat := im_bt M 0 + im_bt M 1 + im_bt M 2 + im_bt M 3 + im_bt M 4 + im_bt M 5 + im_bt M 6 + im_bt M 7 + im_bt M 8 + im_bt M 9
theorem im_bits : ∀ M : Fin 1024, f_J6_bitCount_0f7a4 (nI M.val) = nI (im_pc M.val) := by decide +kernel
theorem im_lor : ∀ M : Fin 1024, ∀ j : Fin 10, nI M.val ||| ((1 : Int32) <<< (nI j.val &&& 31)) = nI (M.val ||| 2 ^ j.val) := by decide +kernel
theorem im_shr : ∀ M : Fin 1024, ∀ j : Fin 10, ((nI M.val) >>> (nI j.val &&& 31)) &&& (1 : Int32) = nI (im_bt M.val j.val) := by decide +kernel
theorem im_pc_mk (al : Nat → Bool) {k : Nat} (h : k ≤ 10) : im_pc (im_mk al k) = im_cn al k := by
  unfold im_pc im_bt
  rw [im_mk_bit, im_mk_bit, im_mk_bit, im_mk_bit, im_mk_bit, im_mk_bit, im_mk_bit, im_mk_bit, im_mk_bit, im_mk_bit]
  rcases (show k = 0 ∨ k = 1 ∨ k = 2 ∨ k = 3 ∨ k = 4 ∨ k = 5 ∨ k = 6 ∨ k = 7 ∨ k = 8 ∨ k = 9 ∨ k = 10 by omega) with rfl | rfl | rfl | rfl | rfl | rfl | rfl | rfl | rfl | rfl | rfl <;> simp [im_cn]
theorem im_mk_1024 (al : Nat → Bool) {k : Nat} (h : k ≤ 10) : im_mk al k < 1024 := Nat.lt_of_lt_of_le (im_mk_lt al k) (Nat.pow_le_pow_right (by decide) h)
def im_al (ρ : Nat → Int32) (i : Nat) : Bool := decide (0 < ρ (12 + i))
section
variable {σ : iw_M} {c : Nat} {ρ : Nat → Int32}
theorem im_alive_L (hc : iw_net c) (hw : im_WF ρ) (h : im_NR σ c ρ) (k : Int32 → Option Int32) : ∀ (d i nn : Nat), i + d = im_tn (ρ 0) → d < nn → f_X1_aliveNodes_L4 c σ k nn (nI (im_mk (im_al ρ) i)) (nI i) = k (nI (im_mk (im_al ρ) (im_tn (ρ 0)))) := by
  have b0 := hw.1.1
  intro d
  induction d with
  | zero =>
    intro i nn h1 h2
    obtain ⟨nn, rfl⟩ : ∃ q, nn = q + 1 := ⟨nn - 1, by omega⟩
    rw [s_X1_aliveNodes_4]
    unfold f_X1_aliveNodes_B4
    have e : f_X5_at (c + 1) (0 : Int32) σ = ρ 0 := (im_at (k := 0) (by rw [(im_al_n c hc).1]; decide)).trans (h.1 0 (by decide) (by decide))
    have e1 : i = im_tn (ρ 0) := by omega
    rw [e, if_pos (by rw [b0.2, e1, im_le (by have := b0.1; omega) (by have := b0.1; omega)]; exact Nat.le_refl _), e1]
  | succ d ih =>
    intro i nn h1 h2
    obtain ⟨nn, rfl⟩ : ∃ q, nn = q + 1 := ⟨nn - 1, by omega⟩
    have b := b0.1
    rw [s_X1_aliveNodes_4]
    unfold f_X1_aliveNodes_B4
    have e : f_X5_at (c + 1) (0 : Int32) σ = ρ 0 := (im_at (k := 0) (by rw [(im_al_n c hc).1]; decide)).trans (h.1 0 (by decide) (by decide))
    rw [e, if_neg (by rw [b0.2, im_le (by omega) (by omega)]; omega), im_at (by rw [(im_al_n c hc).2.1]; omega), h.2.1 i (by omega)]
    have ih' := ih (i + 1) nn (by omega) (by omega)
    rw [im_mk_s] at ih'
    unfold f_X1_aliveNodes_J33
    simp only [im_let]
    rw [nI_1]
    by_cases z : ρ (12 + i) ≤ 0
    · have z1 : ¬ im_al ρ i = true := by
        unfold im_al
        rw [decide_eq_true_iff]
        exact Int32.not_lt.mpr z
      rw [if_neg z1] at ih'
      rw [if_pos z]
      exact ih'
    · have z1 : im_al ρ i = true := by
        unfold im_al
        rw [decide_eq_true_iff]
        exact Int32.not_le.mp z
      rw [if_pos z1] at ih'
      rw [if_neg z, im_lor ⟨im_mk (im_al ρ) i, im_mk_1024 _ (by omega)⟩ ⟨i, by omega⟩]
      exact ih'
theorem im_aliveNodes {n : Nat} (hn : 4096 ≤ n) (hc : iw_net c) (hw : im_WF ρ) (h : im_NR σ c ρ) : f_X1_aliveNodes n c σ = some (nI (im_mk (im_al ρ) (im_tn (ρ 0)))) := by
  have b0 := hw.1.1.1
  exact im_alive_L hc hw h _ (im_tn (ρ 0)) 0 n (by omega) (by omega)
theorem im_num6 {n : Nat} (hn : 4096 ≤ n) (hc : iw_net c) (hw : im_WF ρ) (h : im_NR σ c ρ) : f_X1_number n c (6 : Int32) σ = some (nI (im_cn (im_al ρ) (im_tn (ρ 0)))) := by
  have b0 := hw.1.1.1
  unfold f_X1_number
  rw [if_pos rfl, im_aliveNodes hn hc hw h, im_bind, im_bits ⟨_, im_mk_1024 _ (Nat.le_of_lt_succ b0)⟩, im_pc_mk _ (Nat.le_of_lt_succ b0)]
theorem im_living_L (hw : im_WF (σ 85)) (k : Int32 → Option Int32) : ∀ (d i nn : Nat), i + d = im_tn (σ 85 0) → d < nn → f_X6_living_L4 σ k nn (nI (im_cn (im_al (σ 85)) i)) (nI i) = k (nI (im_cn (im_al (σ 85)) (im_tn (σ 85 0)))) := by
  have b0 := hw.1.1
  have r0 : iw_rd σ 85 (0 : Int32) = some (nI (im_tn (σ 85 0))) := (im_m_rd (k := 0) (by decide)).trans (congrArg some b0.2)
  intro d
  induction d with
  | zero =>
    intro i nn h1 h2
    obtain ⟨nn, rfl⟩ : ∃ q, nn = q + 1 := ⟨nn - 1, by omega⟩
    have b := b0.1
    rw [s_X6_living_4]
    unfold f_X6_living_B4
    have e1 : i = im_tn (σ 85 0) := by omega
    rw [r0, im_bind, if_pos (by rw [e1, im_le (by omega) (by omega)]; exact Nat.le_refl _), e1]
  | succ d ih =>
    intro i nn h1 h2
    obtain ⟨nn, rfl⟩ : ∃ q, nn = q + 1 := ⟨nn - 1, by omega⟩
    have b := b0.1
    rw [s_X6_living_4]
    unfold f_X6_living_B4
    rw [r0, im_bind, if_neg (by rw [im_le (by omega) (by omega)]; omega), im_isAlive (by omega), im_bind]
    have ih' := ih (i + 1) nn (by omega) (by omega)
    rw [im_cn_s] at ih'
    unfold f_X6_living_J28
    simp only [im_let]
    rw [nI_1]
    by_cases z : 0 < σ 85 (12 + i)
    · have z1 : im_al (σ 85) i = true := by
        unfold im_al
        rw [decide_eq_true_iff]
        exact z
      rw [if_pos z1] at ih'
      rw [if_pos z, if_neg (by decide), nI_1]
      exact ih'
    · have z1 : ¬ im_al (σ 85) i = true := by
        unfold im_al
        rw [decide_eq_true_iff]
        exact z
      rw [if_neg z1] at ih'
      rw [if_neg z, if_pos rfl, Int32.add_zero]
      exact ih'
theorem im_living {n : Nat} (hn : 4096 ≤ n) (hw : im_WF (σ 85)) : f_X6_living n σ = some (nI (im_cn (im_al (σ 85)) (im_tn (σ 85 0)))) := by
  have b0 := hw.1.1.1
  exact im_living_L hw _ (im_tn (σ 85 0)) 0 n (by omega) (by omega)
def im_wl (ρ : Nat → Int32) (i s : Nat) : Bool := decide (0 < ρ (im_wa i s))
theorem im_waysOf_L (hc : iw_net c) (hw : im_WF ρ) (h : im_NR σ c ρ) {I : Nat} (hI : I < im_tn (ρ 3)) (k : Int32 → Option Int32) : ∀ (d i nn : Nat), i + d = im_tn (ρ 2) → d < nn → f_X1_waysOf_L4 c (nI I) σ k nn (nI (im_cn (im_wl ρ I) i)) (nI i) = k (nI (im_cn (im_wl ρ I) (im_tn (ρ 2)))) := by
  have b0 := hw.1.2.2.1
  have b3 := hw.1.2.2.2.1
  have e : f_X5_at (c + 1) (2 : Int32) σ = nI (im_tn (ρ 2)) := ((im_at (k := 2) (by rw [(im_al_n c hc).1]; decide)).trans (h.1 2 (by decide) (by decide))).trans b0.2
  intro d
  induction d with
  | zero =>
    intro i nn h1 h2
    obtain ⟨nn, rfl⟩ : ∃ q, nn = q + 1 := ⟨nn - 1, by omega⟩
    have b := b0.1
    rw [s_X1_waysOf_4]
    unfold f_X1_waysOf_B4
    have e1 : i = im_tn (ρ 2) := by omega
    rw [e, if_pos (by rw [e1, im_le (by omega) (by omega)]; exact Nat.le_refl _), e1]
  | succ d ih =>
    intro i nn h1 h2
    obtain ⟨nn, rfl⟩ : ∃ q, nn = q + 1 := ⟨nn - 1, by omega⟩
    have b := b0.1
    have b' := b3.1
    rw [s_X1_waysOf_4]
    unfold f_X1_waysOf_B4
    rw [e, if_neg (by rw [im_le (by omega) (by omega)]; omega), im_wayOf, im_at (by rw [(im_al_n c hc).2.2.2.2.2.1]; omega), (h.2.2.2.2.2.1 I i hI (by omega)).1]
    have ih' := ih (i + 1) nn (by omega) (by omega)
    rw [im_cn_s] at ih'
    unfold f_X1_waysOf_J34
    simp only [im_let]
    rw [nI_1]
    by_cases z : ρ (im_wa I i) ≤ 0
    · have z1 : ¬ im_wl ρ I i = true := by
        unfold im_wl
        rw [decide_eq_true_iff]
        exact Int32.not_lt.mpr z
      rw [if_neg z1] at ih'
      rw [if_pos z]
      exact ih'
    · have z1 : im_wl ρ I i = true := by
        unfold im_wl
        rw [decide_eq_true_iff]
        exact Int32.not_le.mp z
      rw [if_pos z1] at ih'
      rw [if_neg z, nI_1]
      exact ih'
theorem im_waysOf {n : Nat} (hn : 4096 ≤ n) (hc : iw_net c) (hw : im_WF ρ) (h : im_NR σ c ρ) {I : Nat} (hI : I < im_tn (ρ 3)) : f_X1_waysOf n c (nI I) σ = some (nI (im_cn (im_wl ρ I) (im_tn (ρ 2)))) := by
  have b0 := hw.1.2.2.1.1
  exact im_waysOf_L hc hw h hI _ (im_tn (ρ 2)) 0 n (by omega) (by omega)
theorem im_part_L (hw : im_WF (σ 85)) {I : Nat} (hI : I < im_tn (σ 85 3)) (k : Int32 → Option Int32) : ∀ (d i nn : Nat), i + d = im_tn (σ 85 2) → d < nn → f_X6_part_L18 (nI I) σ k nn (nI (im_cn (im_wl (σ 85) I) i)) (nI i) = k (nI (im_cn (im_wl (σ 85) I) (im_tn (σ 85 2)))) := by
  have b0 := hw.1.2.2.1
  have b3 := hw.1.2.2.2.1
  have r0 : iw_rd σ 85 (2 : Int32) = some (nI (im_tn (σ 85 2))) := (im_m_rd (k := 2) (by decide)).trans (congrArg some b0.2)
  intro d
  induction d with
  | zero =>
    intro i nn h1 h2
    obtain ⟨nn, rfl⟩ : ∃ q, nn = q + 1 := ⟨nn - 1, by omega⟩
    have b := b0.1
    rw [s_X6_part_18]
    unfold f_X6_part_B18
    have e1 : i = im_tn (σ 85 2) := by omega
    rw [r0, im_bind, if_pos (by rw [e1, im_le (by omega) (by omega)]; exact Nat.le_refl _), e1]
  | succ d ih =>
    intro i nn h1 h2
    obtain ⟨nn, rfl⟩ : ∃ q, nn = q + 1 := ⟨nn - 1, by omega⟩
    have b := b0.1
    have b' := b3.1
    have hwa := im_WF_wa hw hI (show i < im_tn (σ 85 2) by omega)
    rw [s_X6_part_18]
    unfold f_X6_part_B18
    rw [r0, im_bind, if_neg (by rw [im_le (by omega) (by omega)]; omega), im_lengthOf (by omega), im_bind]
    have ih' := ih (i + 1) nn (by omega) (by omega)
    rw [im_cn_s] at ih'
    unfold f_X6_part_J45
    simp only [im_let]
    rw [nI_1]
    by_cases z : σ 85 (im_wa I i) ≤ 0
    · have z1 : ¬ im_wl (σ 85) I i = true := by
        unfold im_wl
        rw [decide_eq_true_iff]
        exact Int32.not_lt.mpr z
      rw [if_neg z1] at ih'
      rw [if_pos z, Int32.add_zero]
      exact ih'
    · have z1 : im_wl (σ 85) I i = true := by
        unfold im_wl
        rw [decide_eq_true_iff]
        exact Int32.not_le.mp z
      rw [if_pos z1] at ih'
      rw [if_neg z, nI_1]
      exact ih'
end
theorem sim_count_ok (n : Nat) (hn : 4096 ≤ n) : sim_count n im_RR := by
  intro p1 σx σm h
  obtain ⟨hN, hW⟩ := im_0 h
  unfold f_X5_count f_X6_count
  rw [im_within, im_in, im_b01, im_b01]
  by_cases d : 0 ≤ p1 ∧ p1 ≤ 11
  · rw [if_pos d, if_pos d]
    obtain ⟨w, w1, rfl⟩ := im_rng 11 rfl (by decide) d
    by_cases e : w = 6
    · subst e
      rw [if_pos (show nI 6 = (6 : Int32) from rfl), show f_X1_number n 20 (nI 6) σx = f_X1_number n 20 6 σx from rfl, im_num6 hn iw_net_20 hW hN, im_bind, im_living hn hW, im_bind]
      exact ⟨_, _, _, ⟨rfl, rfl⟩, ⟨rfl, rfl⟩, h⟩
    · rw [if_neg (by rw [im_lit 6, im_eq (by omega) (by decide)]; exact e), im_num n iw_net_20 (by omega) e, im_bind, im_m_rd (by omega), im_bind, hN.1 w (by omega) e]
      exact ⟨_, _, _, ⟨rfl, rfl⟩, ⟨rfl, rfl⟩, h⟩
  · rw [if_neg d, if_neg d]
    exact ⟨_, _, _, ⟨rfl, rfl⟩, ⟨rfl, rfl⟩, h⟩
theorem sim_interest_ok (n : Nat) (hn : 4096 ≤ n) : sim_interest n im_RR := by
  intro p1 p2 σx σm h
  obtain ⟨hN, hW⟩ := im_0 h
  obtain ⟨-, -, -, ⟨I, I1, I2, I3, I4⟩⟩ := im_cnt hN hW
  have b0 := hW.1.2.2.1.1
  unfold f_X5_interest f_X6_interest
  rw [show f_X1_has 20 (3 : Int32) p1 σx = f_X1_has 20 (nI 3) p1 σx from rfl, im_has iw_net_20 (by decide) (by omega) p1 I4, im_isInterest p1 (by omega) I3, im_bind, im_b01, im_b01, im_within, im_in, im_b01, im_b01]
  by_cases c : ∃ k, k < I ∧ p1 = nI k
  · rw [if_pos c, if_pos c]
    by_cases d : 0 ≤ p2 ∧ p2 ≤ 7
    · rw [if_pos d, if_pos d]
      obtain ⟨k, hk, rfl⟩ := c
      obtain ⟨w, w1, rfl⟩ := im_rng 7 rfl (by decide) d
      by_cases e : w = 7
      · subst e
        unfold f_X1_interestPart f_X6_part
        rw [if_pos (show nI 7 = (7 : Int32) from rfl), im_waysOf hn iw_net_20 hW hN (by omega), im_bind, im_bind, if_pos (by decide), show f_X6_part_L18 (nI k) σm f_X6_part_X53_18 n (0 : Int32) (0 : Int32) = f_X6_part_L18 (nI k) σm f_X6_part_X53_18 n (nI (im_cn (im_wl (σm 85) k) 0)) (nI 0) from rfl, im_part_L hW (by omega) _ (im_tn (σm 85 2)) 0 n (by omega) (by omega)]
        exact ⟨_, _, _, ⟨rfl, rfl⟩, ⟨rfl, rfl⟩, h⟩
      · unfold f_X6_part
        rw [im_intPart n iw_net_20 (by omega) (by omega), im_bind, if_neg (by rw [im_lit 7, im_le (by decide) (by omega)]; omega), im_ofInterest (by omega), im_bind, im_bind, hN.2.2.2.2.1 _ (by omega), Nat.add_assoc]
        exact ⟨_, _, _, ⟨rfl, rfl⟩, ⟨rfl, rfl⟩, h⟩
    · rw [if_neg d, if_neg d]
      exact ⟨_, _, _, ⟨rfl, rfl⟩, ⟨rfl, rfl⟩, h⟩
  · rw [if_neg c, if_neg c]
    exact ⟨_, _, _, ⟨rfl, rfl⟩, ⟨rfl, rfl⟩, h⟩
