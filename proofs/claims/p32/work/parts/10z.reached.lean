/-! all that are reached spend -/
def im_spN (p : Nat → Bool) : Nat → Nat → (Nat → Int32) → Nat → Int32
  | 0, _, ρ => ρ
  | d + 1, i, ρ => im_spN p d (i + 1) (if p i = true then im_sp ρ i 1 else ρ)
theorem im_spN_s (p : Nat → Bool) (d i : Nat) (ρ : Nat → Int32) : im_spN p (d + 1) i ρ = im_spN p d (i + 1) (if p i = true then im_sp ρ i 1 else ρ) := rfl
theorem im_spN_more {p : Nat → Bool} : ∀ (d e i : Nat) (ρ : Nat → Int32), (∀ v, i + d ≤ v → ¬ p v = true) → im_spN p (d + e) i ρ = im_spN p d i ρ := by
  intro d
  induction d with
  | zero =>
    intro e
    induction e with
    | zero => intro i ρ _; rfl
    | succ e ih =>
      intro i ρ h
      rw [show 0 + (e + 1) = (0 + e) + 1 by omega, im_spN_s, if_neg (h i (by omega)), ih (i + 1) ρ (fun v hv => h v (by omega))]
      rfl
  | succ d ih =>
    intro e i ρ h
    rw [show d + 1 + e = (d + e) + 1 by omega, im_spN_s, im_spN_s, ih e (i + 1) _ (fun v hv => h v (by omega))]
theorem im_spN_o {p : Nat → Bool} {k : Nat} (h1 : k ≠ 10) : ∀ (d i : Nat) (ρ : Nat → Int32), ¬ (12 + i ≤ k ∧ k < 12 + i + d) → im_spN p d i ρ k = ρ k := by
  intro d
  induction d with
  | zero => intro i ρ _; rfl
  | succ d ih =>
    intro i ρ h
    rw [im_spN_s, ih (i + 1) _ (by omega)]
    by_cases q : p i = true
    · rw [if_pos q, im_sp_o h1 (by omega)]
    · rw [if_neg q]
theorem im_spN_ru {p : Nat → Bool} {j : Nat} {x : Int32} (h1 : j ≠ 10) (h2 : j < 12) : ∀ (d i : Nat) (ρ : Nat → Int32), im_spN p d i (im_ru ρ j x) = im_ru (im_spN p d i ρ) j x := by
  intro d
  induction d with
  | zero => intro i ρ; rfl
  | succ d ih =>
    intro i ρ
    rw [im_spN_s, im_spN_s]
    by_cases q : p i = true
    · rw [if_pos q, if_pos q, im_sp_ru h1 (by omega), ih (i + 1)]
    · rw [if_neg q, if_neg q, ih (i + 1)]
theorem im_WF_spN {p : Nat → Bool} : ∀ (d i : Nat) (ρ : Nat → Int32), i + d ≤ 10 → im_WF ρ → im_WF (im_spN p d i ρ) := by
  intro d
  induction d with
  | zero => intro i ρ _ hw; exact hw
  | succ d ih =>
    intro i ρ h hw
    rw [im_spN_s]
    by_cases q : p i = true
    · rw [if_pos q]; exact ih (i + 1) _ (by omega) (im_WF_sp hw (by omega))
    · rw [if_neg q]; exact ih (i + 1) _ (by omega) hw
theorem im_reached_X {p : Nat → Bool} {M : Nat} (hM : M < 1024) (hp : ∀ v, v < 10 → M.testBit v = p v) (k : iw_M → Option iw_M) : ∀ (d i nn : Nat) (σ : iw_M) (ρ : Nat → Int32), i + d = 10 → d < nn → im_NR σ 28 ρ → (∀ v, p v = true → v < im_tn (ρ 0)) → ∃ σ', f_X3_exploreWay_L23 (nI M) k nn (nI i) σ = k σ' ∧ im_NR σ' 28 (im_spN p d i ρ) ∧ ∀ r, r ≠ 29 → r ≠ 30 → σ' r = σ r := by
  intro d
  induction d with
  | zero =>
    intro i nn σ ρ h1 h2 h hN
    obtain ⟨nn, rfl⟩ : ∃ q, nn = q + 1 := ⟨nn - 1, by omega⟩
    refine ⟨σ, ?_, h, fun _ _ _ => rfl⟩
    rw [s_X3_exploreWay_23]
    unfold f_X3_exploreWay_B23
    rw [if_pos (by rw [im_lit 10, im_le (by decide) (by omega)]; omega)]
  | succ d ih =>
    intro i nn σ ρ h1 h2 h hN
    obtain ⟨nn, rfl⟩ : ∃ q, nn = q + 1 := ⟨nn - 1, by omega⟩
    rw [s_X3_exploreWay_23]
    unfold f_X3_exploreWay_B23 f_X3_exploreWay_J50
    rw [if_neg (by rw [im_lit 10, im_le (by decide) (by omega)]; omega), im_holds hM (by omega), hp i (by omega), im_b01, im_let, im_let, im_let, nI_1, im_spN_s]
    by_cases q : p i = true
    · rw [if_pos q, if_pos q]
      have hc : iw_net 28 := iw_net_28
      obtain ⟨a1, a2⟩ := im_spend hc h (hN i q) (show i < 10 by omega) 1
      obtain ⟨σ', x1, x2, x3⟩ := ih (i + 1) nn _ _ (by omega) (by omega) a1 (fun v hv => by rw [im_sp_o (by omega) (by omega)]; exact hN v hv)
      exact ⟨σ', x1, x2, fun r r1 r2 => (x3 r r1 r2).trans (a2 r r1 r2)⟩
    · rw [if_neg q, if_neg q]
      exact ih (i + 1) nn σ ρ (by omega) (by omega) h hN
theorem im_reached_M {T : Nat → Nat} (hT : ∀ v, T v ≤ 1000000) (k : iw_M → Option iw_M) {N : Nat} (hN : N ≤ 10) : ∀ (d i nn : Nat) (σ : iw_M), i + d = N → d < nn → σ 85 0 = nI N → im_T86 σ T → ∃ σ', f_X6_explores_L33 k nn (nI i) σ = k σ' ∧ σ' 85 = im_spN (fun v => decide (T v < 1000000)) d i (σ 85) ∧ ∀ r, r ≠ 85 → σ' r = σ r := by
  have e86 : iw_al 86 = 10 := rfl
  intro d
  induction d with
  | zero =>
    intro i nn σ h1 h2 h0 h
    obtain ⟨nn, rfl⟩ : ∃ q, nn = q + 1 := ⟨nn - 1, by omega⟩
    refine ⟨σ, ?_, rfl, fun _ _ => rfl⟩
    rw [s_X6_explores_33]
    unfold f_X6_explores_B33
    rw [show iw_rd σ 85 (0 : Int32) = iw_rd σ 85 (nI 0) from rfl, im_m_rd (by decide), im_bind, h0, if_pos (by rw [im_le (by omega) (by omega)]; omega)]
  | succ d ih =>
    intro i nn σ h1 h2 h0 h
    obtain ⟨nn, rfl⟩ : ∃ q, nn = q + 1 := ⟨nn - 1, by omega⟩
    have ti := hT i
    rw [s_X6_explores_33]
    unfold f_X6_explores_B33 f_X6_explores_J61
    rw [show iw_rd σ 85 (0 : Int32) = iw_rd σ 85 (nI 0) from rfl, im_m_rd (by decide), im_bind, h0, if_neg (by rw [im_le (by omega) (by omega)]; omega), im_rd (by omega), im_bind, h i (by omega), im_spN_s]
    simp only [im_let]
    rw [nI_1]
    by_cases q : T i = 1000000
    · rw [if_pos q, if_pos rfl, if_neg (show ¬ decide (T i < 1000000) = true by rw [decide_eq_true_iff]; omega)]
      exact ih (i + 1) nn σ (by omega) (by omega) h0 h
    · rw [if_neg q, if_neg (im_neN (by omega)), if_pos (show decide (T i < 1000000) = true from decide_eq_true (by omega))]
      obtain ⟨σ1, y1, y2, y3⟩ := im_spends (σ := σ) (show i < 10 by omega) 1
      obtain ⟨σ', x1, x2, x3⟩ := ih (i + 1) nn σ1 (by omega) (by omega) (by rw [y2, im_sp_o (by omega) (by omega)]; exact h0) (fun v hv => by rw [y3 86 (by decide)]; exact h v hv)
      refine ⟨σ', ?_, by rw [x2, y2], fun r hr => (x3 r hr).trans (y3 r hr)⟩
      rw [y1, im_bind]
      exact x1
