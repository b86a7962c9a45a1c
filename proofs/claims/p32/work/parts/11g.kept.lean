/-! the class counts the links kept -/
theorem im_kept_L {n : Nat} (hn : 4096 ≤ n) {ρ : Nat → Int32} {σ : iw_M} (hw : im_WF ρ) (h : im_NR σ 28 ρ) {i s m : Nat} (hi : i < im_tn (ρ 3)) (hs : s < im_tn (ρ 2)) {p : Nat → Nat} (hm : m ≤ 10) (hp : ∀ k, k < m → p k < 10) (hl : im_ls σ 2 m p) (k : Int32 → Option Int32) : ∀ (d j nn v : Nat), 1 ≤ j → j + d = max 1 m → d < nn → f_X3_keptLinks_L5 n (nI (6 * i + s)) (nI m) σ k nn (nI v) (nI j) = k (nI (v + im_su (fun j => im_su (im_pm (im_wn ρ i s) (p (j - 1)) (p j)) (im_wlen ρ i s - 1) 1) d j)) := by
  have e2 : iw_al 2 = 10 := rfl
  intro d
  induction d with
  | zero =>
    intro j nn v j0 h1 h2
    obtain ⟨nn, rfl⟩ : ∃ q, nn = q + 1 := ⟨nn - 1, by omega⟩
    rw [s_X3_keptLinks_5]
    unfold f_X3_keptLinks_B5
    rw [if_pos (by rw [im_le (by omega) (by omega)]; omega)]
    rfl
  | succ d ih =>
    intro j nn v j0 h1 h2
    obtain ⟨nn, rfl⟩ : ∃ q, nn = q + 1 := ⟨nn - 1, by omega⟩
    have p1 := hp (j - 1) (by omega)
    have p2 := hp j (by omega)
    have e1 : nI j - (1 : Int32) = nI (j - 1) := by rw [show (1 : Int32) = nI 1 from rfl, pk_sub (by omega)]
    obtain ⟨g1, g2⟩ := im_overG hn iw_net_28 hw h hi hs (show p (j - 1) < 2 ^ 31 by omega) (show p j < 2 ^ 31 by omega)
    rw [s_X3_keptLinks_5]
    unfold f_X3_keptLinks_B5 f_X3_keptLinks_J45
    rw [if_neg (by rw [im_le (by omega) (by omega)]; omega), e1, im_at (by omega), im_at (by omega), hl (j - 1) (by omega), hl j (by omega), g2, im_bind, im_su_s]
    simp only [im_let]
    rw [nI_1, nI_1]
    by_cases z : im_su (im_pm (im_wn ρ i s) (p (j - 1)) (p j)) (im_wlen ρ i s - 1) 1 = 0
    · rw [z, if_pos (show nI 0 = (0 : Int32) from rfl), ih (j + 1) nn v (by omega) (by omega) (by omega), Nat.zero_add]
    · rw [show im_su (im_pm (im_wn ρ i s) (p (j - 1)) (p j)) (im_wlen ρ i s - 1) 1 = 1 by omega, if_neg (by decide), ih (j + 1) nn (v + 1) (by omega) (by omega) (by omega), Nat.add_assoc]
theorem im_kept {n : Nat} (hn : 4096 ≤ n) {ρ : Nat → Int32} {σ : iw_M} (hw : im_WF ρ) (h : im_NR σ 28 ρ) {i s m : Nat} (hi : i < im_tn (ρ 3)) (hs : s < im_tn (ρ 2)) {p : Nat → Nat} (hm : m ≤ 10) (hp : ∀ k, k < m → p k < 10) (hl : im_ls σ 2 m p) : f_X3_keptLinks n (nI (6 * i + s)) (nI m) σ = some (nI (im_kp (im_wn ρ i s) p (im_wlen ρ i s) m)) := by
  unfold f_X3_keptLinks
  rw [show f_X3_keptLinks_L5 n (nI (6 * i + s)) (nI m) σ f_X3_keptLinks_X51_5 n (0 : Int32) (1 : Int32) = f_X3_keptLinks_L5 n (nI (6 * i + s)) (nI m) σ f_X3_keptLinks_X51_5 n (nI 0) (nI 1) from rfl, im_kept_L hn hw h hi hs hm hp hl _ (m - 1) 1 n 0 (by omega) (by omega) (by omega), Nat.zero_add]
  rfl
