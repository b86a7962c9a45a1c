/-! a piece taken out of a row -/
def im_sh (σ : iw_M) (a lo hi p : Nat) : iw_M := fun r => if r = a then (fun k => if lo ≤ k ∧ k < hi then σ a (k + p) else σ a k) else σ r
theorem im_sh_o {σ : iw_M} {a lo hi p r : Nat} (h : r ≠ a) : im_sh σ a lo hi p r = σ r := if_neg h
theorem im_sh_e {σ : iw_M} {a lo hi p k : Nat} : im_sh σ a lo hi p a k = if lo ≤ k ∧ k < hi then σ a (k + p) else σ a k := by
  unfold im_sh
  rw [if_pos rfl]
theorem im_sh_end {σ : iw_M} {a lo hi p : Nat} (h : hi ≤ lo) : im_sh σ a lo hi p = σ := by
  funext r
  unfold im_sh
  by_cases hr : r = a
  · subst hr
    rw [if_pos rfl]
    funext k
    rw [if_neg (by omega)]
  · rw [if_neg hr]
theorem im_sh_step {σ : iw_M} {a lo hi p : Nat} (h : lo < hi) (hp : 0 < p) : im_sh (iw_up σ a lo (σ a (lo + p))) a (lo + 1) hi p = im_sh σ a lo hi p := by
  funext r
  unfold im_sh
  by_cases hr : r = a
  · subst hr
    rw [if_pos rfl, if_pos rfl]
    funext k
    by_cases q : k = lo
    · subst q
      rw [if_neg (by omega), if_pos (by omega), im_ups]
    · by_cases q2 : lo ≤ k ∧ k < hi
      · rw [if_pos (by omega), if_pos q2, im_upn (by omega)]
      · rw [if_neg (by omega), if_neg q2, im_upn q]
  · rw [if_neg hr, if_neg hr, iw_up_ne hr]
theorem im_removePiece_L {a p : Nat} (hp : 0 < p) (hal : p ≤ iw_al a) (hal2 : iw_al a ≤ 1000) (k : iw_M → Option iw_M) : ∀ (d i nn : Nat) (σ : iw_M), i + d = iw_al a - p → d < nn → f_X5_removePiece_L4 a (nI p) k nn (nI i) σ = k (im_sh σ a i (iw_al a - p) p) := by
  intro d
  induction d with
  | zero =>
    intro i nn σ h1 h2
    obtain ⟨nn, rfl⟩ : ∃ q, nn = q + 1 := ⟨nn - 1, by omega⟩
    rw [s_X5_removePiece_4]
    unfold f_X5_removePiece_B4
    rw [pk_sub hal, if_pos (by rw [im_le (by omega) (by omega)]; omega), im_sh_end (by omega)]
  | succ d ih =>
    intro i nn σ h1 h2
    obtain ⟨nn, rfl⟩ : ∃ q, nn = q + 1 := ⟨nn - 1, by omega⟩
    rw [s_X5_removePiece_4]
    unfold f_X5_removePiece_B4
    rw [pk_sub hal, if_neg (by rw [im_le (by omega) (by omega)]; omega), im_let, im_let, nI_add, im_at (by omega), im_put (by omega), nI_1, ih (i + 1) nn _ (by omega) (by omega), im_sh_step (by omega) hp]
theorem im_removePiece {n : Nat} (hn : 4096 ≤ n) {a p i : Nat} (hp : 0 < p) (hal : p ≤ iw_al a) (hal2 : iw_al a ≤ 1000) (hi : i * p ≤ iw_al a - p) (σ : iw_M) : f_X5_removePiece n a (nI p) (nI i) σ = some (im_sh σ a (i * p) (iw_al a - p) p) := by
  unfold f_X5_removePiece
  rw [im_let, pk_mul, im_removePiece_L hp hal hal2 _ (iw_al a - p - i * p) (i * p) n σ (by omega) (by omega)]
  rfl
section
variable {σ : iw_M} {c : Nat}
theorem im_removeLink {n : Nat} (hn : 4096 ≤ n) (hc : iw_net c) {l L : Nat} (hl : l < L) (hL : L ≤ 20) (h1 : σ (c + 1) 1 = nI L) : f_X1_removeLink n c (nI l) σ = some (nI (L - 1), iw_up (im_sh σ (c + 3) (l * 3) 57 3) (c + 1) 1 (nI (L - 1))) := by
  have a1 := im_al_n c hc
  have e : im_sh σ (c + 3) (l * 3) (iw_al (c + 3) - 3) 3 (c + 1) 1 = nI L := by rw [im_sh_o (by omega)]; exact h1
  have em : nI L + -nI 1 = nI (L - 1) := by
    rw [← Int32.sub_eq_add_neg, pk_sub (by omega)]
  unfold f_X1_removeLink
  rw [show (3 : Int32) = nI 3 from rfl, im_removePiece hn (by decide) (by rw [a1.2.2.1]; decide) (by rw [a1.2.2.1]; decide) (by rw [a1.2.2.1]; omega), im_bind, im_let, show (1 : Int32) = nI 1 from rfl, im_inc (by rw [a1.1]; decide), e, em, im_at (by rw [a1.1]; decide), im_ups, a1.2.2.1]
theorem im_removeInterest {n : Nat} (hn : 4096 ≤ n) (hc : iw_net c) {i I : Nat} (hi : i < I) (hI : I ≤ 5) (h1 : σ (c + 1) 3 = nI I) : f_X1_removeInterest n c (nI i) σ = some (iw_up (im_sh (im_sh (im_sh σ (c + 5) (i * 7) 28 7) (c + 6) (i * 6) 24 6) (c + 7) (i * 60) 240 60) (c + 1) 3 (nI (I - 1))) := by
  have a1 := im_al_n c hc
  have e : im_sh (im_sh (im_sh σ (c + 5) (i * 7) 28 7) (c + 6) (i * 6) 24 6) (c + 7) (i * 60) 240 60 (c + 1) 3 = nI I := by rw [im_sh_o (by omega), im_sh_o (by omega), im_sh_o (by omega)]; exact h1
  have em : nI I + (-1 : Int32) = nI (I - 1) := by
    rw [show (-1 : Int32) = - (1 : Int32) from rfl, ← Int32.sub_eq_add_neg, show (1 : Int32) = nI 1 from rfl, pk_sub (by omega)]
  unfold f_X1_removeInterest
  rw [show (7 : Int32) = nI 7 from rfl, show (6 : Int32) = nI 6 from rfl, show (60 : Int32) = nI 60 from rfl, im_removePiece hn (by decide) (by rw [a1.2.2.2.2.1]; decide) (by rw [a1.2.2.2.2.1]; decide) (by rw [a1.2.2.2.2.1]; omega), im_bind, im_removePiece hn (by decide) (by rw [a1.2.2.2.2.2.1]; decide) (by rw [a1.2.2.2.2.2.1]; decide) (by rw [a1.2.2.2.2.2.1]; omega), im_bind, im_removePiece hn (by decide) (by rw [a1.2.2.2.2.2.2]; decide) (by rw [a1.2.2.2.2.2.2]; decide) (by rw [a1.2.2.2.2.2.2]; omega), im_bind, im_let, show (3 : Int32) = nI 3 from rfl, im_inc (by rw [a1.1]; decide), a1.2.2.2.2.1, a1.2.2.2.2.2.1, a1.2.2.2.2.2.2, e, em]
theorem im_cut_L {L : Nat} (hL : L ≤ 20) (k : iw_M → Option (Int32 × iw_M)) : ∀ (d i nn : Nat) (σ : iw_M), i + d = 3 * L → d < nn → σ 85 1 = nI L → f_X6_cut_L30 k nn (nI i) σ = k (im_sh σ 85 (22 + i) (22 + 3 * L) 3) := by
  intro d
  induction d with
  | zero =>
    intro i nn σ h1 h2 h3
    obtain ⟨nn, rfl⟩ : ∃ q, nn = q + 1 := ⟨nn - 1, by omega⟩
    rw [s_X6_cut_30]
    unfold f_X6_cut_B30
    rw [show (1 : Int32) = nI 1 from rfl, im_m_rd (by decide), im_bind, h3, im_lit 3, pk_mul, if_pos (by rw [im_le (by omega) (by omega)]; omega), im_sh_end (by omega)]
  | succ d ih =>
    intro i nn σ h1 h2 h3
    obtain ⟨nn, rfl⟩ : ∃ q, nn = q + 1 := ⟨nn - 1, by omega⟩
    rw [s_X6_cut_30]
    unfold f_X6_cut_B30
    rw [show (1 : Int32) = nI 1 from rfl, im_m_rd (by decide), im_bind, h3, im_lit 3, pk_mul, if_neg (by rw [im_le (by omega) (by omega)]; omega), im_lit 22, nI_add, nI_add, im_m_rd (by omega), im_bind, im_wr (by rw [im_al85]; omega), im_bind, im_let, nI_add, ih (i + 1) nn _ (by omega) (by omega) (by rw [im_upn (by omega)]; exact h3), Nat.add_assoc 22 i 1 |>.symm, im_sh_step (by omega) (by omega)]
theorem im_removes_L15 {I : Nat} (hI : I ≤ 5) (k : iw_M → Option iw_M) : ∀ (d i nn : Nat) (σ : iw_M), i + d = 7 * I → d < nn → σ 85 3 = nI I → f_X6_removes_L15 k nn (nI i) σ = k (im_sh σ 85 (100 + i) (100 + 7 * I) 7) := by
  intro d
  induction d with
  | zero =>
    intro i nn σ h1 h2 h3
    obtain ⟨nn, rfl⟩ : ∃ q, nn = q + 1 := ⟨nn - 1, by omega⟩
    rw [s_X6_removes_15]
    unfold f_X6_removes_B15
    rw [show (3 : Int32) = nI 3 from rfl, im_m_rd (by decide), im_bind, h3, im_lit 7, pk_mul, if_pos (by rw [im_le (by omega) (by omega)]; omega), im_sh_end (by omega)]
  | succ d ih =>
    intro i nn σ h1 h2 h3
    obtain ⟨nn, rfl⟩ : ∃ q, nn = q + 1 := ⟨nn - 1, by omega⟩
    rw [s_X6_removes_15]
    unfold f_X6_removes_B15
    rw [show (3 : Int32) = nI 3 from rfl, im_m_rd (by decide), im_bind, h3, im_lit 7, pk_mul, if_neg (by rw [im_le (by omega) (by omega)]; omega), im_lit 100, nI_add, nI_add, im_m_rd (by omega), im_bind, im_wr (by rw [im_al85]; omega), im_bind, im_let, nI_1, ih (i + 1) nn _ (by omega) (by omega) (by rw [im_upn (by omega)]; exact h3), Nat.add_assoc 100 i 1 |>.symm, im_sh_step (by omega) (by omega)]
theorem im_removes_L62 {I : Nat} (hI : I ≤ 5) (k : iw_M → Option iw_M) : ∀ (d i nn : Nat) (σ : iw_M), 135 ≤ i → i + d = 135 + 66 * I → d < nn → σ 85 3 = nI I → f_X6_removes_L62 k nn (nI i) σ = k (im_sh σ 85 i (135 + 66 * I) 66) := by
  have hw : f_X6_wayAt (nI I) (0 : Int32) = nI (135 + 66 * I) := by
    rw [show (0 : Int32) = nI 0 from rfl, im_wayAt]
    unfold im_wa
    congr 1
    omega
  intro d
  induction d with
  | zero =>
    intro i nn σ h0 h1 h2 h3
    obtain ⟨nn, rfl⟩ : ∃ q, nn = q + 1 := ⟨nn - 1, by omega⟩
    rw [s_X6_removes_62]
    unfold f_X6_removes_B62
    rw [show (3 : Int32) = nI 3 from rfl, im_m_rd (by decide), im_bind, h3, hw, if_pos (by rw [im_le (by omega) (by omega)]; omega), im_sh_end (by omega)]
  | succ d ih =>
    intro i nn σ h0 h1 h2 h3
    obtain ⟨nn, rfl⟩ : ∃ q, nn = q + 1 := ⟨nn - 1, by omega⟩
    rw [s_X6_removes_62]
    unfold f_X6_removes_B62
    rw [show (3 : Int32) = nI 3 from rfl, im_m_rd (by decide), im_bind, h3, hw, if_neg (by rw [im_le (by omega) (by omega)]; omega), im_lit 66, nI_add, im_m_rd (by omega), im_bind, im_wr (by rw [im_al85]; omega), im_bind, im_let, nI_1, ih (i + 1) nn _ (by omega) (by omega) (by omega) (by rw [im_upn (by omega)]; exact h3), im_sh_step (by omega) (by omega)]
theorem im_removes {n : Nat} (hn : 4096 ≤ n) {i I : Nat} (hi : i < I) (hI : I ≤ 5) (h1 : σ 85 3 = nI I) : f_X6_removes n (nI i) σ = some (im_sh (im_sh (iw_up σ 85 3 (nI (I - 1))) 85 (100 + 7 * i) (100 + 7 * (I - 1)) 7) 85 (135 + 66 * i) (135 + 66 * (I - 1)) 66) := by
  have hw : f_X6_wayAt (nI i) (0 : Int32) = nI (135 + 66 * i) := by
    rw [show (0 : Int32) = nI 0 from rfl, im_wayAt]
    unfold im_wa
    congr 1
    omega
  unfold f_X6_removes
  rw [show (3 : Int32) = nI 3 from rfl, im_m_rd (by decide), im_bind, h1, show (1 : Int32) = nI 1 from rfl, pk_sub (by omega), im_wr (by rw [im_al85]; decide), im_bind, im_let, im_lit 7, pk_mul, im_removes_L15 (show I - 1 ≤ 5 by omega) _ (7 * (I - 1) - 7 * i) _ n _ (by omega) (by omega) (by rw [im_ups])]
  unfold f_X6_removes_X55_15
  rw [im_let, hw, im_removes_L62 (show I - 1 ≤ 5 by omega) _ (66 * (I - 1) - 66 * i) _ n _ (by omega) (by omega) (by omega) (by rw [im_sh_e, if_neg (by omega), im_ups])]
  rfl
end
