/-! the reference counts what is thinned -/
theorem im_thi_L {n : Nat} (hn : 4096 ≤ n) {l m : Nat} {q p : Nat → Nat} (hlm : l ≤ 10 ∧ m ≤ 10) (hq : ∀ k, k < l → q k < 10) (hp : ∀ k, k < m → p k < 10) (kk : iw_M → Option iw_M) : ∀ (d j nn : Nat) (σ : iw_M), 1 ≤ j → j + d = max 1 m → d < nn → σ 84 6 = nI l → σ 84 8 = nI m → im_ls σ 89 l q → im_ls σ 90 m p → f_X6_explores_L167 n kk nn (nI j) σ = kk (iw_up σ 85 9 (σ 85 9 + nI (im_nw q p l d j))) := by
  have e90 : iw_al 90 = 10 := rfl
  intro d
  induction d with
  | zero =>
    intro j nn σ j0 h1 h2 h6 h8 hlq hlp
    obtain ⟨nn, rfl⟩ : ∃ q, nn = q + 1 := ⟨nn - 1, by omega⟩
    rw [s_X6_explores_167]
    unfold f_X6_explores_B167
    rw [h8, if_pos (by rw [im_le (by omega) (by omega)]; omega), show im_nw q p l 0 j = 0 from rfl, show nI 0 = (0 : Int32) from rfl, Int32.add_zero, im_up_self]
  | succ d ih =>
    intro j nn σ j0 h1 h2 h6 h8 hlq hlp
    obtain ⟨nn, rfl⟩ : ∃ q, nn = q + 1 := ⟨nn - 1, by omega⟩
    have p1 := hp (j - 1) (by omega)
    have p2 := hp j (by omega)
    have e1 : nI j - (1 : Int32) = nI (j - 1) := by rw [show (1 : Int32) = nI 1 from rfl, pk_sub (by omega)]
    have r9 : iw_rd σ 85 (9 : Int32) = some (σ 85 9) := im_m_rd (k := 9) (by decide)
    have w9 : ∀ x : Int32, iw_wr σ 85 (9 : Int32) x = some (iw_up σ 85 9 x) := fun x => im_wr (a := 85) (k := 9) (by rw [im_al85]; decide)
    have go : ∀ x : Nat, im_nw q p l (d + 1) j = x + im_nw q p l d (j + 1) → f_X6_explores_L167 n kk nn (nI (j + 1)) (iw_up σ 85 9 (σ 85 9 + nI x)) = kk (iw_up σ 85 9 (σ 85 9 + nI (im_nw q p l (d + 1) j))) := fun x hx => by
      rw [ih (j + 1) nn _ (by omega) (by omega) (by omega) (by rw [iw_up_ne (by decide)]; exact h6) (by rw [iw_up_ne (by decide)]; exact h8) (fun k hk => by rw [iw_up_ne (by decide)]; exact hlq k hk) (fun k hk => by rw [iw_up_ne (by decide)]; exact hlp k hk), im_ups, im_up_up, Int32.add_assoc, nI_add, hx]
    rw [s_X6_explores_167]
    unfold f_X6_explores_B167 f_X6_explores_J216
    rw [h8, if_neg (by rw [im_le (by omega) (by omega)]; omega), r9, im_bind, e1, im_rd (by omega), im_bind, im_rd (by omega), im_bind, hlp (j - 1) (by omega), hlp j (by omega), h6, im_overM hn rfl hlm.1 hq hlq (by omega) (by omega), im_bind, w9, w9, im_bind, im_bind, im_let, im_let, nI_1]
    by_cases z : im_su (im_pm q (p (j - 1)) (p j)) (l - 1) 1 = 0
    · rw [if_pos z, if_pos rfl]
      exact go 1 (by unfold im_nw; rw [im_su_s, z])
    · rw [if_neg z, if_neg (by decide)]
      exact go 0 (by unfold im_nw; rw [im_su_s, show 1 - im_su (im_pm q (p (j - 1)) (p j)) (l - 1) 1 = 0 by omega])
