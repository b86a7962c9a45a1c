/-! the reference counts what is strengthened, and what is thinned -/
theorem im_up_self {σ : iw_M} {a k : Nat} : iw_up σ a k (σ a k) = σ := by
  funext r
  by_cases hr : r = a
  · subst hr
    funext j
    rw [im_up1]
    by_cases q : j = k
    · rw [if_pos q, q]
    · rw [if_neg q]
  · rw [iw_up_ne hr]
theorem im_up_up {σ : iw_M} {a k : Nat} {x y : Int32} : iw_up (iw_up σ a k x) a k y = iw_up σ a k y := by
  funext r
  by_cases hr : r = a
  · subst hr
    funext j
    by_cases q : j = k
    · rw [q, im_ups, im_ups]
    · rw [im_upn q, im_upn q, im_upn q]
  · rw [iw_up_ne hr, iw_up_ne hr, iw_up_ne hr]
/-- new links of way p beside way q -/
def im_nw (q p : Nat → Nat) (l d j : Nat) : Nat := im_su (fun j => 1 - im_su (im_pm q (p (j - 1)) (p j)) (l - 1) 1) d j
theorem im_str_L {n : Nat} (hn : 4096 ≤ n) {l m : Nat} {q p : Nat → Nat} (hlm : l ≤ 10 ∧ m ≤ 10) (hq : ∀ k, k < l → q k < 10) (hp : ∀ k, k < m → p k < 10) (kk : iw_M → Option iw_M) : ∀ (d j nn : Nat) (σ : iw_M), 1 ≤ j → j + d = max 1 m → d < nn → σ 84 6 = nI m → σ 84 8 = nI l → im_ls σ 90 l q → im_ls σ 89 m p → f_X6_explores_L108 n kk nn (nI j) σ = kk (iw_up σ 85 8 (σ 85 8 + nI (im_nw q p l d j))) := by
  have e89 : iw_al 89 = 10 := rfl
  intro d
  induction d with
  | zero =>
    intro j nn σ j0 h1 h2 h6 h8 hlq hlp
    obtain ⟨nn, rfl⟩ : ∃ q, nn = q + 1 := ⟨nn - 1, by omega⟩
    rw [s_X6_explores_108]
    unfold f_X6_explores_B108
    rw [h6, if_pos (by rw [im_le (by omega) (by omega)]; omega), show im_nw q p l 0 j = 0 from rfl, show nI 0 = (0 : Int32) from rfl, Int32.add_zero, im_up_self]
  | succ d ih =>
    intro j nn σ j0 h1 h2 h6 h8 hlq hlp
    obtain ⟨nn, rfl⟩ : ∃ q, nn = q + 1 := ⟨nn - 1, by omega⟩
    have p1 := hp (j - 1) (by omega)
    have p2 := hp j (by omega)
    have e1 : nI j - (1 : Int32) = nI (j - 1) := by rw [show (1 : Int32) = nI 1 from rfl, pk_sub (by omega)]
    have r8 : iw_rd σ 85 (8 : Int32) = some (σ 85 8) := im_m_rd (k := 8) (by decide)
    have w8 : ∀ x : Int32, iw_wr σ 85 (8 : Int32) x = some (iw_up σ 85 8 x) := fun x => im_wr (a := 85) (k := 8) (by rw [im_al85]; decide)
    have go : ∀ x : Nat, im_nw q p l (d + 1) j = x + im_nw q p l d (j + 1) → f_X6_explores_L108 n kk nn (nI (j + 1)) (iw_up σ 85 8 (σ 85 8 + nI x)) = kk (iw_up σ 85 8 (σ 85 8 + nI (im_nw q p l (d + 1) j))) := fun x hx => by
      rw [ih (j + 1) nn _ (by omega) (by omega) (by omega) (by rw [iw_up_ne (by decide)]; exact h6) (by rw [iw_up_ne (by decide)]; exact h8) (fun k hk => by rw [iw_up_ne (by decide)]; exact hlq k hk) (fun k hk => by rw [iw_up_ne (by decide)]; exact hlp k hk), im_ups, im_up_up, Int32.add_assoc, nI_add, hx]
    rw [s_X6_explores_108]
    unfold f_X6_explores_B108 f_X6_explores_J157
    rw [h6, if_neg (by rw [im_le (by omega) (by omega)]; omega), r8, im_bind, e1, im_rd (by omega), im_bind, im_rd (by omega), im_bind, hlp (j - 1) (by omega), hlp j (by omega), h8, im_overM hn rfl hlm.1 hq hlq (by omega) (by omega), im_bind, w8, w8, im_bind, im_bind, im_let, im_let, nI_1]
    by_cases z : im_su (im_pm q (p (j - 1)) (p j)) (l - 1) 1 = 0
    · rw [if_pos z, if_pos rfl]
      exact go 1 (by unfold im_nw; rw [im_su_s, z])
    · rw [if_neg z, if_neg (by decide)]
      exact go 0 (by unfold im_nw; rw [im_su_s, show 1 - im_su (im_pm q (p (j - 1)) (p j)) (l - 1) 1 = 0 by omega])
