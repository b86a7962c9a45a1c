/-! a node, a link, a sensor is added on both sides, to the class's net c -/
section
variable {σx σm : iw_M} {c : Nat}
theorem im_addN (hc : iw_net c) (hw : im_WF (σm 85)) (h : im_NR σx c (σm 85)) {N : Nat} (hN : im_tn (σm 85 0) = N) (h10 : N < 10) (v : Int32) : ∃ τx τm, f_X1_appendNode c v σx = (nI N, τx) ∧ f_X6_laysNode v σm = some τm ∧ im_NR τx c (τm 85) ∧ im_WF (τm 85) ∧ (∀ r, (r < c ∨ c + 7 < r) → τx r = σx r) ∧ (∀ r, r ≠ 85 → τm r = σm r) ∧ ∀ k, 465 ≤ k → τm 85 k = σm 85 k := by
  have m0 : σm 85 0 = nI N := by rw [← hN]; exact hw.1.1.2
  have x0 : σx (c + 1) 0 = nI N := by rw [h.1 0 (by decide) (by decide)]; exact m0
  have he : ∀ k, k < 465 → k ≠ 0 → k ≠ 12 + N → iw_up (iw_up σm 85 (12 + N) v) 85 0 (nI (N + 1)) 85 k = σm 85 k := fun k _ a b => by rw [im_upn a, im_upn b]
  refine ⟨_, _, im_appendNode hc h10 x0 v, im_laysNode h10 m0 v, ?_, im_WF_node hw hN h10 (by rw [im_ups]) he, fun r hr => by rw [iw_up_ne (by omega), iw_up_ne (by omega)], fun r hr => by rw [iw_up_ne hr, iw_up_ne hr], fun k hk => by rw [im_upn (by omega), im_upn (by omega)]⟩
  refine im_NR_node hw h hN h10 (by rw [im_ups]) he (by rw [im_ups]) (fun j hj => by rw [im_upn hj, im_upo (by omega)]) (fun j hj => by rw [im_upo (by omega), im_upn hj]) ?_ (fun j a b => by rw [iw_up_ne (by omega), iw_up_ne (by omega)])
  rw [im_upo (by omega), im_ups, im_upn (by omega), im_ups]
theorem im_addL (hc : iw_net c) (hw : im_WF (σm 85)) (h : im_NR σx c (σm 85)) {L a b w : Nat} (hL : im_tn (σm 85 1) = L) (h20 : L < 20) (ha : a < im_tn (σm 85 0)) (hb : b < im_tn (σm 85 0)) (hab : a ≠ b) (hd : 1 ≤ w ∧ w ≤ 20) (hno : ∀ l, l < L → ¬ im_lk (σm 85) l a b) : ∃ τx τm, f_X1_appendLink c (nI a) (nI b) (nI w) σx = (nI L, τx) ∧ f_X6_laysLink (nI a) (nI b) (nI w) σm = some τm ∧ im_NR τx c (τm 85) ∧ im_WF (τm 85) ∧ (∀ r, (r < c ∨ c + 7 < r) → τx r = σx r) ∧ (∀ r, r ≠ 85 → τm r = σm r) ∧ ∀ k, 465 ≤ k → τm 85 k = σm 85 k := by
  have m0 : σm 85 1 = nI L := by rw [← hL]; exact hw.1.2.1.2
  have x0 : σx (c + 1) 1 = nI L := by rw [h.1 1 (by decide) (by decide)]; exact m0
  have he : ∀ k, k < 465 → k ≠ 1 → ¬ (22 + 3 * L ≤ k ∧ k < 22 + 3 * L + 3) → iw_up (iw_up (iw_up (iw_up σm 85 (22 + 3 * L) (nI a)) 85 (22 + 3 * L + 1) (nI b)) 85 (22 + 3 * L + 2) (nI w)) 85 1 (nI (L + 1)) 85 k = σm 85 k := fun k _ k1 k2 => by
    rw [im_upn k1, im_upn (by omega), im_upn (by omega), im_upn (by omega)]
  refine ⟨_, _, im_appendLink hc h20 x0 _ _ _, im_laysLink h20 m0 _ _ _, ?_, im_WF_link hw hL h20 (by rw [im_ups]) ha hb hab hd (by rw [im_upn (by omega), im_upn (by omega), im_upn (by omega), im_ups]) (by rw [im_upn (by omega), im_upn (by omega), im_ups]) (by rw [im_upn (by omega), im_ups]) hno he, fun r hr => by rw [iw_up_ne (by omega), iw_up_ne (by omega), iw_up_ne (by omega), iw_up_ne (by omega)], fun r hr => by rw [iw_up_ne hr, iw_up_ne hr, iw_up_ne hr, iw_up_ne hr], fun k hk => by rw [im_upn (by omega), im_upn (by omega), im_upn (by omega), im_upn (by omega)]⟩
  refine im_NR_link hw h hL h20 (by rw [im_ups]) he (by rw [im_ups]) (fun j hj => by rw [im_upn hj, im_upo (by omega), im_upo (by omega), im_upo (by omega)]) (fun j hj => by rw [im_upo (by omega), im_upn (by omega), im_upn (by omega), im_upn (by omega)]) (fun j j1 j2 => ?_) (fun j a b hj => by rw [iw_up_ne (by omega), iw_up_ne (by omega), iw_up_ne (by omega), iw_up_ne (by omega)])
  rw [im_upo (by omega)]
  rcases (show j = 3 * L ∨ j = 3 * L + 1 ∨ j = 3 * L + 2 by omega) with rfl | rfl | rfl
  · rw [im_upn (by omega), im_upn (by omega), im_ups, im_upn (by omega), im_upn (by omega), im_upn (by omega), im_ups]
  · rw [im_upn (by omega), im_ups, im_upn (by omega), ← Nat.add_assoc, im_upn (by omega), im_ups]
  · rw [im_ups, im_upn (by omega), ← Nat.add_assoc, im_ups]
theorem im_addS {n : Nat} (hn : 4096 ≤ n) (hc : iw_net c) (hw : im_WF (σm 85)) (h : im_NR σx c (σm 85)) {S k : Nat} {p2 p3 : Int32} (hS : im_tn (σm 85 2) = S) (h6 : S < 6) (hk : k < im_tn (σm 85 0)) : ∃ τx τm, f_X1_appendSensor c (nI k) p2 p3 σx = (nI S, τx) ∧ f_X6_laysSensor n (nI k) p2 p3 σm = some τm ∧ im_NR τx c (τm 85) ∧ im_WF (τm 85) ∧ (∀ r, (r < c ∨ c + 7 < r) → τx r = σx r) ∧ (∀ r, r ≠ 85 → τm r = σm r) ∧ ∀ k, 465 ≤ k → τm 85 k = σm 85 k := by
  have m0 : σm 85 2 = nI S := by rw [← hS]; exact hw.1.2.2.1.2
  have x0 : σx (c + 1) 2 = nI S := by rw [h.1 2 (by decide) (by decide)]; exact m0
  have b0 := hw.1.1.1
  have LS := im_laysSensor hn h6 m0 (nI k) p2 p3
  generalize hρ : iw_up (im_z5 (iw_up (iw_up (iw_up σm 85 (82 + 3 * S) (nI k)) 85 (82 + 3 * S + 1) p2) 85 (82 + 3 * S + 2) p3) S 0) 85 2 (nI (S + 1)) = τ at LS
  have zz : ∀ j, im_z5 (iw_up (iw_up (iw_up σm 85 (82 + 3 * S) (nI k)) 85 (82 + 3 * S + 1) p2) 85 (82 + 3 * S + 2) p3) S 0 85 j = if 135 + 11 * S ≤ j ∧ (j - (135 + 11 * S)) % 66 = 0 ∧ 0 ≤ (j - (135 + 11 * S)) / 66 ∧ (j - (135 + 11 * S)) / 66 < 5 then 0 else (iw_up (iw_up (iw_up σm 85 (82 + 3 * S) (nI k)) 85 (82 + 3 * S + 1) p2) 85 (82 + 3 * S + 2) p3) 85 j := fun j => by
    unfold im_z5
    rw [if_pos rfl]
  have he : ∀ j, j ≠ 2 → ¬ (82 + 3 * S ≤ j ∧ j < 82 + 3 * S + 3) → (∀ i, i < 5 → j ≠ im_wa i S) → τ 85 j = σm 85 j := fun j j1 j2 j3 => by
    rw [← hρ, im_upn j1, zz, if_neg (fun z => by
      obtain ⟨i', -, b, d⟩ := im_z5_c.mp z
      exact j3 i' b d), im_upn (by omega), im_upn (by omega), im_upn (by omega)]
  have h2 : τ 85 2 = nI (S + 1) := by rw [← hρ, im_ups]
  have hz : ∀ i, i < 5 → τ 85 (im_wa i S) = 0 := fun i hi => by
    rw [← hρ, im_upn (by have := im_wa_ge i S; omega), zz, if_pos (im_z5_c.mpr ⟨i, Nat.zero_le _, hi, rfl⟩)]
  have hs0 : τ 85 (82 + 3 * S) = nI k := by rw [← hρ, im_upn (by omega), zz, if_neg (by omega), im_upn (by omega), im_upn (by omega), im_ups]
  have hs1 : τ 85 (82 + (3 * S + 1)) = p2 := by rw [← Nat.add_assoc, ← hρ, im_upn (by omega), zz, if_neg (by omega), im_upn (by omega), im_ups]
  have hs2 : τ 85 (82 + (3 * S + 2)) = p3 := by rw [← Nat.add_assoc, ← hρ, im_upn (by omega), zz, if_neg (by omega), im_ups]
  have ho : ∀ r, r ≠ 85 → τ r = σm r := fun r hr => by
    rw [← hρ, iw_up_ne hr]
    unfold im_z5
    rw [if_neg hr, iw_up_ne hr, iw_up_ne hr, iw_up_ne hr]
  refine ⟨_, τ, im_appendSensor hc h6 x0 _ _ _, LS, ?_, im_WF_sens hw hS h6 h2 hk hs0 hz (fun j _ => he j), fun r hr => by rw [iw_up_ne (by omega), iw_up_ne (by omega), iw_up_ne (by omega), iw_up_ne (by omega)], ho, fun j hj => he j (by omega) (by omega) (fun i hi => by unfold im_wa; omega)⟩
  refine im_NR_sens hw h hS h6 h2 hz (fun j _ => he j) (by rw [im_ups]) (fun j hj => by rw [im_upn hj, im_upo (by omega), im_upo (by omega), im_upo (by omega)]) (fun j hj => by rw [im_upo (by omega), im_upn (by omega), im_upn (by omega), im_upn (by omega)]) (fun j a b => ?_) (fun j a b hj => by rw [iw_up_ne (by omega), iw_up_ne (by omega), iw_up_ne (by omega), iw_up_ne (by omega)])
  rw [im_upo (by omega)]
  rcases (show j = 3 * S ∨ j = 3 * S + 1 ∨ j = 3 * S + 2 by omega) with rfl | rfl | rfl
  · rw [im_upn (by omega), im_upn (by omega), im_ups, hs0]
  · rw [im_upn (by omega), im_ups, hs1]
  · rw [im_ups, hs2]
end
