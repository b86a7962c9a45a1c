/-! numbers, reads and writes -/
theorem im_lit (n : Nat) : (OfNat.ofNat n : Int32) = nI n := rfl
theorem im_al_n (c : Nat) (h : iw_net c) : iw_al (c + 1) = 12 ∧ iw_al (c + 2) = 10 ∧ iw_al (c + 3) = 60 ∧ iw_al (c + 4) = 18 ∧ iw_al (c + 5) = 35 ∧ iw_al (c + 6) = 30 ∧ iw_al (c + 7) = 300 := by
  rcases h with rfl | rfl | rfl | rfl | rfl | rfl | rfl | rfl <;> decide
theorem im_at {a k : Nat} {σ : iw_M} (h : k < iw_al a) : f_X5_at a (nI k) σ = σ a k := by
  have h1 := iw_al_le a
  unfold f_X5_at
  rw [if_neg (nI_pos (by omega)), if_neg (nI_ge h (by omega)), nI_clamp (by omega)]
theorem im_put {a k : Nat} {v : Int32} {σ : iw_M} (h : k < iw_al a) : f_X5_put a (nI k) v σ = iw_up σ a k v := by
  have h1 := iw_al_le a
  unfold f_X5_put
  rw [if_neg (nI_pos (by omega)), if_neg (nI_ge h (by omega)), nI_clamp (by omega)]
theorem im_inc {a k : Nat} {v : Int32} {σ : iw_M} (h : k < iw_al a) : f_X5_increase a (nI k) v σ = iw_up σ a k (σ a k + v) := by
  unfold f_X5_increase iw_let
  rw [im_at h, im_put h]
theorem im_rd {a k : Nat} {σ : iw_M} (h : k < iw_al a) : iw_rd σ a (nI k) = some (σ a k) := by
  have h1 := iw_al_le a
  have h2 : ¬ (nI k < 0 ∨ iw_al a ≤ (nI k).toNatClampNeg) := by
    rw [nI_clamp (by omega)]
    rintro (q | q)
    · exact nI_pos (by omega) q
    · omega
  unfold iw_rd
  rw [if_neg h2, nI_clamp (by omega)]
theorem im_wr {a k : Nat} {v : Int32} {σ : iw_M} (h : k < iw_al a) : iw_wr σ a (nI k) v = some (iw_up σ a k v) := by
  have h1 := iw_al_le a
  have h2 : ¬ (nI k < 0 ∨ iw_al a ≤ (nI k).toNatClampNeg) := by
    rw [nI_clamp (by omega)]
    rintro (q | q)
    · exact nI_pos (by omega) q
    · omega
  unfold iw_wr
  rw [if_neg h2, nI_clamp (by omega)]
theorem im_up1 {σ : iw_M} {a k j : Nat} {v : Int32} : iw_up σ a k v a j = if j = k then v else σ a j := by
  rw [iw_up_eq]
  rfl
theorem im_upo {σ : iw_M} {a k b j : Nat} {v : Int32} (h : b ≠ a) : iw_up σ a k v b j = σ b j := by
  rw [iw_up_ne h]
theorem im_ups {σ : iw_M} {a k : Nat} {v : Int32} : iw_up σ a k v a k = v := by
  rw [im_up1, if_pos rfl]
theorem im_upn {σ : iw_M} {a k j : Nat} {v : Int32} (h : j ≠ k) : iw_up σ a k v a j = σ a j := by
  rw [im_up1, if_neg h]
/-- a row is written at one place -/
def im_ru (ρ : Nat → Int32) (k : Nat) (v : Int32) : Nat → Int32 := fun j => if j = k then v else ρ j
theorem im_up_row {σ : iw_M} {a k : Nat} {v : Int32} : iw_up σ a k v a = im_ru (σ a) k v := by
  rw [iw_up_eq]
  rfl
theorem im_bool (x : Int32) : (if x = 0 then (0 : Int32) else 1) &&& 1 = if x = 0 then 0 else 1 := by
  by_cases h : x = 0
  · rw [if_pos h]; decide
  · rw [if_neg h]; decide
/-- comparisons of numbers that are small -/
theorem im_le {a b : Nat} (ha : a < 2 ^ 31) (hb : b < 2 ^ 31) : (nI a ≤ nI b) = (a ≤ b) := propext (nI_leI ha hb)
theorem im_lt {a b : Nat} (ha : a < 2 ^ 31) (hb : b < 2 ^ 31) : (nI a < nI b) = (a < b) := propext (nI_ltI ha hb)
theorem im_eq {a b : Nat} (ha : a < 2 ^ 31) (hb : b < 2 ^ 31) : (nI a = nI b) = (a = b) := propext (nI_eq ha hb)
/-- an index is a small number or it isn't within -/
theorem im_ix (x : Int32) {n : Nat} (hn : n < 2 ^ 31) : (∃ j : Nat, j < n ∧ x = nI j) ∨ (x < 0 ∨ nI n ≤ x) := by
  rcases pk_ix x hn with h | h | h
  · exact Or.inr (Or.inl h)
  · exact Or.inr (Or.inr h)
  · exact Or.inl h
/-! what a net is: the reference's row of numbers; the class's net beside it -/
def im_tn (x : Int32) : Nat := x.toNatClampNeg
def im_sm (x : Int32) (b : Nat) : Prop := im_tn x < b ∧ x = nI (im_tn x)
theorem im_sm_nI {k b : Nat} (h : k < b) (hb : b ≤ 2 ^ 31) : im_sm (nI k) b := by
  unfold im_sm im_tn
  rw [nI_clamp (by omega)]
  exact ⟨h, rfl⟩
theorem im_tn_nI {k : Nat} (h : k < 2 ^ 31) : im_tn (nI k) = k := nI_clamp h
def im_lk (ρ : Nat → Int32) (l a b : Nat) : Prop := (im_tn (ρ (22 + 3 * l)) = a ∧ im_tn (ρ (22 + 3 * l + 1)) = b) ∨ (im_tn (ρ (22 + 3 * l)) = b ∧ im_tn (ρ (22 + 3 * l + 1)) = a)
def im_wa (i s : Nat) : Nat := 135 + 11 * (6 * i + s)
/-- the numbers of a net are as they must be -/
def im_WF (ρ : Nat → Int32) : Prop :=
  (im_sm (ρ 0) 11 ∧ im_sm (ρ 1) 21 ∧ im_sm (ρ 2) 7 ∧ im_sm (ρ 3) 6 ∧ im_sm (ρ 4) 51 ∧ 0 < im_tn (ρ 4)) ∧
  (∀ l, l < im_tn (ρ 1) → im_sm (ρ (22 + 3 * l)) (im_tn (ρ 0)) ∧ im_sm (ρ (22 + 3 * l + 1)) (im_tn (ρ 0)) ∧ im_sm (ρ (22 + 3 * l + 2)) 21 ∧ 0 < im_tn (ρ (22 + 3 * l + 2)) ∧ im_tn (ρ (22 + 3 * l)) ≠ im_tn (ρ (22 + 3 * l + 1))) ∧
  (∀ l l' a b, l < im_tn (ρ 1) → l' < im_tn (ρ 1) → im_lk ρ l a b → im_lk ρ l' a b → l = l') ∧
  (∀ s, s < im_tn (ρ 2) → im_sm (ρ (82 + 3 * s)) (im_tn (ρ 0))) ∧
  (∀ i, i < im_tn (ρ 3) → im_sm (ρ (100 + 7 * i)) (im_tn (ρ 0))) ∧
  (∀ i s, i < im_tn (ρ 3) → s < im_tn (ρ 2) → im_sm (ρ (im_wa i s)) 11 ∧ (∀ k, k < im_tn (ρ (im_wa i s)) → im_sm (ρ (im_wa i s + 1 + k)) (im_tn (ρ 0))) ∧ ∀ k k', k < im_tn (ρ (im_wa i s)) → k' < im_tn (ρ (im_wa i s)) → im_tn (ρ (im_wa i s + 1 + k)) = im_tn (ρ (im_wa i s + 1 + k')) → k = k')
/-- the class's net at c holds what the row holds -/
def im_NR (σ : iw_M) (c : Nat) (ρ : Nat → Int32) : Prop :=
  (∀ j, j < 12 → j ≠ 6 → σ (c + 1) j = ρ j) ∧
  (∀ k, k < im_tn (ρ 0) → σ (c + 2) k = ρ (12 + k)) ∧
  (∀ k, k < 3 * im_tn (ρ 1) → σ (c + 3) k = ρ (22 + k)) ∧
  (∀ k, k < 3 * im_tn (ρ 2) → σ (c + 4) k = ρ (82 + k)) ∧
  (∀ k, k < 7 * im_tn (ρ 3) → σ (c + 5) k = ρ (100 + k)) ∧
  (∀ i s, i < im_tn (ρ 3) → s < im_tn (ρ 2) → σ (c + 6) (6 * i + s) = ρ (im_wa i s) ∧ ∀ k, k < im_tn (ρ (im_wa i s)) → σ (c + 7) (10 * (6 * i + s) + k) = ρ (im_wa i s + 1 + k)) ∧
  (∀ i s, i < im_tn (ρ 3) → im_tn (ρ 2) ≤ s → s < 6 → σ (c + 6) (6 * i + s) = 0)
def im_sl (σ : iw_M) (t : Nat) : Nat → Int32 := fun k => σ 85 (465 * t + k)
def im_hist (σx σm : iw_M) (sz od : Nat) : Prop :=
  sz ≤ 5 ∧ od < 5 ∧ σx 4 2 = nI sz ∧ σx 4 1 = nI od ∧ σm 84 1 = nI sz ∧ ∀ j, j < sz → im_NR σx (44 + 8 * ((od + j) % 5)) (im_sl σm (j + 1)) ∧ im_WF (im_sl σm (j + 1))
def im_text (σx σm : iw_M) (len : Nat) : Prop :=
  len ≤ 120 ∧ σx 6 2 = nI len ∧ σm 84 11 = nI len ∧ ∀ k, k < len → im_sm (σx 7 k) 256 ∧ σm 92 k = σx 7 k
/-- the class's object and the reference hold the same -/
def im_RR (σx σm : iw_M) : Prop := im_NR σx 20 (im_sl σm 0) ∧ im_WF (im_sl σm 0) ∧ (∃ sz od, im_hist σx σm sz od) ∧ ∃ len, im_text σx σm len
theorem im_NR_congr {σ σ' : iw_M} {c : Nat} {ρ : Nat → Int32} (h : im_NR σ c ρ) (hc : ∀ j, 1 ≤ j → j ≤ 7 → σ' (c + j) = σ (c + j)) : im_NR σ' c ρ := by
  obtain ⟨h1, h2, h3, h4, h5, h6, h7⟩ := h
  unfold im_NR
  rw [hc 1 (by omega) (by omega), hc 2 (by omega) (by omega), hc 3 (by omega) (by omega), hc 4 (by omega) (by omega), hc 5 (by omega) (by omega), hc 6 (by omega) (by omega), hc 7 (by omega) (by omega)]
  exact ⟨h1, h2, h3, h4, h5, h6, h7⟩
theorem im_WF_wa {ρ : Nat → Int32} (h : im_WF ρ) {i s : Nat} (hi : i < im_tn (ρ 3)) (hs : s < im_tn (ρ 2)) : im_wa i s + 11 ≤ 465 := by
  have h3 := h.1.2.2.2.1.1
  have h2 := h.1.2.2.1.1
  unfold im_wa
  omega
theorem im_NR_row {σ : iw_M} {c : Nat} {ρ ρ' : Nat → Int32} (h : im_NR σ c ρ) (hw : im_WF ρ) (hr : ∀ k, k < 465 → ρ' k = ρ k) : im_NR σ c ρ' := by
  obtain ⟨h1, h2, h3, h4, h5, h6, h7⟩ := h
  have b0 := hw.1.1.1
  have b1 := hw.1.2.1.1
  have b2 := hw.1.2.2.1.1
  have b3 := hw.1.2.2.2.1.1
  have e0 := hr 0 (by omega)
  have e1 := hr 1 (by omega)
  have e2 := hr 2 (by omega)
  have e3 := hr 3 (by omega)
  refine ⟨fun j a b => by rw [hr j (by omega)]; exact h1 j a b, fun k a => ?_, fun k a => ?_, fun k a => ?_, fun k a => ?_, fun i s a b => ?_, fun i s a b d => ?_⟩
  · rw [e0] at a; rw [hr _ (by omega)]; exact h2 k a
  · rw [e1] at a; rw [hr _ (by omega)]; exact h3 k a
  · rw [e2] at a; rw [hr _ (by omega)]; exact h4 k a
  · rw [e3] at a; rw [hr _ (by omega)]; exact h5 k a
  · rw [e3] at a; rw [e2] at b
    have q := im_WF_wa hw a b
    have g := hw.2.2.2.2.2 i s a b
    rw [hr _ (by omega)]
    refine ⟨(h6 i s a b).1, fun k hk => ?_⟩
    have := g.1.1
    rw [hr _ (by omega)]
    exact (h6 i s a b).2 k hk
  · rw [e3] at a; rw [e2] at b; exact h7 i s a b d
theorem im_WF_row {ρ ρ' : Nat → Int32} (hw : im_WF ρ) (hr : ∀ k, k < 465 → ρ' k = ρ k) : im_WF ρ' := by
  have b0 := hw.1.1.1
  have b1 := hw.1.2.1.1
  have b2 := hw.1.2.2.1.1
  have b3 := hw.1.2.2.2.1.1
  have e0 := hr 0 (by omega)
  have e1 := hr 1 (by omega)
  have e2 := hr 2 (by omega)
  have e3 := hr 3 (by omega)
  have e4 := hr 4 (by omega)
  obtain ⟨h1, h2, h3, h4, h5, h6⟩ := id hw
  unfold im_WF
  rw [e0, e1, e2, e3, e4]
  refine ⟨h1, fun l a => ?_, fun l l' x y a a' p q => ?_, fun s a => ?_, fun i a => ?_, fun i s a b => ?_⟩
  · rw [hr _ (by omega), hr _ (by omega), hr _ (by omega)]; exact h2 l a
  · unfold im_lk at p q
    rw [hr _ (by omega), hr _ (by omega)] at p q
    exact h3 l l' x y a a' p q
  · rw [hr _ (by omega)]; exact h4 s a
  · rw [hr _ (by omega)]; exact h5 i a
  · have q := im_WF_wa hw a b
    obtain ⟨g1, g2, g3⟩ := h6 i s a b
    have := g1.1
    rw [hr _ (by omega)]
    refine ⟨g1, fun k hk => by rw [hr _ (by omega)]; exact g2 k hk, fun k k' hk hk' hh => ?_⟩
    rw [hr _ (by omega), hr _ (by omega)] at hh
    exact g3 k k' hk hk' hh
