/-! one number is changed on both sides -/
theorem im_sl0 (σ : iw_M) : im_sl σ 0 = σ 85 := by
  funext k
  unfold im_sl
  rw [Nat.mul_zero, Nat.zero_add]
theorem im_0 {σx σm : iw_M} (h : im_RR σx σm) : im_NR σx 20 (σm 85) ∧ im_WF (σm 85) := by
  have a := h.1
  have b := h.2.1
  rw [im_sl0] at a b
  exact ⟨a, b⟩
theorem im_b01 {c : Prop} [Decidable c] {α : Type} (A B : α) : (if (if c then (1 : Int32) else 0) = 0 then A else B) = if c then B else A := by
  by_cases h : c
  · rw [if_pos h, if_neg (by decide), if_pos h]
  · rw [if_neg h, if_pos rfl, if_neg h]
theorem im_b01a {c : Prop} [Decidable c] {α : Type} (A B : α) : (if ((if c then (1 : Int32) else 0) &&& 1) = 0 then A else B) = if c then B else A := by
  by_cases h : c
  · rw [if_pos h, if_neg (by decide), if_pos h]
  · rw [if_neg h, if_pos (by decide), if_neg h]
theorem im_ru_ne {ρ : Nat → Int32} {k j : Nat} {v : Int32} (h : j ≠ k) : im_ru ρ k v j = ρ j := if_neg h
theorem im_ru_eq {ρ : Nat → Int32} {k : Nat} {v : Int32} : im_ru ρ k v k = v := if_pos rfl
/-- places of the row of which nothing is asked -/
def im_fr (k : Nat) : Prop := (5 ≤ k ∧ k < 22) ∨ (82 ≤ k ∧ k < 100 ∧ (k - 82) % 3 ≠ 0) ∨ (100 ≤ k ∧ k < 135 ∧ (k - 100) % 7 ≠ 0)
theorem im_WF_fr {ρ ρ' : Nat → Int32} (hw : im_WF ρ) (hr : ∀ k, k < 465 → ¬ im_fr k → ρ' k = ρ k) : im_WF ρ' := by
  have b0 := hw.1.1.1
  have b1 := hw.1.2.1.1
  have b2 := hw.1.2.2.1.1
  have b3 := hw.1.2.2.2.1.1
  unfold im_fr at hr
  have e0 := hr 0 (by omega) (by omega)
  have e1 := hr 1 (by omega) (by omega)
  have e2 := hr 2 (by omega) (by omega)
  have e3 := hr 3 (by omega) (by omega)
  have e4 := hr 4 (by omega) (by omega)
  obtain ⟨h1, h2, h3, h4, h5, h6⟩ := id hw
  unfold im_WF
  rw [e0, e1, e2, e3, e4]
  refine ⟨h1, fun l a => ?_, fun l l' x y a a' p q => ?_, fun s a => ?_, fun i a => ?_, fun i s a b => ?_⟩
  · rw [hr _ (by omega) (by omega), hr _ (by omega) (by omega), hr _ (by omega) (by omega)]; exact h2 l a
  · unfold im_lk at p q
    rw [hr _ (by omega) (by omega), hr _ (by omega) (by omega)] at p q
    exact h3 l l' x y a a' p q
  · rw [hr _ (by omega) (by omega)]; exact h4 s a
  · rw [hr _ (by omega) (by omega)]; exact h5 i a
  · have q := im_WF_wa hw a b
    have q2 : 135 ≤ im_wa i s := by unfold im_wa; omega
    obtain ⟨g1, g2, g3⟩ := h6 i s a b
    have := g1.1
    rw [hr _ (by omega) (by omega)]
    refine ⟨g1, fun k hk => by rw [hr _ (by omega) (by omega)]; exact g2 k hk, fun k k' hk hk' hh => ?_⟩
    rw [hr _ (by omega) (by omega), hr _ (by omega) (by omega)] at hh
    exact g3 k k' hk hk' hh
theorem im_WF_ru {ρ : Nat → Int32} {j : Nat} {v : Int32} (hw : im_WF ρ) (hj : im_fr j) : im_WF (im_ru ρ j v) :=
  im_WF_fr hw (fun k _ hk => im_ru_ne (fun q => hk (by rw [q]; exact hj)))
section
variable {σ : iw_M} {c : Nat} {ρ : Nat → Int32} {v : Int32}
theorem im_wa_ge (i s : Nat) : 135 ≤ im_wa i s := by unfold im_wa; omega
theorem im_NR_num (h : im_NR σ c ρ) {j : Nat} (h4 : 4 ≤ j) (hj : j < 12) : im_NR (iw_up σ (c + 1) j v) c (im_ru ρ j v) := by
  obtain ⟨h1, h2, h3, h4', h5, h6, h7⟩ := h
  refine ⟨fun j' a b => ?_, fun k a => ?_, fun k a => ?_, fun k a => ?_, fun k a => ?_, fun i s a b => ?_, fun i s a b d => ?_⟩
  · by_cases q : j' = j
    · subst q; rw [im_ups, im_ru_eq]
    · rw [im_upn q, im_ru_ne q]; exact h1 j' a b
  · rw [im_ru_ne (by omega)] at a; rw [im_upo (by omega), im_ru_ne (by omega)]; exact h2 k a
  · rw [im_ru_ne (by omega)] at a; rw [im_upo (by omega), im_ru_ne (by omega)]; exact h3 k a
  · rw [im_ru_ne (by omega)] at a; rw [im_upo (by omega), im_ru_ne (by omega)]; exact h4' k a
  · rw [im_ru_ne (by omega)] at a; rw [im_upo (by omega), im_ru_ne (by omega)]; exact h5 k a
  · have w := im_wa_ge i s
    rw [im_ru_ne (by omega)] at a b
    rw [im_upo (by omega), im_ru_ne (by omega)]
    refine ⟨(h6 i s a b).1, fun k hk => ?_⟩
    rw [im_upo (by omega), im_ru_ne (by omega)]
    exact (h6 i s a b).2 k hk
  · rw [im_ru_ne (by omega)] at a b
    rw [im_upo (by omega)]; exact h7 i s a b d
theorem im_NR_en (h : im_NR σ c ρ) {j : Nat} (hj : j < 10) : im_NR (iw_up σ (c + 2) j v) c (im_ru ρ (12 + j) v) := by
  obtain ⟨h1, h2, h3, h4', h5, h6, h7⟩ := h
  refine ⟨fun j' a b => ?_, fun k a => ?_, fun k a => ?_, fun k a => ?_, fun k a => ?_, fun i s a b => ?_, fun i s a b d => ?_⟩
  · rw [im_upo (by omega), im_ru_ne (by omega)]; exact h1 j' a b
  · rw [im_ru_ne (by omega)] at a
    by_cases q : k = j
    · subst q; rw [im_ups, im_ru_eq]
    · rw [im_upn q, im_ru_ne (by omega)]; exact h2 k a
  · rw [im_ru_ne (by omega)] at a; rw [im_upo (by omega), im_ru_ne (by omega)]; exact h3 k a
  · rw [im_ru_ne (by omega)] at a; rw [im_upo (by omega), im_ru_ne (by omega)]; exact h4' k a
  · rw [im_ru_ne (by omega)] at a; rw [im_upo (by omega), im_ru_ne (by omega)]; exact h5 k a
  · have w := im_wa_ge i s
    rw [im_ru_ne (by omega)] at a b
    rw [im_upo (by omega), im_ru_ne (by omega)]
    refine ⟨(h6 i s a b).1, fun k hk => ?_⟩
    rw [im_upo (by omega), im_ru_ne (by omega)]
    exact (h6 i s a b).2 k hk
  · rw [im_ru_ne (by omega)] at a b
    rw [im_upo (by omega)]; exact h7 i s a b d
theorem im_NR_se (h : im_NR σ c ρ) (hwf : im_WF ρ) {j : Nat} (hj : j < 18) : im_NR (iw_up σ (c + 4) j v) c (im_ru ρ (82 + j) v) := by
  obtain ⟨h1, h2, h3, h4', h5, h6, h7⟩ := h
  have b0 := hwf.1.1.1
  have b1 := hwf.1.2.1.1
  refine ⟨fun j' a b => ?_, fun k a => ?_, fun k a => ?_, fun k a => ?_, fun k a => ?_, fun i s a b => ?_, fun i s a b d => ?_⟩
  · rw [im_upo (by omega), im_ru_ne (by omega)]; exact h1 j' a b
  · rw [im_ru_ne (by omega)] at a; rw [im_upo (by omega), im_ru_ne (by omega)]; exact h2 k a
  · rw [im_ru_ne (by omega)] at a; rw [im_upo (by omega), im_ru_ne (by omega)]; exact h3 k a
  · rw [im_ru_ne (by omega)] at a
    by_cases q : k = j
    · subst q; rw [im_ups, im_ru_eq]
    · rw [im_upn q, im_ru_ne (by omega)]; exact h4' k a
  · rw [im_ru_ne (by omega)] at a; rw [im_upo (by omega), im_ru_ne (by omega)]; exact h5 k a
  · have w := im_wa_ge i s
    rw [im_ru_ne (by omega)] at a b
    rw [im_upo (by omega), im_ru_ne (by omega)]
    refine ⟨(h6 i s a b).1, fun k hk => ?_⟩
    rw [im_upo (by omega), im_ru_ne (by omega)]
    exact (h6 i s a b).2 k hk
  · rw [im_ru_ne (by omega)] at a b
    rw [im_upo (by omega)]; exact h7 i s a b d
theorem im_NR_in (h : im_NR σ c ρ) (hwf : im_WF ρ) {j : Nat} (hj : j < 35) : im_NR (iw_up σ (c + 5) j v) c (im_ru ρ (100 + j) v) := by
  obtain ⟨h1, h2, h3, h4', h5, h6, h7⟩ := h
  have b0 := hwf.1.1.1
  have b1 := hwf.1.2.1.1
  have b2 := hwf.1.2.2.1.1
  refine ⟨fun j' a b => ?_, fun k a => ?_, fun k a => ?_, fun k a => ?_, fun k a => ?_, fun i s a b => ?_, fun i s a b d => ?_⟩
  · rw [im_upo (by omega), im_ru_ne (by omega)]; exact h1 j' a b
  · rw [im_ru_ne (by omega)] at a; rw [im_upo (by omega), im_ru_ne (by omega)]; exact h2 k a
  · rw [im_ru_ne (by omega)] at a; rw [im_upo (by omega), im_ru_ne (by omega)]; exact h3 k a
  · rw [im_ru_ne (by omega)] at a; rw [im_upo (by omega), im_ru_ne (by omega)]; exact h4' k a
  · rw [im_ru_ne (by omega)] at a
    by_cases q : k = j
    · subst q; rw [im_ups, im_ru_eq]
    · rw [im_upn q, im_ru_ne (by omega)]; exact h5 k a
  · have w := im_wa_ge i s
    rw [im_ru_ne (by omega)] at a b
    rw [im_upo (by omega), im_ru_ne (by omega)]
    refine ⟨(h6 i s a b).1, fun k hk => ?_⟩
    rw [im_upo (by omega), im_ru_ne (by omega)]
    exact (h6 i s a b).2 k hk
  · rw [im_ru_ne (by omega)] at a b
    rw [im_upo (by omega)]; exact h7 i s a b d
end
/-- what im_upd asks of the reference where one number of the present state is changed -/
theorem im_upd1 {σx σx' σm : iw_M} {j : Nat} {v : Int32} (h : im_RR σx σm) (hx : ∀ b, b = 4 ∨ b = 6 ∨ b = 7 ∨ 44 ≤ b → σx' b = σx b) (hj : j < 465) (hn : im_NR σx' 20 (im_ru (σm 85) j v)) (hw : im_WF (im_ru (σm 85) j v)) : im_RR σx' (iw_up σm 85 j v) := by
  refine im_upd h hx (by rw [iw_up_ne (by decide)]) (by rw [iw_up_ne (by decide)]) (by rw [iw_up_ne (by decide)]) (fun k h1 _ => im_upn (by omega)) ?_ ?_
  · rw [im_sl0, im_up_row]; exact hn
  · rw [im_sl0, im_up_row]; exact hw
