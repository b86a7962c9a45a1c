/-! the reference looks for the node before -/
theorem im_before_L {n : Nat} (hn : 4096 ≤ n) {ρ : Nat → Int32} {σ : iw_M} (hw : im_WF (σ 85)) (he : σ 85 = ρ) {T : Nat → Nat} (hT : im_T86 σ T) (ht : ∀ v, T v ≤ 1000000) {x : Nat} (hx : x < 10) (hr : T x < 1000000) (k : Int32 → Option iw_M) : ∀ (j nn : Nat) (v : Int32), j ≤ im_tn (ρ 0) → j < nn → ∃ res, f_X6_traces_L66 n (nI x) σ k nn v (nI j - 1) = k res ∧ ((∃ u, u < j ∧ (0 < im_dl ρ u x ∧ T u + im_dl ρ u x = T x) ∧ res = nI u ∧ ∀ b, b < u → ¬ (0 < im_dl ρ b x ∧ T b + im_dl ρ b x = T x)) ∨ ((∀ u, u < j → ¬ (0 < im_dl ρ u x ∧ T u + im_dl ρ u x = T x)) ∧ res = v)) := by
  have b0 := hw.1.1.1
  have b1 := hw.1.2.1.1
  have e86 : iw_al 86 = 10 := rfl
  intro j
  induction j with
  | zero =>
    intro nn v h1 h2
    obtain ⟨nn, rfl⟩ : ∃ q, nn = q + 1 := ⟨nn - 1, by omega⟩
    refine ⟨v, ?_, Or.inr ⟨fun u hu => by omega, rfl⟩⟩
    rw [s_X6_traces_66]
    unfold f_X6_traces_B66
    rw [if_pos (by decide)]
  | succ j ih =>
    intro nn v h1 h2
    obtain ⟨nn, rfl⟩ : ∃ q, nn = q + 1 := ⟨nn - 1, by omega⟩
    subst he
    have hj : j < 10 := by omega
    have ej : nI (j + 1) - 1 = nI j := by rw [show (1 : Int32) = nI 1 from rfl, pk_sub (by omega)]; rfl
    have em : nI j + (-1 : Int32) = nI j - 1 := by
      rw [show (-1 : Int32) = - (1 : Int32) from rfl, ← Int32.sub_eq_add_neg]
    have tj := ht j
    obtain ⟨B1, B2⟩ := im_linkOf hn hw (a := j) (b := x) (by omega) (by omega)
    rw [ej, s_X6_traces_66]
    unfold f_X6_traces_B66 f_X6_traces_J130 f_X6_traces_J131
    rw [if_neg (show ¬ nI j < (0 : Int32) by rw [show (0 : Int32) = nI 0 from rfl, im_lt (by omega) (by omega)]; omega)]
    simp only [im_let]
    rw [em]
    have no : ¬ (0 < im_dl (σ 85) j x ∧ T j + im_dl (σ 85) j x = T x) → ∃ res, f_X6_traces_L66 n (nI x) σ k nn v (nI j - 1) = k res ∧ ((∃ u, u < j + 1 ∧ (0 < im_dl (σ 85) u x ∧ T u + im_dl (σ 85) u x = T x) ∧ res = nI u ∧ ∀ b, b < u → ¬ (0 < im_dl (σ 85) b x ∧ T b + im_dl (σ 85) b x = T x)) ∨ ((∀ u, u < j + 1 → ¬ (0 < im_dl (σ 85) u x ∧ T u + im_dl (σ 85) u x = T x)) ∧ res = v)) := fun q => by
      obtain ⟨res, r1, r2⟩ := ih nn v (by omega) (by omega)
      refine ⟨res, r1, ?_⟩
      rcases r2 with ⟨u, u1, u2, u3, u4⟩ | ⟨u1, u2⟩
      · exact Or.inl ⟨u, by omega, u2, u3, u4⟩
      · refine Or.inr ⟨fun u hu => ?_, u2⟩
        by_cases z : u = j
        · rw [z]; exact q
        · exact u1 u (by omega)
    by_cases q : ∃ l, l < im_tn (σ 85 1) ∧ im_lkb (σ 85) l j x = true
    · obtain ⟨l, l1, l2⟩ := q
      have l3 := im_lkb_iff.mp l2
      obtain ⟨d1, d2, d3⟩ := im_dl_1 hw l1 l3
      have hd : σ 85 (22 + 3 * l + 2) = nI (im_dl (σ 85) j x) := by rw [d1]; exact (hw.2.1 l l1).2.2.1.2
      rw [B2 l l1 l3, im_bind, if_neg (im_neN (by omega)), im_rd (by omega), im_rd (by omega), show (2 : Int32) = nI 2 from rfl, im_ofLink (by omega)]
      simp only [im_bind]
      rw [hT j hj, hT x hx, if_neg (show ¬ T x = 1000000 by omega), hd]
      by_cases q1 : T j = 1000000
      · rw [if_pos q1, if_pos rfl]
        exact no (fun z => by omega)
      · rw [if_neg q1, if_neg (im_neN (by omega)), nI_add]
        by_cases q2 : T j + im_dl (σ 85) j x = T x
        · rw [if_pos (by rw [q2])]
          obtain ⟨res, r1, r2⟩ := ih nn (nI j) (by omega) (by omega)
          refine ⟨res, r1, Or.inl ?_⟩
          rcases r2 with ⟨u, u1, u2, u3, u4⟩ | ⟨u1, u2⟩
          · exact ⟨u, by omega, u2, u3, u4⟩
          · exact ⟨j, by omega, ⟨d2, q2⟩, u2, fun b hb => u1 b hb⟩
        · rw [if_neg (by rw [im_eq (by omega) (by omega)]; exact q2)]
          exact no (fun z => q2 z.2)
    · have q' : ∀ l, l < im_tn (σ 85 1) → ¬ im_lk (σ 85) l j x := fun l h1 h2 => q ⟨l, h1, im_lkb_iff.mpr h2⟩
      rw [B1 q', im_bind, if_pos rfl]
      exact no (fun z => by rw [im_dl_0 q'] at z; omega)
