/-! the law's isForetold answers true -/
theorem ip_lv_mono {ρ ρ' : Nat → Int32} {d : Nat} {e : Int32} {B : Nat} (h : ip_pg d ρ ρ') (hV : ip_V e B ρ) : ip_lv ρ' ≤ ip_lv ρ := by
  unfold ip_lv
  rw [h.1]
  refine im_cn_mono _ (fun u hu q => ?_)
  unfold im_al at q ⊢
  rw [decide_eq_true_iff] at q ⊢
  exact Int32.lt_of_lt_of_le q ((h.2 e B hV).2 u hu)
theorem ip_gs_none {n : Nat} {σ : iw_M} (h : f_X6_goesOn n σ = none) : ∀ u, ip_gs n u σ = σ := by
  intro u
  cases u with
  | zero => rfl
  | succ u =>
    show (match f_X6_goesOn n σ with | none => σ | some q => ip_gs n u q.2) = _
    rw [h]
theorem ip_gs_add {n : Nat} : ∀ (x u : Nat) (σ : iw_M), ip_gs n (x + u) σ = ip_gs n u (ip_gs n x σ) := by
  intro x
  induction x with
  | zero => intro u σ; rw [Nat.zero_add]; rfl
  | succ x ih =>
    intro u σ
    cases h : f_X6_goesOn n σ with
    | none => rw [ip_gs_none h, ip_gs_none h, ip_gs_none h]
    | some q =>
      obtain ⟨c, σ'⟩ := q
      rw [show x + 1 + u = x + u + 1 by omega, ip_gs_s h, ip_gs_s h]
      exact ih u σ'
theorem ip_lv_later {e : Int32} {B : Nat} {σ : iw_M} {ρ : Nat → Int32} (hG : ip_G σ ρ) (hV : ip_V e B ρ) (x u : Nat) (h : x + u ≤ 500) : ip_lv (ip_ro (x + u) ρ) ≤ ip_lv (ip_ro x ρ) := by
  obtain ⟨σ1, a1, a2, a3⟩ := ip_start hG
  obtain ⟨c, τ, τm, c1, b1, b2, b3, ⟨bp, bg, b0c, b1c⟩, b4, b5⟩ := im_runs (n := 4096) (by decide) (N := x) (by omega) a2
  obtain ⟨c', τ', τm', c1', b1', b2', b3', ⟨bp', bg', -⟩, b4', b5'⟩ := im_runs (n := 4096) (by decide) (N := u) (by omega) b3
  rw [ip_gm_85] at bp
  have e1 : ip_ro x ρ = τm 85 := by unfold ip_ro; rw [bg]
  have e2 : ip_ro (x + u) ρ = τm' 85 := by unfold ip_ro; rw [ip_gs_add, ← bg, bg']
  rw [e1, e2]
  exact ip_lv_mono bp'.1 (bp.1.2 e B hV).1
theorem ip_isForetold {e : Int32} {R : Nat} (hR : R ≤ 1000) {σ : iw_M} {ρ : Nat → Int32} (h : ip_L e R σ ρ) {w : Nat} (w1 : 1 ≤ w) (w2 : w ≤ 100) : ∃ σ', f_L_isForetold 4096 (nI w) σ = some (1, σ') ∧ ip_L e R σ' ρ := by
  obtain ⟨hG, hV, h5, h84⟩ := h
  obtain ⟨σ1, a1, a2, a3, a4⟩ := op_willDeliver hG w1 (show w ≤ 500 by omega)
  obtain ⟨r, σ2, b1, b2, b3, b4⟩ := op_firstDeath a3
  obtain ⟨r', σ3, c1, c2, c3, c4⟩ := op_rounds b2 (nI w)
  have c4' : ∃ w', nI w = nI w' ∧ 1 ≤ w' ∧ w' ≤ 100 ∧ r' = nI (ip_dn w' ρ) ∧ ip_rd w' ρ (ip_ro w' ρ) ∧ ip_G σ3 (ip_ro w' ρ) ∧ ip_T σ3 ρ := by
    rcases c4 with ⟨-, -, z⟩ | ⟨w', y1, y2, y3, y4, y5, ⟨y6, -⟩, y7, y8⟩
    · have := z ⟨by rw [im_lit 1, im_le (by omega) (by omega)]; exact w1, by rw [im_lit 100, im_le (by omega) (by omega)]; exact w2⟩
      rw [h5, nI_add, im_lit 100000, im_le (by omega) (by omega)] at this
      omega
    · exact ⟨w', y3, y1, y2, y4, y6, y7, y8⟩
  obtain ⟨w', y3, y1, y2, y4, y6, y7, y8⟩ := c4'
  have ew := (im_eq (by omega) (by omega)).mp y3
  subst ew
  obtain ⟨r'', σ4, d1, d2, d3, d4⟩ := op_undo y7 y8
  have L10 := ip_lv_10 hG.2.1
  have L10' := ip_lv_10 y7.2.1
  have mono := ip_lv_mono y6.1 hV
  refine ⟨σ4, ?_, d3, hV, h5, by rw [d4, c2, b3, a4]; exact h84⟩
  have e6 : ∀ (τ : iw_M) (ρ' : Nat → Int32), ip_G τ ρ' → f_X5_count 4096 (6 : Int32) τ = some (nI (ip_lv ρ')) := fun τ ρ' hτ => op_count (by decide) hτ (w := 6) (by decide)
  have j130 : f_L_isForetold_J130 4096 (im_dg ρ) σ3 = some (1, σ4) := by
    unfold f_L_isForetold_J130
    rw [d1]
    unfold iw_let2
    simp only []
    rw [if_neg (Int32.not_lt.mpr d2), op_digest (by decide) d3, im_bind, if_pos rfl]
  have j107 : f_L_isForetold_J107 4096 (nI w) (im_dg ρ) (nI (ip_lv ρ)) r σ3 (nI (ip_lv (ip_ro w ρ))) = some (1, σ4) := by
    unfold f_L_isForetold_J107 f_L_isForetold_J121
    rcases b4 with ⟨z1, z2⟩ | ⟨x, x1, x2, x3, x4, x5⟩
    · have := z2 w (by omega)
      rw [if_pos z1, if_pos (by rw [show ip_lv (ip_ro w ρ) = ip_lv ρ by omega])]
      exact j130
    · rw [x3, if_neg (im_neN (by omega))]
      by_cases q : x ≤ w
      · rw [if_pos (by rw [im_le (by omega) (by omega)]; exact q)]
        exact j130
      · have := x5 w (by omega)
        rw [if_neg (by rw [im_le (by omega) (by omega)]; exact q), if_pos (by rw [show ip_lv (ip_ro w ρ) = ip_lv ρ by omega])]
        exact j130
  have j78 : f_L_isForetold_J78 4096 (nI w) (im_dg ρ) (nI (ip_lv ρ)) r σ3 = some (1, σ4) := by
    unfold f_L_isForetold_J78
    rw [e6 σ3 _ y7, im_bind]
    rcases b4 with ⟨z1, z2⟩ | ⟨x, x1, x2, x3, x4, x5⟩
    · rw [if_pos z1]
      exact j107
    · by_cases q : w < x
      · rw [if_neg (by rw [x3]; exact im_neN (by omega)), if_pos (by rw [x3, im_lt (by omega) (by omega)]; exact q)]
        exact j107
      · have h1 : ip_lv (ip_ro w ρ) < ip_lv ρ := by
          -- from the first death on no more live
          have hx : ip_lv (ip_ro w ρ) ≤ ip_lv (ip_ro x ρ) := by
            obtain ⟨u, rfl⟩ : ∃ u, w = x + u := ⟨w - x, by omega⟩
            exact ip_lv_later hG hV x u (by omega)
          omega
        rw [if_neg (by rw [x3]; exact im_neN (by omega)), if_neg (by rw [x3, im_lt (by omega) (by omega)]; exact q), if_neg (by rw [im_le (by omega) (by omega)]; omega)]
        exact j107
  unfold f_L_isForetold
  rw [op_digest (by decide) hG, im_bind, e6 σ ρ hG, im_bind, a1, im_b2, b1, im_b2, show f_X5_count 4096 (10 : Int32) σ2 = f_X5_count 4096 (nI 10) σ2 from rfl, op_count (by decide) b2 (w := 10) (by decide), im_bind, show f_X5_count 4096 (3 : Int32) σ2 = f_X5_count 4096 (nI 3) σ2 from rfl, op_count (by decide) b2 (w := 3) (by decide), im_bind, c1, im_b2, if_pos y4, show f_X5_count 4096 (5 : Int32) σ3 = f_X5_count 4096 (nI 5) σ3 from rfl, op_count (by decide) y7 (w := 5) (by decide), im_bind, show im_n12 (ip_ro w ρ) 5 = ip_ro w ρ 5 from rfl, y6.2.1, h5, nI_add, if_neg (by rw [im_lt (by omega) (by omega)]; omega), show im_n12 ρ 3 = ρ 3 from rfl, show im_n12 ρ 10 = ρ 10 from rfl]
  by_cases q : ρ 3 = 0
  · rw [if_pos q, show f_X5_count 4096 (10 : Int32) σ3 = f_X5_count 4096 (nI 10) σ3 from rfl, op_count (by decide) y7 (w := 10) (by decide), im_bind, show im_n12 (ip_ro w ρ) 10 = ip_ro w ρ 10 from rfl, if_pos (y6.2.2 (by rw [q]; rfl)).1]
    exact j78
  · rw [if_neg q]
    exact j78
