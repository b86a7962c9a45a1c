/-! a change that the law makes -/
def ip_L (e : Int32) (R : Nat) (σ : iw_M) (ρ : Nat → Int32) : Prop := ip_G σ ρ ∧ ip_V e (30 * R) ρ ∧ ρ 5 = nI R ∧ σ 84 0 = e
theorem ip_low (x : Int32) {m : Nat} (h0 : 0 < m) (hm : m < 2 ^ 31) : ∃ j, j < m ∧ f_L_low x (nI m) = some (nI j) := by
  obtain ⟨a, ha, ea⟩ := pk_andE x (m := 2147483647) 31 (by decide)
  refine ⟨a % m, Nat.mod_lt _ h0, ?_⟩
  unfold f_L_low
  rw [ea]
  have r : iw_rem (nI a) (nI m) = some (nI (a % m)) := by
    unfold iw_rem
    rw [if_neg (nI_ne0 h0 hm), pk_rem ha h0 hm]
  rw [r, im_bind]
theorem ip_rd84 (σ : iw_M) : iw_rd σ 84 (0 : Int32) = some (σ 84 0) := im_rd (a := 84) (k := 0) (by decide)
theorem ip_wr84 (σ : iw_M) (v : Int32) : iw_wr σ 84 (0 : Int32) v = some (iw_up σ 84 0 v) := im_wr (a := 84) (k := 0) (by decide)
theorem ip_up84 {σ : iw_M} {ρ : Nat → Int32} {v : Int32} (h : ip_G σ ρ) : ip_G (iw_up σ 84 0 v) ρ := ip_keep h (fun b hb => iw_up_ne (by omega))
theorem ip_up84T {σ : iw_M} {ρ : Nat → Int32} {v : Int32} (h : ip_T σ ρ) : ip_T (iw_up σ 84 0 v) ρ := by
  obtain ⟨tw, sz', od', t0, t1, t2, t3, t4, t5⟩ := h
  have := Nat.mod_lt (od' + (sz' - 1)) (show 0 < 5 by decide)
  exact ⟨tw, sz', od', t0, t1, t2, by rw [iw_up_ne (by decide)]; exact t3, by rw [iw_up_ne (by decide)]; exact t4, im_NR_congr t5 (fun j _ _ => iw_up_ne (by omega))⟩
/-- what a change leaves -/
def ip_C (e : Int32) (R : Nat) (ρ : Nat → Int32) (r : Int32) (σ' : iw_M) : Prop := (r < -1000 ∧ ip_L e R σ' ρ) ∨ ∃ e' R' ρ', -1000 ≤ r ∧ R ≤ R' ∧ R' ≤ R + 8 ∧ im_tn (ρ 0) ≤ im_tn (ρ' 0) ∧ ip_L e' R' σ' ρ' ∧ ip_T σ' ρ
theorem ip_neg {r : Int32} (h : r < -1000) : r < 0 := by
  rw [Int32.lt_iff_toInt_lt] at h ⊢
  rw [show (-1000 : Int32).toInt = -1000 by decide] at h
  rw [show (0 : Int32).toInt = 0 by decide]
  omega
theorem ip_nn {x : Nat} (h : x < 2 ^ 31) : -1000 ≤ nI x := Int32.le_trans (show -1000 ≤ (0 : Int32) by decide) (nI_pos' h)
theorem ip_ge0 {x : Int32} (h : 0 ≤ x) : -1000 ≤ x := Int32.le_trans (show -1000 ≤ (0 : Int32) by decide) h
theorem ip_lit (n : Nat) : (OfNat.ofNat n : Int32) = nI n := rfl
theorem ip_ch0 {e : Int32} {R : Nat} {σ : iw_M} {ρ : Nat → Int32} (h : ip_L e R σ ρ) (p2 : Int32) {m : Nat} (h0 : 0 < m) (hm : m ≤ 400) : ∃ r σ', f_L_changes_J105 4096 p2 σ (nI m) = some (r, σ') ∧ ip_C e R ρ r σ' := by
  obtain ⟨hG, hV, h5, h84⟩ := h
  unfold f_L_changes_J105
  obtain ⟨j, hj, ej⟩ := ip_low (p2 >>> ((4 : Int32) &&& 31)) h0 (show m < 2 ^ 31 by omega)
  rw [ej, im_bind, im_let, show (1 : Int32) + nI j = nI (1 + j) from nI_add 1 j]
  obtain ⟨r, σ', x1, x2, -, x3⟩ := op_addNode 4096 hG (nI (1 + j))
  rw [x1, im_b2, ip_rd84, im_bind]
  have d : 1 ≤ nI (1 + j) ∧ nI (1 + j) ≤ 10000 := ⟨by rw [im_lit 1, im_le (by omega) (by omega)]; omega, by rw [im_lit 10000, im_le (by omega) (by omega)]; omega⟩
  rcases x3 with ⟨a, b, -⟩ | ⟨a, b, c, d', f, g⟩
  · rw [if_pos (ip_neg a)]
    unfold f_L_changes_J134
    rw [ip_wr84, im_bind]
    refine ⟨_, _, rfl, Or.inl ⟨a, ip_up84 b, hV, h5, ?_⟩⟩
    rw [im_ups, x2, h84, Int32.add_zero]
  · rw [d', if_neg (by rw [im_lit 0, im_lt (by omega) (by omega)]; omega)]
    unfold f_L_changes_J134
    rw [ip_wr84, im_bind]
    refine ⟨_, _, rfl, Or.inr ⟨e + nI (1 + j), R, _, ip_nn (by omega), Nat.le_refl _, by omega, (by unfold ip_nd; rw [im_ru_eq, im_tn_nI (by omega)]; omega), ⟨ip_up84 f, ip_V_nd hV hG.2.1 a (Int32.le_trans (by decide) b), ?_, ?_⟩, ip_up84T g⟩⟩
    · unfold ip_nd
      rw [im_ru_ne (by decide), im_ru_ne (by omega), h5]
    · rw [im_ups, x2, h84]
theorem ip_lo (x : Int32) {c : Int32} {m : Nat} (hc : c = nI m) (h0 : 0 < m) (hm : m < 2 ^ 31) : ∃ j, j < m ∧ f_L_low x c = some (nI j) := by
  rw [hc]
  exact ip_low x h0 hm
theorem ip_changes {e : Int32} {R : Nat} {σ : iw_M} {ρ : Nat → Int32} (h : ip_L e R σ ρ) (hR : R ≤ 1000) (p2 : Int32) : ∃ r σ', f_L_changes 4096 p2 σ = some (r, σ') ∧ ip_C e R ρ r σ' := by
  obtain ⟨hG, hV, h5, h84⟩ := id h
  have hW := hG.2.1
  unfold f_L_changes
  obtain ⟨j1, hj1, e1⟩ := ip_lo (p2 >>> ((4 : Int32) &&& 31)) (c := 10) (m := 10) rfl (by decide) (by decide)
  obtain ⟨j2, hj2, e2⟩ := ip_lo (p2 >>> ((8 : Int32) &&& 31)) (c := 10) (m := 10) rfl (by decide) (by decide)
  obtain ⟨j3, hj3, e3⟩ := ip_lo p2 (c := 14) (m := 14) rfl (by decide) (by decide)
  rw [e1, im_bind, e2, im_bind, e3, im_bind]
  by_cases c0 : nI j3 = (0 : Int32)
  · rw [if_pos c0]
    by_cases q : ((p2 >>> ((20 : Int32) &&& 31)) &&& (1 : Int32)) = (0 : Int32)
    · rw [if_pos q]
      exact ip_ch0 h p2 (m := 40) (by decide) (by decide)
    · rw [if_neg q]
      exact ip_ch0 h p2 (m := 400) (by decide) (by decide)
  rw [if_neg c0]
  by_cases c1 : nI j3 = (1 : Int32)
  · rw [if_pos c1]
    obtain ⟨j, hj, ej⟩ := ip_lo (p2 >>> ((8 : Int32) &&& 31)) (c := 60) (m := 60) rfl (by decide) (by decide)
    rw [ej, im_bind]
    obtain ⟨r, σ', x1, x2, -, x3⟩ := op_charge hG (nI j1) (nI j)
    rw [x1]
    unfold iw_let2
    simp only []
    rw [ip_rd84, im_bind]
    rcases x3 with ⟨a, b⟩ | ⟨k, k1, k2, k3, k4, k5, k6, k7⟩
    · rw [if_pos (ip_neg a)]
      unfold f_L_changes_J177
      rw [ip_wr84, im_bind]
      refine ⟨_, _, rfl, Or.inl ⟨a, ip_up84 b, hV, h5, ?_⟩⟩
      rw [im_ups, x2, h84, Int32.add_zero]
    · have hk0 : 0 ≤ ρ (12 + k) := hV.1.1 k k1
      rw [k5, if_neg (Int32.not_lt.mpr hk0)]
      unfold f_L_changes_J177
      rw [ip_wr84, im_bind]
      refine ⟨_, _, rfl, Or.inr ⟨e + (nI j - ρ (12 + k)), R, _, ip_ge0 hk0, Nat.le_refl _, by omega, (by rw [im_ru_ne (by omega)]; exact Nat.le_refl _), ⟨ip_up84 k6, ip_V_ch hV hW k1 k3, ?_, ?_⟩, ip_up84T k7⟩⟩
      · rw [im_ru_ne (by omega), h5]
      · rw [im_ups, x2, h84]
  rw [if_neg c1]
  by_cases c2 : nI j3 = (2 : Int32) ∨ nI j3 = (3 : Int32) ∨ nI j3 = (4 : Int32)
  · rw [if_pos c2]
    obtain ⟨j, hj, ej⟩ := ip_lo (p2 >>> ((12 : Int32) &&& 31)) (c := 6) (m := 6) rfl (by decide) (by decide)
    rw [ej, im_bind]
    obtain ⟨r, σ', x1, x2, x3⟩ := op_link (n := 4096) (by decide) hG (nI j1) (nI j2) ((1 : Int32) + nI j)
    rw [x1, im_b2]
    rcases x3 with ⟨a, b, -⟩ | ⟨a, b, w, y1, y2, y3, y4, y5, y6, y7, y8, y9, y10, y11, y12, y13⟩
    · exact ⟨_, _, rfl, Or.inl ⟨a, b, hV, h5, by rw [x2]; exact h84⟩⟩
    · refine ⟨_, _, rfl, Or.inr ⟨e, R, _, by rw [y11]; exact ip_nn (by omega), Nat.le_refl _, by omega, (by rw [ip_lk_o (by omega) (by omega)]; exact Nat.le_refl _), ⟨y12, ip_V_lk hV hW y9, ?_, by rw [x2]; exact h84⟩, y13⟩⟩
      rw [ip_lk_o (by omega) (by omega), h5]
  rw [if_neg c2]
  by_cases c5 : nI j3 = (5 : Int32)
  · rw [if_pos c5]
    obtain ⟨j, hj, ej⟩ := ip_lo (p2 >>> ((4 : Int32) &&& 31)) (c := 20) (m := 20) rfl (by decide) (by decide)
    rw [ej, im_bind]
    obtain ⟨r, σ', x1, x2, -, x3⟩ := op_cut (n := 4096) (by decide) hG (nI j)
    rw [x1, im_b2]
    have b1 := hW.1.2.1.1
    rcases x3 with ⟨a, b⟩ | ⟨l, y1, y2, y3, y4, y5⟩
    · exact ⟨_, _, rfl, Or.inl ⟨a, b, hV, h5, by rw [x2]; exact h84⟩⟩
    · refine ⟨_, _, rfl, Or.inr ⟨e, R, _, by rw [y3]; exact ip_nn (by omega), Nat.le_refl _, by omega, (by unfold ip_cu; rw [if_neg (by decide), if_neg (by omega)]; exact Nat.le_refl _), ⟨y4, ip_V_cu hV hW (by omega), ?_, by rw [x2]; exact h84⟩, y5⟩⟩
      unfold ip_cu
      rw [if_neg (by decide), if_neg (by omega), h5]
  rw [if_neg c5]
  by_cases c6 : nI j3 = (6 : Int32)
  · rw [if_pos c6]
    obtain ⟨j, hj, ej⟩ := ip_lo (p2 >>> ((8 : Int32) &&& 31)) (c := 2) (m := 2) rfl (by decide) (by decide)
    obtain ⟨j', hj', ej'⟩ := ip_lo (p2 >>> ((10 : Int32) &&& 31)) (c := 201) (m := 201) rfl (by decide) (by decide)
    rw [ej, im_bind, ej', im_bind]
    obtain ⟨r, σ', x1, x2, x3⟩ := op_addSensor (n := 4096) hG (nI j1) (nI j) (nI j' - (100 : Int32))
    rw [x1, im_b2]
    rcases x3 with ⟨a, b, -⟩ | ⟨l, y1, y2, y3, y4, y5, y6, y7, y8⟩
    · exact ⟨_, _, rfl, Or.inl ⟨a, b, hV, h5, by rw [x2]; exact h84⟩⟩
    · refine ⟨_, _, rfl, Or.inr ⟨e, R, _, by rw [y6]; exact ip_nn (by omega), Nat.le_refl _, by omega, (by rw [(ip_se_v (by omega)).2.2.2.2.2 0 (by omega) (by omega) (fun i _ => by have := im_wa_ge i (im_tn (ρ 2)); omega)]; exact Nat.le_refl _), ⟨y7, ip_V_se hV hW y3 y4, ?_, by rw [x2]; exact h84⟩, y8⟩⟩
      rw [(ip_se_v (by omega)).2.2.2.2.2 5 (by omega) (by omega) (fun i _ => by have := im_wa_ge i (im_tn (ρ 2)); omega), h5]
  rw [if_neg c6]
  by_cases c7 : nI j3 = (7 : Int32)
  · rw [if_pos c7]
    obtain ⟨j, hj, ej⟩ := ip_lo (p2 >>> ((4 : Int32) &&& 31)) (c := 6) (m := 6) rfl (by decide) (by decide)
    obtain ⟨j', hj', ej'⟩ := ip_lo (p2 >>> ((8 : Int32) &&& 31)) (c := 201) (m := 201) rfl (by decide) (by decide)
    rw [ej, im_bind, ej', im_bind]
    obtain ⟨r, σ', x1, x2, -, x3⟩ := op_measure hG (nI j) (nI j' - (100 : Int32))
    rw [x1]
    unfold iw_let2
    simp only []
    rcases x3 with ⟨a, b⟩ | ⟨k, k1, k2, k3, k4, k5, k6, k7⟩
    · exact ⟨_, _, rfl, Or.inl ⟨a, b, hV, h5, by rw [x2]; exact h84⟩⟩
    · refine ⟨_, _, rfl, Or.inr ⟨e, R, _, by rw [k5, ← Nat.add_assoc]; exact hV.2.2.2 k k1, Nat.le_refl _, by omega, (by rw [im_ru_ne (by omega)]; exact Nat.le_refl _), ⟨k6, ip_V_me hV hW k1 k3, ?_, by rw [x2]; exact h84⟩, k7⟩⟩
      rw [im_ru_ne (by omega), h5]
  rw [if_neg c7]
  by_cases c8 : nI j3 = (8 : Int32) ∨ nI j3 = (9 : Int32)
  · rw [if_pos c8]
    obtain ⟨a1, ha1, f1⟩ := ip_lo (p2 >>> ((8 : Int32) &&& 31)) (c := 2) (m := 2) rfl (by decide) (by decide)
    obtain ⟨a2, ha2, f2⟩ := ip_lo (p2 >>> ((10 : Int32) &&& 31)) (c := 150) (m := 150) rfl (by decide) (by decide)
    obtain ⟨a3, ha3, f3⟩ := ip_lo (p2 >>> ((18 : Int32) &&& 31)) (c := 51) (m := 51) rfl (by decide) (by decide)
    obtain ⟨a4, ha4, f4⟩ := ip_lo (p2 >>> ((20 : Int32) &&& 31)) (c := 30) (m := 30) rfl (by decide) (by decide)
    rw [f1, im_bind, f2, im_bind, f3, im_bind, show f_X5_count 4096 (5 : Int32) σ = f_X5_count 4096 (nI 5) σ from rfl, op_count (n := 4096) (by decide) hG (w := 5) (by decide), im_bind, f4, im_bind]
    obtain ⟨r, σ', x1, x2, x3⟩ := op_ask (n := 4096) (by decide) hG (nI j1) (nI a1) (nI a2 - (100 : Int32)) ((50 : Int32) + nI a3) (im_n12 ρ 5 + nI a4)
    rw [x1, im_b2]
    rcases x3 with ⟨a, b, -⟩ | ⟨l, y1, y2, y3, y4, y5, y6⟩
    · exact ⟨_, _, rfl, Or.inl ⟨a, b, hV, h5, by rw [x2]; exact h84⟩⟩
    · refine ⟨_, _, rfl, Or.inr ⟨e, R, _, by rw [y4]; exact ip_nn (by omega), Nat.le_refl _, by omega, (by rw [(ip_in_v y3).2.2 0 (by omega) (by omega) (fun s _ => by have := im_wa_ge (im_tn (ρ 3)) s; omega)]; exact Nat.le_refl _), ⟨y5, ip_V_in hV hW y3, ?_, by rw [x2]; exact h84⟩, y6⟩⟩
      rw [(ip_in_v y3).2.2 5 (by omega) (by omega) (fun s _ => by have := im_wa_ge (im_tn (ρ 3)) s; omega), h5]
  rw [if_neg c8]
  by_cases c10 : nI j3 = (10 : Int32)
  · rw [if_pos c10]
    by_cases q : ((p2 >>> ((4 : Int32) &&& 31)) &&& (1 : Int32)) = (0 : Int32)
    · rw [if_pos q]
      obtain ⟨j, hj, ej⟩ := ip_lo (p2 >>> ((5 : Int32) &&& 31)) (c := 5) (m := 5) rfl (by decide) (by decide)
      rw [ej, im_bind]
      obtain ⟨r, σ', x1, x2, -, x3⟩ := op_withdraw (n := 4096) (by decide) hG (nI j)
      rw [x1, im_b2]
      have b3 := hW.1.2.2.2.1.1
      rcases x3 with ⟨a, b⟩ | ⟨i, y1, y2, y3, y4, y5⟩
      · exact ⟨_, _, rfl, Or.inl ⟨a, b, hV, h5, by rw [x2]; exact h84⟩⟩
      · refine ⟨_, _, rfl, Or.inr ⟨e, R, _, by rw [y3]; exact ip_nn (by omega), Nat.le_refl _, by omega, (by rw [(ip_dr_d y1 (by omega)).2.2.2 0 (by omega) (by omega) (by omega)]; exact Nat.le_refl _), ⟨y4, ip_V_dr hV hW y1, ?_, by rw [x2]; exact h84⟩, y5⟩⟩
        rw [(ip_dr_d y1 (by omega)).2.2.2 5 (by omega) (by omega) (by omega), h5]
    · rw [if_neg q]
      obtain ⟨j, hj, ej⟩ := ip_lo (p2 >>> ((5 : Int32) &&& 31)) (c := 12) (m := 12) rfl (by decide) (by decide)
      rw [ej, im_bind]
      obtain ⟨r, σ', x1, x2, x3⟩ := op_setPeriod 4096 hG ((1 : Int32) + nI j)
      rw [x1, im_b2]
      have b4 := hW.1.2.2.2.2.1
      have b4' := b4.1
      rcases x3 with ⟨a, b, -⟩ | ⟨w, y1, y2, y3, y4, y5, y6⟩
      · exact ⟨_, _, rfl, Or.inl ⟨a, b, hV, h5, by rw [x2]; exact h84⟩⟩
      · refine ⟨_, _, rfl, Or.inr ⟨e, R, _, by rw [y4, b4.2]; exact ip_nn (by omega), Nat.le_refl _, by omega, (by rw [im_ru_ne (by decide)]; exact Nat.le_refl _), ⟨y5, ip_V_4 hV, ?_, by rw [x2]; exact h84⟩, y6⟩⟩
        rw [im_ru_ne (by decide), h5]
  rw [if_neg c10]
  obtain ⟨j, hj, ej⟩ := ip_lo (p2 >>> ((4 : Int32) &&& 31)) (c := 8) (m := 8) rfl (by decide) (by decide)
  rw [ej, im_bind, show (1 : Int32) + nI j = nI (1 + j) from nI_add 1 j]
  obtain ⟨r, σ', x1, x2, -, x3⟩ := op_rounds hG (nI (1 + j))
  rw [x1, im_b2]
  rcases x3 with ⟨a, b, -⟩ | ⟨w, y1, y2, y3, y4, y5, ⟨y6, -⟩, y7, y8⟩
  · exact ⟨_, _, rfl, Or.inl ⟨a, b, hV, h5, by rw [x2]; exact h84⟩⟩
  · have ew := (im_eq (by omega) (by omega)).mp y3
    refine ⟨_, _, rfl, Or.inr ⟨e, R + w, _, by rw [y4]; exact ip_nn (by omega), by omega, by omega, (by rw [y6.1.1]; exact Nat.le_refl _), ⟨y7, ?_, ?_, by rw [x2]; exact h84⟩, y8⟩⟩
    · have := (y6.1.2 e (30 * R) hV).1
      rw [← Nat.mul_add] at this
      exact this
    · rw [y6.2.1, h5, nI_add]
