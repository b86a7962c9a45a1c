/-! what does not look at some places of the row -/
theorem im_dl_c {ρ ρ' : Nat → Int32} (hw : im_WF ρ) (h : ∀ k, k = 1 ∨ (22 ≤ k ∧ k < 82) → ρ' k = ρ k) : im_dl ρ' = im_dl ρ := by
  have b1 := hw.1.2.1.1
  have key : ∀ a b l, l ≤ 20 → im_dr ρ' a b l = im_dr ρ a b l := by
    intro a b l
    induction l with
    | zero => intro _; rfl
    | succ l ih =>
      intro hl
      have e : im_lkb ρ' l a b = im_lkb ρ l a b := by
        unfold im_lkb
        rw [h (22 + 3 * l) (Or.inr (by omega)), h (22 + 3 * l + 1) (Or.inr (by omega))]
      rw [im_dr_s, im_dr_s, e, h (22 + 3 * l + 2) (Or.inr (by omega)), ih (by omega)]
  funext a b
  unfold im_dl
  rw [h 1 (Or.inl rfl)]
  exact key a b _ (by omega)
theorem im_av_c {ρ ρ' : Nat → Int32} (h0 : ρ' 0 = ρ 0) (h : ∀ v, v < im_tn (ρ 0) → (0 < ρ' (12 + v) ↔ 0 < ρ (12 + v))) : im_av ρ' = im_av ρ := by
  funext v
  unfold im_av im_al
  rw [h0]
  by_cases q : v < im_tn (ρ 0)
  · have := h v q
    by_cases p : 0 < ρ (12 + v)
    · rw [decide_eq_true p, decide_eq_true (this.mpr p)]
    · rw [decide_eq_false p, decide_eq_false (fun z => p (this.mp z))]
  · rw [decide_eq_false q, Bool.false_and, Bool.false_and]
theorem im_wn_c {ρ ρ' : Nat → Int32} (h : ∀ k, 135 ≤ k → ρ' k = ρ k) (i s : Nat) : im_wlen ρ' i s = im_wlen ρ i s ∧ im_wn ρ' i s = im_wn ρ i s := by
  have w0 := im_wa_ge i s
  refine ⟨?_, funext fun k => ?_⟩
  · unfold im_wlen
    rw [h _ (by omega)]
  · unfold im_wn
    rw [h _ (by omega)]
theorem im_ofS0 {l : Nat} {σ : iw_M} (h : 82 + 3 * l < 3255) : f_X6_ofSensor (nI l) (0 : Int32) σ = some (σ 85 (82 + 3 * l)) := im_ofSensor (w := 0) h
theorem im_ofI0 {l : Nat} {σ : iw_M} (h : 100 + 7 * l < 3255) : f_X6_ofInterest (nI l) (0 : Int32) σ = some (σ 85 (100 + 7 * l)) := im_ofInterest (w := 0) h
/-! the way that is found from f to g has m nodes, told backward by im_pk; none has 0 -/
def im_wy (w : Nat → Nat → Nat) (T : Nat → Nat) (f g m : Nat) : Prop := (T g = 1000000 ∧ m = 0) ∨ (T g < 1000000 ∧ ∃ K, K ≤ 9 ∧ m = K + 1 ∧ im_pk w T g K = f ∧ (∀ k, k < K → im_pk w T g k ≠ f) ∧ (∀ k, k ≤ K → im_pk w T g k < 10 ∧ T (im_pk w T g k) < 1000000) ∧ ∀ k, k < K → T (im_pk w T g (k + 1)) < T (im_pk w T g k))
section
variable {w : Nat → Nat → Nat} {A : Nat → Bool} {T : Nat → Nat} {f g m : Nat}
theorem im_wy_ex (hD : im_D w A f T) (hg : g < 10) : ∃ m, im_wy w T f g m := by
  have t1 := hD.2.1 g
  by_cases z : T g = 1000000
  · exact ⟨0, Or.inl ⟨z, rfl⟩⟩
  · have r9 := im_rk_9 (T := T) hg
    obtain ⟨K, k1, k2, k3, k4, k5⟩ := im_pk_ok hD 9 g hg (by omega) (by omega)
    exact ⟨K + 1, Or.inr ⟨by omega, K, k1, rfl, k2, k3, k4, k5⟩⟩
theorem im_wy_f (hy : im_wy w T f g m) : m ≤ 10 ∧ (∀ k, k < m → im_pk w T g k < 10 ∧ T (im_pk w T g k) < 1000000) ∧ (∀ k k', k < m → k' < m → im_pk w T g k = im_pk w T g k' → k = k') ∧ ∀ k, k + 1 < m → im_pk w T g k ≠ f := by
  rcases hy with ⟨z1, z2⟩ | ⟨z1, K, k1, k2, k3, k4, k5, k6⟩
  · exact ⟨by omega, fun k hk => by omega, fun k k' hk => by omega, fun k hk => by omega⟩
  · exact ⟨by omega, fun k hk => k5 k (by omega), fun k k' hk hk' e => im_pk_un k6 (by omega) (by omega) e, fun k hk => k4 k (by omega)⟩
theorem im_wy_l (hD : im_D w A f T) (hy : im_wy w T f g m) {k : Nat} (hk : k + 1 < m) : 0 < w (im_pk w T g (k + 1)) (im_pk w T g k) := by
  obtain ⟨a1, a2, a3, a4⟩ := im_wy_f hy
  rw [im_pk_s]
  exact (im_pv_ok hD (a4 k hk) (a2 k (by omega)).2).2.2.1
end
/-- the row after an exploring -/
def im_er (ρ : Nat → Int32) (i s : Nat) (T : Nat → Nat) (g m : Nat) : Nat → Int32 := im_sw (im_ru (im_ru (im_ru (im_spN (fun v => decide (T v < 1000000)) (im_tn (ρ 0)) 0 ρ) 7 (ρ 7 + 1)) 8 (ρ 8 + nI (im_nw (im_wn ρ i s) (im_pk (im_dl ρ) T g) (im_wlen ρ i s) (m - 1) 1))) 9 (ρ 9 + nI (im_nw (im_pk (im_dl ρ) T g) (im_wn ρ i s) m (im_wlen ρ i s - 1) 1))) i s m (fun k => im_pk (im_dl ρ) T g (m - 1 - k))
/-- the reference explores -/
theorem im_explores {n : Nat} (hn : 4096 ≤ n) {ρ : Nat → Int32} {σ : iw_M} (hw : im_WF ρ) (e : σ 85 = ρ) (hA : im_B01 σ 87 (im_av ρ)) {i s f g : Nat} (hi : i < im_tn (ρ 3)) (hs : s < im_tn (ρ 2)) (ef : im_tn (ρ (82 + 3 * s)) = f) (eg : im_tn (ρ (100 + 7 * i)) = g) (hf : im_av ρ f = true) : ∃ σ' T m, f_X6_explores n (nI i) (nI s) σ = some σ' ∧ im_D (im_dl ρ) (im_av ρ) f T ∧ im_wy (im_dl ρ) T f g m ∧ σ' 85 = im_er ρ i s T g m ∧ (∀ r, r ≠ 84 → r ≠ 85 → r ≠ 86 → r ≠ 88 → r ≠ 89 → r ≠ 90 → σ' r = σ r) ∧ ∀ j, j ≠ 6 → j ≠ 8 → σ' 84 j = σ 84 j := by
  have b0 := hw.1.1.1
  have b2 := hw.1.2.2.1.1
  have b3 := hw.1.2.2.2.1.1
  have hwa := im_WF_wa hw hi hs
  have f10 := im_av_lt hf
  have sf := hw.2.2.2.1 s hs
  have sg := hw.2.2.2.2.1 i hi
  have vf : ρ (82 + 3 * s) = nI f := by rw [← ef]; exact sf.2
  have vg : ρ (100 + 7 * i) = nI g := by rw [← eg]; exact sg.2
  have g10 : g < im_tn (ρ 0) := by rw [← eg]; exact sg.1
  obtain ⟨ρ7, e7⟩ : ∃ x, x = im_ru ρ 7 (ρ 7 + 1) := ⟨_, rfl⟩
  have w7 : im_WF ρ7 := by rw [e7]; exact im_WF_ru hw (Or.inl (by omega))
  have o7 : ∀ k, k ≠ 7 → ρ7 k = ρ k := fun k hk => by rw [e7]; exact im_ru_ne hk
  have d7 : im_dl ρ7 = im_dl ρ := im_dl_c hw (fun k hk => o7 k (by omega))
  have a7 : im_av ρ7 = im_av ρ := im_av_c (o7 0 (by omega)) (fun v _ => by rw [o7 _ (by omega)])
  obtain ⟨σ2, q2⟩ : ∃ x, x = iw_up σ 85 7 (σ 85 7 + 1) := ⟨_, rfl⟩
  have s2 : σ2 85 = ρ7 := by rw [q2, im_up_row, e7, e]
  have t2 : ∀ r, r ≠ 85 → σ2 r = σ r := fun r hr => by rw [q2, iw_up_ne hr]
  obtain ⟨σ3, T, x1, x2, x3, x4, x5⟩ := im_reaches hn w7 (f := f) (by omega) s2 (fun v hv => by rw [t2 87 (by decide), a7]; exact hA v hv)
  rw [a7, d7] at x3
  have hD := x3 hf
  have s3 : σ3 85 = ρ7 := by rw [x5 85 (by decide) (by decide)]; exact s2
  obtain ⟨m, hy⟩ := im_wy_ex hD (show g < 10 by omega)
  obtain ⟨m10, hp, hu, hnf⟩ := im_wy_f hy
  have hN : ∀ v, T v < 1000000 → v < im_tn (ρ 0) := fun v hv => by
    by_cases z : v = f
    · rw [z]; exact f10
    · exact im_av_lt (hD.2.2.1 v z hv).1
  have htr : ∃ σ4, f_X6_traces n (nI g) σ3 = some σ4 ∧ σ4 84 6 = nI m ∧ im_ls σ4 89 m (im_pk (im_dl ρ) T g) ∧ (∀ j, j ≠ 6 → σ4 84 j = σ3 84 j) ∧ ∀ r, r ≠ 84 → r ≠ 89 → σ4 r = σ3 r := by
    rcases hy with ⟨z1, z2⟩ | ⟨z1, K, k1, k2, k3, k4, k5, k6⟩
    · refine ⟨_, im_traces_0 hn (by omega) z1 x2, ?_, fun k hk => by omega, fun j hj => im_upn hj, fun r r1 r2 => iw_up_ne r1⟩
      rw [z2]
      exact im_ups
    · rw [k2]
      obtain ⟨σ4, y1, y2, y3, y4, y5⟩ := im_traces hn w7 (A := im_av ρ) (f := f) (g := g) (K := K) (T := T) (by rw [d7]; exact hD) (fun v hv => by rw [o7 0 (by omega)]; exact hN v hv) k1 (by rw [d7]; exact k3) (by rw [d7]; exact k4) (by rw [d7]; exact k5) s3 x2
      rw [d7] at y3
      exact ⟨σ4, y1, y2, y3, y4, y5⟩
  obtain ⟨σ4, y1, y2, y3, y4, y5⟩ := htr
  have s4 : σ4 85 = ρ7 := by rw [y5 85 (by decide) (by decide)]; exact s3
  have T4 : im_T86 σ4 T := fun v hv => by rw [y5 86 (by decide) (by decide)]; exact x2 v hv
  obtain ⟨σ5, z1, z2, z3⟩ := im_reached_M hD.2.1 (f_X6_explores_X67_33 n (nI i) (nI s)) (N := im_tn (ρ 0)) (by omega) (im_tn (ρ 0)) 0 n σ4 (by omega) (by omega) (by rw [s4, o7 0 (by omega)]; exact hw.1.1.2) T4
  rw [s4] at z2
  obtain ⟨ρ5, e5⟩ : ∃ x, x = im_spN (fun v => decide (T v < 1000000)) (im_tn (ρ 0)) 0 ρ7 := ⟨_, rfl⟩
  rw [← e5] at z2
  have w5 : im_WF ρ5 := by rw [e5]; exact im_WF_spN _ _ _ (by omega) w7
  have o5 : ∀ k, k ≠ 10 → k ≠ 7 → ¬ (12 ≤ k ∧ k < 22) → ρ5 k = ρ k := fun k k1 k2 k3 => by rw [e5, im_spN_o k1 _ _ _ (by omega), o7 k k2]
  obtain ⟨c1, c2⟩ := im_wn_c (ρ := ρ) (ρ' := ρ5) (fun k hk => o5 k (by omega) (by omega) (by omega)) i s
  have hi5 : i < im_tn (ρ5 3) := by rw [o5 3 (by omega) (by omega) (by omega)]; exact hi
  have hs5 : s < im_tn (ρ5 2) := by rw [o5 2 (by omega) (by omega) (by omega)]; exact hs
  have l10 : im_wlen ρ i s < 11 := (hw.2.2.2.2.2 i s hi hs).1.1
  have vl : ρ5 (im_wa i s) = nI (im_wlen ρ i s) := by rw [← c1]; exact (w5.2.2.2.2.2 i s hi5 hs5).1.2
  obtain ⟨σ6, q6⟩ : ∃ x, x = iw_up σ5 84 8 (nI (im_wlen ρ i s)) := ⟨_, rfl⟩
  obtain ⟨σ7, u1, u2, u3, u4⟩ := im_old_L w5 hi5 hs5 (f_X6_explores_X106_79 n (nI i) (nI s)) (im_wlen ρ5 i s) 0 n σ6 (by omega) (by rw [c1]; omega) (by rw [q6, iw_up_ne (by decide)]; exact z2) (by rw [q6, im_ups, c1])
  rw [c1, c2] at u2
  have s7 : σ7 85 = ρ5 := by rw [u4 85 (by decide), q6, iw_up_ne (by decide)]; exact z2
  have v6 : σ7 84 6 = nI m := by rw [u4 84 (by decide), q6, im_upn (by decide), z3 84 (by decide)]; exact y2
  have v8 : σ7 84 8 = nI (im_wlen ρ i s) := by rw [u4 84 (by decide), q6, im_ups]
  have v89 : im_ls σ7 89 m (im_pk (im_dl ρ) T g) := fun k hk => by rw [u4 89 (by decide), q6, iw_up_ne (by decide), z3 89 (by decide)]; exact y3 k hk
  have v90 : im_ls σ7 90 (im_wlen ρ i s) (im_wn ρ i s) := fun k hk => u2 k (Nat.zero_le _) hk
  have hq : ∀ k, k < im_wlen ρ i s → im_wn ρ i s k < 10 := fun k hk => by
    have := ((hw.2.2.2.2.2 i s hi hs).2.1 k hk).1
    unfold im_wn
    omega
  have hp1 : ∀ k, k < m → im_pk (im_dl ρ) T g k < 10 := fun k hk => (hp k hk).1
  have S1 := im_str_L hn (l := im_wlen ρ i s) (m := m) ⟨by omega, m10⟩ hq hp1 (f_X6_explores_X165_108 n (nI i) (nI s)) (m - 1) 1 n σ7 (by omega) (by omega) (by omega) v6 v8 v90 v89
  obtain ⟨σ8, q8⟩ : ∃ x, x = iw_up σ7 85 8 (σ7 85 8 + nI (im_nw (im_wn ρ i s) (im_pk (im_dl ρ) T g) (im_wlen ρ i s) (m - 1) 1)) := ⟨_, rfl⟩
  rw [← q8] at S1
  have o8 : ∀ r, r ≠ 85 → σ8 r = σ7 r := fun r hr => by rw [q8, iw_up_ne hr]
  have S2 := im_thi_L hn (l := m) (m := im_wlen ρ i s) ⟨m10, by omega⟩ hp1 hq (f_X6_explores_X224_167 n (nI i) (nI s)) (im_wlen ρ i s - 1) 1 n σ8 (by omega) (by omega) (by omega) (by rw [o8 84 (by decide)]; exact v6) (by rw [o8 84 (by decide)]; exact v8) (fun k hk => by rw [o8 89 (by decide)]; exact v89 k hk) (fun k hk => by rw [o8 90 (by decide)]; exact v90 k hk)
  obtain ⟨σ9, q9⟩ : ∃ x, x = iw_up σ8 85 9 (σ8 85 9 + nI (im_nw (im_pk (im_dl ρ) T g) (im_wn ρ i s) m (im_wlen ρ i s - 1) 1)) := ⟨_, rfl⟩
  rw [← q9] at S2
  have o9 : ∀ r, r ≠ 85 → σ9 r = σ7 r := fun r hr => by rw [q9, iw_up_ne hr, o8 r hr]
  obtain ⟨σ', n1, n2, n3⟩ := im_setM hn (i := i) (s := s) (m := m) (by omega) (by omega) m10 (p := im_pk (im_dl ρ) T g) (σ := σ9) (by rw [o9 84 (by decide)]; exact v6) (fun k hk => by rw [o9 89 (by decide)]; exact v89 k hk)
  refine ⟨σ', T, m, ?_, hD, hy, ?_, fun r r1 r2 r3 r4 r5 r6 => ?_, fun j j1 j2 => ?_⟩
  · have r7 : iw_rd σ 85 (7 : Int32) = some (σ 85 7) := im_m_rd (k := 7) (by decide)
    have wr7 : ∀ x, iw_wr σ 85 (7 : Int32) x = some (iw_up σ 85 7 x) := fun x => im_wr (a := 85) (k := 7) (by rw [im_al85]; decide)
    unfold f_X6_explores
    rw [r7, im_bind, wr7, im_bind, ← q2, im_ofS0 (by omega), im_bind, s2, o7 _ (by omega), vf, x1, im_bind, im_ofI0 (by omega), im_bind, s3, o7 _ (by omega), vg, y1, im_bind]
    rw [show f_X6_explores_L33 (f_X6_explores_X67_33 n (nI i) (nI s)) n (0 : Int32) σ4 = f_X6_explores_L33 (f_X6_explores_X67_33 n (nI i) (nI s)) n (nI 0) σ4 from rfl, z1]
    unfold f_X6_explores_X67_33
    rw [im_lengthOf (by omega), im_bind, im_let, z2, vl, ← q6, show f_X6_explores_L79 (nI i) (nI s) (f_X6_explores_X106_79 n (nI i) (nI s)) n (0 : Int32) σ6 = f_X6_explores_L79 (nI i) (nI s) (f_X6_explores_X106_79 n (nI i) (nI s)) n (nI 0) σ6 from rfl, u1]
    unfold f_X6_explores_X106_79
    rw [show (1 : Int32) = nI 1 from rfl, S1]
    unfold f_X6_explores_X165_108
    rw [show (1 : Int32) = nI 1 from rfl, S2]
    exact n1
  · have h8 : σ8 85 = im_ru ρ5 8 (ρ 8 + nI (im_nw (im_wn ρ i s) (im_pk (im_dl ρ) T g) (im_wlen ρ i s) (m - 1) 1)) := by rw [q8, im_up_row, s7, o5 8 (by omega) (by omega) (by omega)]
    have h9 : σ9 85 = im_ru (im_ru ρ5 8 (ρ 8 + nI (im_nw (im_wn ρ i s) (im_pk (im_dl ρ) T g) (im_wlen ρ i s) (m - 1) 1))) 9 (ρ 9 + nI (im_nw (im_pk (im_dl ρ) T g) (im_wn ρ i s) m (im_wlen ρ i s - 1) 1)) := by rw [q9, im_up_row, h8, im_ru_ne (show 9 ≠ 8 by decide), o5 9 (by omega) (by omega) (by omega)]
    rw [n2, h9]
    unfold im_er
    rw [e5, e7, im_spN_ru (by omega) (by omega)]
  · rw [n3 r r2, o9 r r2, u4 r r6, q6, iw_up_ne r1, z3 r r2, y5 r r1 r5, x5 r r3 r4, t2 r r2]
  · rw [n3 84 (by decide), o9 84 (by decide), u4 84 (by decide), q6, im_upn j2, z3 84 (by decide), y4 j j1, x5 84 (by decide) (by decide), t2 84 (by decide)]
