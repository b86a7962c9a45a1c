/-! a sensor of a text; an item; both sides -/
theorem im_and1 : (1 : Int32) &&& 1 = 1 := by decide
theorem im_and0 : (0 : Int32) &&& 1 = 0 := by decide
section
variable {len : Nat} {q : Nat → Nat} {p : Nat} {σx σm : iw_M}
theorem im_minus {n : Nat} (hn : 4096 ≤ n) (h : im_tx len q p σx σm) (a b : Int32) : ∃ g τx τm p', (iw_b2 (f_X4_nextCode n σx) fun v17 m18 => if v17 = (45 : Int32) then (iw_b2 (f_X4_readSign n (45 : Int32) m18) fun v30 m31 => if v30 = (0 : Int32) then (f_X4_readSensor_J113 n a b m31) else (f_X4_readSensor_J114 n a b (1 : Int32) m31)) else (f_X4_readSensor_J113 n a b m18)) = f_X4_readSensor_J114 n a b g τx ∧ f_X6_sign n (45 : Int32) σm = some (g, τm) ∧ p ≤ p' ∧ im_tx len q p' τx τm ∧ im_kx σx τx ∧ im_kN σm τm := by
  obtain ⟨a1, a2, a3, a4, a5, a6, a7⟩ := id h
  have sl := im_S_le (q := q) a1
  have c := im_cd_eq (s := im_S len q p) (show 45 < 256 by decide) (fun j hj => (a2.2.2 j hj).1)
  obtain ⟨m1, m2⟩ := im_signM hn (k := 45) (by decide) a1 a3 a5
  rw [im_next hn a1 a2 a4, im_b2]
  by_cases z : im_S len q p < len ∧ q (im_S len q p) = 45
  · have sx := (im_signX hn (σ := iw_up σx 6 5 (nI (im_S len q p))) (k := 45) (by decide) sl.2 (im_tX_up a2 (by decide)) im_ups).1 (by rw [im_S_S a1]; exact z)
    rw [im_S_S a1, im_up_up] at sx
    refine ⟨1, iw_up σx 6 5 (nI (im_S len q p + 1)), iw_up σm 84 12 (nI (im_S len q p + 1)), im_S len q p + 1, ?_, m1 z, by omega, im_tx_up h (by omega) im_ups im_ups (im_upn (by decide)) (fun r hr => iw_up_ne hr) (im_upn (by decide)) (fun r hr => iw_up_ne hr), im_kx_u (by decide), im_kN_u (Or.inl rfl)⟩
    rw [if_pos (show im_cd len q (im_S len q p) = (45 : Int32) from c.mpr z), show f_X4_readSign n (45 : Int32) (iw_up σx 6 5 (nI (im_S len q p))) = f_X4_readSign n (nI 45) (iw_up σx 6 5 (nI (im_S len q p))) from rfl, sx, im_b2, if_neg (by decide)]
  · refine ⟨0, iw_up σx 6 5 (nI (im_S len q p)), iw_up σm 84 12 (nI (im_S len q p)), im_S len q p, ?_, m2 z, sl.1, im_tx_up h sl.2 im_ups im_ups (im_upn (by decide)) (fun r hr => iw_up_ne hr) (im_upn (by decide)) (fun r hr => iw_up_ne hr), im_kx_u (by decide), im_kN_u (Or.inl rfl)⟩
    rw [if_neg (show ¬ im_cd len q (im_S len q p) = (45 : Int32) from fun y => z (c.mp y))]
    rfl
theorem im_jsensor {n : Nat} (hn : 4096 ≤ n) (h : im_tx len q p σx σm) (hp : p < len) (hq : q p = 115) : im_res len q p σx σm (f_X4_readSensor n σx) (f_X6_readsSensor n σm) := by
  obtain ⟨a1, a2, a3, a4, a5, a6, a7⟩ := id h
  have b0 := a7.1.1.1
  have b2 := a7.1.2.2.1.1
  obtain ⟨-, X2, Y2⟩ := im_nums n h (j := 2) (by decide)
  have nb : p < len → q p ≠ 32 := fun _ => by omega
  unfold f_X4_readSensor f_X6_readsSensor
  rw [show f_X1_number n 36 (2 : Int32) σx = f_X1_number n 36 (nI 2) σx from rfl, X2, im_bind, show iw_rd σm 85 (2 : Int32) = iw_rd σm 85 (nI 2) from rfl, Y2, im_bind]
  by_cases e : im_tn (σm 85 2) = 6
  · rw [if_neg (by rw [im_lit 6, im_lt (by omega) (by decide)]; omega), if_pos (by rw [e]; rfl), im_refuse, im_let2]
    obtain ⟨r1, r2⟩ := im_ref h nb a4
    exact Or.inr ⟨_, _, rfl, rfl, r1, r2, im_kM_0 _⟩
  · rw [if_pos (by rw [im_lit 6, im_lt (by omega) (by decide)]; omega), if_neg (by rw [im_lit 6, im_eq (by omega) (by decide)]; exact e)]
    have sx := (im_signX hn (k := 115) (by decide) a1 a2 a4).1 (by rw [im_S_id a1 nb]; exact ⟨hp, hq⟩)
    rw [im_S_id a1 nb] at sx
    have h1 : im_tx len q (p + 1) (iw_up σx 6 5 (nI (p + 1))) (iw_up σm 84 12 (nI (p + 1))) := im_tx_up h (by omega) im_ups im_ups (im_upn (by decide)) (fun r hr => iw_up_ne hr) (im_upn (by decide)) (fun r hr => iw_up_ne hr)
    obtain ⟨-, X0, Y0⟩ := im_nums n h1 (j := 0) (by decide)
    rw [iw_up_ne (show (85 : Nat) ≠ 84 by decide)] at X0 Y0
    rw [show f_X4_readSign n (115 : Int32) σx = f_X4_readSign n (nI 115) σx from rfl, sx, im_b2, if_neg (show ¬ (1 : Int32) = 0 by decide), show f_X1_number n 36 (0 : Int32) (iw_up σx 6 5 (nI (p + 1))) = f_X1_number n 36 (nI 0) (iw_up σx 6 5 (nI (p + 1))) from rfl, X0, im_bind, im_let, a5, nI_1, show iw_rd (iw_up σm 84 12 (nI (p + 1))) 85 (0 : Int32) = iw_rd (iw_up σm 84 12 (nI (p + 1))) 85 (nI 0) from rfl, Y0, im_bind]
    unfold f_X4_readSensor_J50
    have kx1 : im_kx σx (iw_up σx 6 5 (nI (p + 1))) := im_kx_u (by decide)
    have kn1 : im_kN σm (iw_up σm 84 12 (nI (p + 1))) := im_kN_u (Or.inl rfl)
    rcases im_jnum hn h1 (0 : Int32) (nI (im_tn (σm 85 0)) - 1) with ⟨A, τ1, μ1, p1, A1, A2, A3, c1, c2, c3, c4, c5, c6, c7⟩ | ⟨τx, τm, e1, e2, e3, e4, e5⟩
    · obtain ⟨A', hA', eA⟩ := (im_idx (nI A) (n := im_tn (σm 85 0)) (by omega)).mp ⟨A2, A3⟩
      rw [im_eq (by omega) (by omega)] at eA
      have kx2 := im_kx_t kx1 c6
      have kn2 := im_kN_t kn1 c7
      rw [c1, im_b2, if_neg (im_m1 (by omega)), c2, im_b2, if_neg (show ¬ (1 : Int32) = 0 by decide), c3, im_let]
      rcases im_jsign hn (k := 44) (by decide) c5 with ⟨τ2, μ2, p2, d1, d2, d3, d4, d5, d6⟩ | ⟨τx, τm, e1, e2, e3, e4, e5⟩
      · have kx3 := im_kx_t kx2 d5
        have kn3 := im_kN_t kn2 d6
        rw [show f_X4_readSign n (44 : Int32) τ1 = f_X4_readSign n (nI 44) τ1 from rfl, d1, im_b2, if_neg (show ¬ (1 : Int32) = 0 by decide), show f_X6_sign n (44 : Int32) μ1 = f_X6_sign n (nI 44) μ1 from rfl, d2, im_b2, if_neg (show ¬ (1 : Int32) = 0 by decide)]
        rcases im_jnum hn d4 (0 : Int32) (7 : Int32) with ⟨K, τ3, μ3, p3, K1, K2, K3, f1, f2, f3, f4, f5, f6, f7⟩ | ⟨τx, τm, e1, e2, e3, e4, e5⟩
        · have kx4 := im_kx_t kx3 f6
          have kn4 := im_kN_t kn3 f7
          rw [f1, im_b2, if_neg (im_m1 (by omega)), f2, im_b2, if_neg (show ¬ (1 : Int32) = 0 by decide), f3, im_let]
          rcases im_jsign hn (k := 61) (by decide) f5 with ⟨τ4, μ4, p4, g1, g2, g3, g4, g5, g6⟩ | ⟨τx, τm, e1, e2, e3, e4, e5⟩
          · have kx5 := im_kx_t kx4 g5
            have kn5 := im_kN_t kn4 g6
            rw [show f_X4_readSign n (61 : Int32) τ3 = f_X4_readSign n (nI 61) τ3 from rfl, g1, im_b2, if_neg (show ¬ (1 : Int32) = 0 by decide), show f_X6_sign n (61 : Int32) μ3 = f_X6_sign n (nI 61) μ3 from rfl, g2, im_b2, if_neg (show ¬ (1 : Int32) = 0 by decide)]
            obtain ⟨g, τ5, μ5, p5, i1, i2, i3, i4, i5, i6⟩ := im_minus hn g4 (nI A) (nI K)
            have kx6 := im_kx_t kx5 i5
            have kn6 := im_kN_t kn5 i6
            rw [i1, i2, im_b2]
            unfold f_X4_readSensor_J114 f_X6_readsSensor_J119 f_X6_readsSensor_J140
            rcases im_jfind hn i4 (a := 0) (b := 100) (a' := -100) (b' := 100) (g := g) (fun V hV => im_jlast hV) with ⟨V, τ6, μ6, S6, p6, V1, V2, V3, j1, j2, j3, j4, j5, j6, j7, j8, j9, j10, j11, j12, j13⟩ | ⟨τx, τm, e1, e2, e3, e4, e5⟩
            · obtain ⟨-, -, -, -, -, u6, u7⟩ := id j10
              have l1 := a2.1
              have r6 : μ6 85 = σm 85 := by rw [j13.1 85 (by decide), kn6.1 85 (by decide)]
              have r6' : iw_up μ6 84 12 (nI p6) 85 = σm 85 := by rw [iw_up_ne (by decide), r6]
              obtain ⟨ωx, ωm, o1, o2, o3, o4, o5, o6, o7⟩ := im_addS (p2 := nI K) (p3 := if g = 0 then nI V else - nI V) hn iw_net_36 u7 u6 (S := im_tn (σm 85 2)) (k := A) (by rw [r6']) (by omega) (by rw [r6']; omega)
              obtain ⟨k1, k2, k3, k4⟩ := im_suc (σx := σx) (σm := σm) (p0 := p) (im_kx_t kx6 j12) (im_kN_M (im_kN_t (im_kN_t kn6 j13) (im_kN_u (Or.inl rfl)))) (by omega) j10 o5 o6 o7 o3 o4
              have XS : (if g = (0 : Int32) then f_X4_readSensor_J150 (nI A) (nI K) τ6 (nI V) else f_X4_readSensor_J150 (nI A) (nI K) τ6 (- nI V)) = some (1, ωx) := by
                unfold f_X4_readSensor_J150
                by_cases z : g = 0
                · rw [if_pos z] at o1 ⊢
                  rw [o1, im_let2]
                · rw [if_neg z] at o1 ⊢
                  rw [o1, im_let2]
              rw [j1, im_b2, if_neg (im_m1 (by omega)), XS, j2, im_b2, if_neg (im_neN (by omega)), im_let, if_neg (im_neN (by omega)), im_upn (show 13 ≠ 12 by decide), j3, o2, im_bind, if_neg (im_neN (by omega))]
              exact Or.inl ⟨ωx, ωm, p6, rfl, rfl, k1, k2, k3, k4⟩
            · rw [e1, im_b2, if_pos rfl, e2, im_b2, if_pos rfl, im_up_self, im_let, if_pos rfl, if_pos rfl]
              exact Or.inr ⟨τx, τm, rfl, rfl, e3, im_kx_t kx6 e4, im_kN_M (im_kN_t kn6 e5)⟩
          · rw [show f_X4_readSign n (61 : Int32) τ3 = f_X4_readSign n (nI 61) τ3 from rfl, e1, im_b2, if_pos rfl, show f_X6_sign n (61 : Int32) μ3 = f_X6_sign n (nI 61) μ3 from rfl, e2, im_b2, if_pos rfl]
            exact Or.inr ⟨τx, τm, rfl, rfl, e3, im_kx_t kx4 e4, im_kN_M (im_kN_t kn4 e5)⟩
        · rw [e1, im_b2, if_pos rfl, e2, im_b2, if_pos rfl]
          exact Or.inr ⟨τx, τm, rfl, rfl, e3, im_kx_t kx3 e4, im_kN_M (im_kN_t kn3 e5)⟩
      · rw [show f_X4_readSign n (44 : Int32) τ1 = f_X4_readSign n (nI 44) τ1 from rfl, e1, im_b2, if_pos rfl, show f_X6_sign n (44 : Int32) μ1 = f_X6_sign n (nI 44) μ1 from rfl, e2, im_b2, if_pos rfl]
        exact Or.inr ⟨τx, τm, rfl, rfl, e3, im_kx_t kx2 e4, im_kN_M (im_kN_t kn2 e5)⟩
    · rw [e1, im_b2, if_pos rfl, e2, im_b2, if_pos rfl]
      exact Or.inr ⟨τx, τm, rfl, rfl, e3, im_kx_t kx1 e4, im_kN_M (im_kN_t kn1 e5)⟩
/-- what reading an item may change in the reference: its count of items too -/
def im_kR (σ σ' : iw_M) : Prop := (∀ r, r ≠ 84 → r ≠ 85 → σ' r = σ r) ∧ (∀ j, j ≠ 12 → j ≠ 13 → j ≠ 14 → σ' 84 j = σ 84 j) ∧ ∀ k, 465 ≤ k → σ' 85 k = σ 85 k
theorem im_kR_t {σ σ' σ'' : iw_M} (h : im_kR σ σ') (h' : im_kR σ' σ'') : im_kR σ σ'' := ⟨fun r r1 r2 => (h'.1 r r1 r2).trans (h.1 r r1 r2), fun j j1 j2 j3 => (h'.2.1 j j1 j2 j3).trans (h.2.1 j j1 j2 j3), fun k hk => (h'.2.2 k hk).trans (h.2.2 k hk)⟩
theorem im_kM_R {σ σ' : iw_M} (h : im_kM σ σ') : im_kR σ σ' := ⟨h.1, fun j j1 j2 _ => h.2.1 j j1 j2, h.2.2⟩
theorem im_kR_u {σ : iw_M} {j : Nat} {v : Int32} (hj : j = 12 ∨ j = 13 ∨ j = 14) : im_kR σ (iw_up σ 84 j v) := ⟨fun r r1 _ => iw_up_ne r1, fun i i1 i2 i3 => im_upn (by omega), fun k _ => by rw [iw_up_ne (by decide)]⟩
theorem im_jitem {n : Nat} (hn : 4096 ≤ n) (h : im_tx len q p σx σm) : (∃ τx τm p', f_X4_readItem n σx = some (1, τx) ∧ f_X6_readsItem n σm = some (1, τm) ∧ p < p' ∧ im_tx len q p' τx τm ∧ im_kx σx τx ∧ im_kR σm τm ∧ τm 84 14 = σm 84 14 + 1) ∨ ∃ τx τm, f_X4_readItem n σx = some (0, τx) ∧ f_X6_readsItem n σm = some (0, τm) ∧ im_bad len q τx τm ∧ im_kx σx τx ∧ im_kR σm τm := by
  obtain ⟨a1, a2, a3, a4, a5, a6, a7⟩ := id h
  have sl := im_S_le (q := q) a1
  have nb := im_S_nb (q := q) a1
  have c := fun k (hk : k < 256) => im_cd_eq (s := im_S len q p) hk (fun j hj => (a2.2.2 j hj).1)
  obtain ⟨σ1, q1⟩ : ∃ x, x = iw_up σx 6 5 (nI (im_S len q p)) := ⟨_, rfl⟩
  obtain ⟨μ1, q2⟩ : ∃ x, x = iw_up (iw_up σm 84 12 (nI (im_S len q p))) 84 14 (σm 84 14 + 1) := ⟨_, rfl⟩
  have h1 : im_tx len q (im_S len q p) σ1 μ1 := by
    rw [q1, q2]
    exact im_tx_up h sl.2 im_ups (by rw [im_upn (by decide), im_ups]) (im_upn (by decide)) (fun r hr => iw_up_ne hr) (by rw [im_upn (by decide), im_upn (by decide)]) (fun r hr => by rw [iw_up_ne hr, iw_up_ne hr])
  have kx1 : im_kx σx σ1 := by rw [q1]; exact im_kx_u (by decide)
  have kr1 : im_kR σm μ1 := by rw [q2]; exact im_kR_t (im_kR_u (Or.inl rfl)) (im_kR_u (Or.inr (Or.inr rfl)))
  have i1 : μ1 84 14 = σm 84 14 + 1 := by rw [q2, im_ups]
  have fin : ∀ (X M X' M' : Option (Int32 × iw_M)), im_res len q (im_S len q p) σ1 μ1 X M → (∀ τ, X = some (1, τ) → X' = some (1, τ)) → (∀ τ, X = some (0, τ) → X' = some (0, τ)) → (∀ τ, M = some (1, τ) → M' = some (1, τ)) → (∀ τ, M = some (0, τ) → M' = some (0, τ)) → (∃ τx τm p', X' = some (1, τx) ∧ M' = some (1, τm) ∧ p < p' ∧ im_tx len q p' τx τm ∧ im_kx σx τx ∧ im_kR σm τm ∧ τm 84 14 = σm 84 14 + 1) ∨ ∃ τx τm, X' = some (0, τx) ∧ M' = some (0, τm) ∧ im_bad len q τx τm ∧ im_kx σx τx ∧ im_kR σm τm := by
    intro X M X' M' hr x1 x0 m1 m0
    rcases hr with ⟨τx, τm, p', r1, r2, r3, r4, r5, r6⟩ | ⟨τx, τm, r1, r2, r3, r4, r5⟩
    · exact Or.inl ⟨τx, τm, p', x1 _ r1, m1 _ r2, by omega, r4, im_kx_t kx1 r5, im_kR_t kr1 (im_kM_R r6), by rw [r6.2.1 14 (by decide) (by decide)]; exact i1⟩
    · exact Or.inr ⟨τx, τm, x0 _ r1, m0 _ r2, r3, im_kx_t kx1 r4, im_kR_t kr1 (im_kM_R r5)⟩
  unfold f_X4_readItem f_X6_readsItem
  rw [im_next hn a1 a2 a4, im_b2, im_here hn a1 a3 a5, im_b2, im_let, im_upn (show 14 ≠ 12 by decide), ← q1, ← q2]
  by_cases z1 : im_S len q p < len ∧ q (im_S len q p) = 110
  · rw [if_pos (show im_cd len q (im_S len q p) = (110 : Int32) from (c 110 (by decide)).mpr z1), if_pos (show im_cd len q (im_S len q p) = (110 : Int32) from (c 110 (by decide)).mpr z1)]
    exact fin _ _ _ _ (im_jnode hn h1 z1.1 z1.2) (fun τ e => by rw [e, im_b2, im_and1]) (fun τ e => by rw [e, im_b2, im_and0]) (fun τ e => by rw [e, im_b2, im_and1]) (fun τ e => by rw [e, im_b2, im_and0])
  · rw [if_neg (show ¬ im_cd len q (im_S len q p) = (110 : Int32) from fun y => z1 ((c 110 (by decide)).mp y)), if_neg (show ¬ im_cd len q (im_S len q p) = (110 : Int32) from fun y => z1 ((c 110 (by decide)).mp y))]
    by_cases z2 : im_S len q p < len ∧ q (im_S len q p) = 115
    · rw [if_pos (show im_cd len q (im_S len q p) = (115 : Int32) from (c 115 (by decide)).mpr z2), if_pos (show im_cd len q (im_S len q p) = (115 : Int32) from (c 115 (by decide)).mpr z2)]
      exact fin _ _ _ _ (im_jsensor hn h1 z2.1 z2.2) (fun τ e => by rw [e, im_b2, im_and1]) (fun τ e => by rw [e, im_b2, im_and0]) (fun τ e => by rw [e, im_b2, im_and1]) (fun τ e => by rw [e, im_b2, im_and0])
    · rw [if_neg (show ¬ im_cd len q (im_S len q p) = (115 : Int32) from fun y => z2 ((c 115 (by decide)).mp y)), if_neg (show ¬ im_cd len q (im_S len q p) = (115 : Int32) from fun y => z2 ((c 115 (by decide)).mp y)), im_isDigit, im_b01]
      by_cases z3 : im_S len q p < len ∧ 48 ≤ q (im_S len q p) ∧ q (im_S len q p) ≤ 57
      · have q3 := (a2.2.2 _ z3.1).1
        have dg : (48 : Int32) ≤ im_cd len q (im_S len q p) ∧ im_cd len q (im_S len q p) ≤ (57 : Int32) := by
          unfold im_cd
          rw [if_pos z3.1, im_dig (by omega)]
          exact z3.2
        rw [if_pos dg]
        exact fin _ _ _ _ (im_jlink hn h1 nb) (fun τ e => by rw [e, im_b2, im_and1]) (fun τ e => by rw [e, im_b2, im_and0]) (fun τ e => by rw [e, im_b2, im_and1]) (fun τ e => by rw [e, im_b2, im_and0])
      · have nd : ¬ ((48 : Int32) ≤ im_cd len q (im_S len q p) ∧ im_cd len q (im_S len q p) ≤ (57 : Int32)) := by
          unfold im_cd
          by_cases y : im_S len q p < len
          · have q3 := (a2.2.2 _ y).1
            rw [if_pos y, im_dig (by omega)]
            exact fun w => z3 ⟨y, w⟩
          · rw [if_neg y]
            decide
        obtain ⟨τm, n1, n2, n3, n4⟩ := im_nolink hn h1 nb z3
        rw [if_neg nd, im_refuse, im_let2, n1, im_b2]
        obtain ⟨-, -, -, a4', -, -, -⟩ := id h1
        exact Or.inr ⟨_, τm, rfl, rfl, ⟨im_S len q p, sl.2, nb, by rw [im_ups, a4'], n2, n3⟩, im_kx_t kx1 (im_kx_u (by decide)), im_kR_t kr1 (im_kM_R n4)⟩
end
