/-! the whole text is read, on both sides -/
def im_kX (σ σ' : iw_M) : Prop := (∀ r, r ≠ 6 → (r < 36 ∨ 43 < r) → σ' r = σ r) ∧ σ' 6 2 = σ 6 2
theorem im_kX_t {σ σ' σ'' : iw_M} (h : im_kX σ σ') (h' : im_kX σ' σ'') : im_kX σ σ'' := ⟨fun r r1 r2 => (h'.1 r r1 r2).trans (h.1 r r1 r2), h'.2.trans h.2⟩
theorem im_kx_X {σ σ' : iw_M} (h : im_kx σ σ') : im_kX σ σ' := ⟨h.1, h.2.1⟩
theorem im_kX_u {σ : iw_M} {j : Nat} {v : Int32} (hj : 3 ≤ j) : im_kX σ (iw_up σ 6 j v) := ⟨fun r r1 _ => iw_up_ne r1, im_upn (by omega)⟩
section
variable {len : Nat} {q : Nat → Nat}
theorem im_here_bad {n : Nat} (hn : 4096 ≤ n) {σx σm : iw_M} (h : im_bad len q σx σm) : ∃ c, f_X6_here n σm = some (c, σm) := by
  obtain ⟨F, f1, f2, f3, f4, f5⟩ := h
  have e := im_here hn f1 f5 f4
  rw [im_S_id f1 f2, ← f4, im_up_self] at e
  exact ⟨_, e⟩
/-- how reading ends: all is read, or both refuse at the same place -/
def im_end (σx σm : iw_M) (X M : Option (Int32 × iw_M)) : Prop := (∃ τx τm J, X = some (1, τx) ∧ M = some (1, τm) ∧ im_NR τx 36 (τm 85) ∧ im_WF (τm 85) ∧ τx 6 3 = nI J ∧ τm 84 14 = nI J ∧ im_kX σx τx ∧ im_kR σm τm) ∨ ∃ τx τm F, X = some (0, τx) ∧ M = some (0, τm) ∧ F ≤ 120 ∧ τx 6 4 = nI F ∧ τm 84 12 = nI F ∧ im_kX σx τx ∧ im_kR σm τm
theorem im_end_t {σx σm ρx ρm : iw_M} {X M : Option (Int32 × iw_M)} (hx : im_kX σx ρx) (hm : im_kR σm ρm) (h : im_end ρx ρm X M) : im_end σx σm X M := by
  rcases h with ⟨τx, τm, J, a1, a2, a3, a4, a5, a6, a7, a8⟩ | ⟨τx, τm, F, a1, a2, a3, a4, a5, a6, a7⟩
  · exact Or.inl ⟨τx, τm, J, a1, a2, a3, a4, a5, a6, im_kX_t hx a7, im_kR_t hm a8⟩
  · exact Or.inr ⟨τx, τm, F, a1, a2, a3, a4, a5, im_kX_t hx a6, im_kR_t hm a7⟩
theorem im_jread_L {n : Nat} (hn : 4096 ≤ n) : ∀ (d k nn nm : Nat) (σx σm : iw_M) (p I : Nat), 2 * k ≤ p → k + d = 120 → d < nn → d + 1 < nm → im_tx len q p σx σm → σx 6 3 = nI I → σm 84 14 = nI I → im_end σx σm (f_X4_read_L20 n f_X4_read_X72_20 nn (nI k) σx) (iw_b2 (f_X6_readsItem n σm) fun v m => iw_b2 (f_X6_here n m) fun c m' => f_X6_readsText_L20 n f_X6_readsText_X59_20 nm v c m') := by
  intro d
  induction d with
  | zero =>
    intro k nn nm σx σm p I k1 k2 k3 k4 h i1 i2
    have := h.1
    have := h.2.1.1
    omega
  | succ d ih =>
    intro k nn nm σx σm p I k1 k2 k3 k4 h i1 i2
    obtain ⟨nn, rfl⟩ : ∃ q, nn = q + 1 := ⟨nn - 1, by omega⟩
    obtain ⟨nm, rfl⟩ : ∃ q, nm = q + 1 := ⟨nm - 1, by omega⟩
    have l1 := h.2.1.1
    have g : ¬ (120 : Int32) ≤ nI k := by rw [im_lit 120, im_le (by decide) (by omega)]; omega
    rw [s_X4_read_20]
    unfold f_X4_read_B20
    rw [if_neg g]
    rcases im_jitem hn h with ⟨τx, τm, p1, e1, e2, e3, e4, e5, e6, e7⟩ | ⟨τx, τm, e1, e2, e3, e4, e5⟩
    · have x3 : τx 6 3 = nI I := by rw [e5.2.2]; exact i1
      obtain ⟨t1, t2, t3, t4, t5, t6, t7⟩ := id e4
      obtain ⟨σ1, q1⟩ : ∃ x, x = iw_up τx 6 3 (nI (I + 1)) := ⟨_, rfl⟩
      have kx1 : im_kX σx σ1 := by rw [q1]; exact im_kX_t (im_kx_X e5) (im_kX_u (by decide))
      have h1 : im_tx len q p1 σ1 τm := by
        rw [q1]
        exact im_tx_up e4 t1 (by rw [im_upn (by decide)]; exact t4) t5 (im_upn (by decide)) (fun r hr => iw_up_ne hr) rfl (fun _ _ => rfl)
      have sl := im_S_le (q := q) t1
      obtain ⟨σ2, q2⟩ : ∃ x, x = iw_up σ1 6 5 (nI (im_S len q p1)) := ⟨_, rfl⟩
      obtain ⟨μ2, r2⟩ : ∃ x, x = iw_up τm 84 12 (nI (im_S len q p1)) := ⟨_, rfl⟩
      have h2 : im_tx len q (im_S len q p1) σ2 μ2 := by
        rw [q2, r2]
        exact im_tx_up h1 sl.2 im_ups im_ups (im_upn (by decide)) (fun r hr => iw_up_ne hr) (im_upn (by decide)) (fun r hr => iw_up_ne hr)
      have kx2 : im_kX σx σ2 := by rw [q2]; exact im_kX_t kx1 (im_kX_u (by decide))
      have kr2 : im_kR σm μ2 := by rw [r2]; exact im_kR_t e6 (im_kR_u (Or.inl rfl))
      have n3 : σ2 6 3 = nI (I + 1) := by rw [q2, im_upn (by decide), q1, im_ups]
      have n14 : μ2 84 14 = nI (I + 1) := by rw [r2, im_upn (by decide), e7, i2, nI_1]
      have NX := im_next hn t1 h1.2.1 h1.2.2.2.1
      have NM := im_here hn t1 t3 t5
      rw [← q2] at NX
      rw [← r2] at NM
      obtain ⟨-, -, -, -, -, u6, u7⟩ := id h2
      rw [e1, im_b2, if_neg (show ¬ (1 : Int32) = 0 by decide), im_let, x3, nI_1, ← q1, NX, im_b2, e2, im_b2, NM, im_b2, s_X6_readsText_20]
      unfold f_X6_readsText_B20
      rw [if_neg (show ¬ (1 : Int32) = 0 by decide)]
      by_cases z : im_S len q p1 < len
      · have q8 := (t2.2.2 _ z).1
        have nc : ¬ im_cd len q (im_S len q p1) = (-1 : Int32) := by
          unfold im_cd
          rw [if_pos z]
          exact im_m1 (by omega)
        rw [if_neg nc, if_neg nc]
        rcases im_jsign hn (k := 59) (by decide) h2 with ⟨σ3, μ3, p2, s1, s2, s3, s4, s5, s6⟩ | ⟨ωx, ωm, s1, s2, s3, s4, s5⟩
        · have conv : (iw_b2 (f_X6_readsItem n μ3) fun v22 m23 => if v22 = (0 : Int32) then (f_X6_readsText_J49 n (f_X6_readsText_L20 n f_X6_readsText_X59_20 nm) m23) else (f_X6_readsText_J50 n (f_X6_readsText_L20 n f_X6_readsText_X59_20 nm) (1 : Int32) m23)) = (iw_b2 (f_X6_readsItem n μ3) fun v m => iw_b2 (f_X6_here n m) fun c m' => f_X6_readsText_L20 n f_X6_readsText_X59_20 nm v c m') := by
            rcases im_jitem hn s4 with ⟨ωx, ωm, p', -, o2, -⟩ | ⟨ωx, ωm, -, o2, -⟩
            · rw [o2, im_b2, im_b2, if_neg (by decide)]
              rfl
            · rw [o2, im_b2, im_b2, if_pos rfl]
              rfl
          rw [show f_X4_readSign n (59 : Int32) σ2 = f_X4_readSign n (nI 59) σ2 from rfl, s1, im_b2, if_neg (show ¬ (1 : Int32) = 0 by decide), im_let, nI_1, show f_X6_sign n (59 : Int32) μ2 = f_X6_sign n (nI 59) μ2 from rfl, s2, im_b2, if_neg (show ¬ (1 : Int32) = 0 by decide), conv]
          exact im_end_t (im_kX_t kx2 (im_kx_X s5)) (im_kR_t kr2 (im_kM_R (im_kN_M s6))) (ih (k + 1) nn nm σ3 μ3 p2 (I + 1) (by omega) (by omega) (by omega) (by omega) s4 (by rw [s5.2.2]; exact n3) (by rw [s6.2 14 (by decide) (by decide)]; exact n14))
        · obtain ⟨nm, rfl⟩ : ∃ q, nm = q + 1 := ⟨nm - 1, by omega⟩
          obtain ⟨c, hc⟩ := im_here_bad hn s3
          obtain ⟨F, f1, f2, f3, f4, f5⟩ := id s3
          rw [show f_X4_readSign n (59 : Int32) σ2 = f_X4_readSign n (nI 59) σ2 from rfl, s1, im_b2, if_pos rfl, show f_X6_sign n (59 : Int32) μ2 = f_X6_sign n (nI 59) μ2 from rfl, s2, im_b2, if_pos rfl]
          unfold f_X6_readsText_J49 f_X6_readsText_J50
          rw [hc, im_b2, s_X6_readsText_20]
          unfold f_X6_readsText_B20 f_X6_readsText_X59_20
          rw [if_pos rfl, im_and0]
          exact Or.inr ⟨ωx, ωm, F, rfl, rfl, by omega, f3, f4, im_kX_t kx2 (im_kx_X s4), im_kR_t kr2 (im_kM_R (im_kN_M s5))⟩
      · have nc : im_cd len q (im_S len q p1) = (-1 : Int32) := by
          unfold im_cd
          rw [if_neg z]
        unfold f_X6_readsText_X59_20
        rw [if_pos nc, if_pos nc, im_and1]
        exact Or.inl ⟨σ2, μ2, I + 1, rfl, rfl, u6, u7, n3, n14, kx2, kr2⟩
    · obtain ⟨c, hc⟩ := im_here_bad hn e3
      obtain ⟨F, f1, f2, f3, f4, f5⟩ := id e3
      rw [e1, im_b2, if_pos rfl, e2, im_b2, hc, im_b2, s_X6_readsText_20]
      unfold f_X6_readsText_B20 f_X6_readsText_X59_20
      rw [if_pos rfl, im_and0]
      exact Or.inr ⟨τx, τm, F, rfl, rfl, by omega, f3, f4, im_kx_X e4, e5⟩
theorem im_jread {n : Nat} (hn : 4096 ≤ n) {σx σm : iw_M} (hX : im_tX len q σx) (hM : im_tM len q σm) (h : im_NR σx 20 (σm 85)) (hw : im_WF (σm 85)) : im_end σx σm (f_X4_read n 20 σx) (f_X6_readsText n σm) := by
  obtain ⟨k1, k2⟩ := im_copyFrom iw_net_36 iw_net_20 (by decide) σx
  have h36 : im_NR (f_X1_copyFrom 36 20 σx) 36 (σm 85) := im_NR_cp iw_net_36 hw h k2
  obtain ⟨σ0, q0⟩ : ∃ x, x = f_X1_copyFrom 36 20 σx := ⟨_, rfl⟩
  rw [← q0] at k1 h36
  obtain ⟨σ1, q1⟩ : ∃ x, x = iw_up (iw_up σ0 6 5 (0 : Int32)) 6 3 (0 : Int32) := ⟨_, rfl⟩
  obtain ⟨μ1, r1⟩ : ∃ x, x = iw_up (iw_up σm 84 12 (0 : Int32)) 84 14 (0 : Int32) := ⟨_, rfl⟩
  have o6 : σ0 6 = σx 6 := k1 6 (fun j j1 j2 => by omega)
  have o7 : σ0 7 = σx 7 := k1 7 (fun j j1 j2 => by omega)
  have kx : im_kX σx σ1 := by
    rw [q1]
    exact im_kX_t (im_kX_t ⟨fun r r1 r2 => k1 r (fun j j1 j2 => by omega), by rw [o6]⟩ (im_kX_u (by decide))) (im_kX_u (by decide))
  have kr : im_kR σm μ1 := by
    rw [r1]
    exact im_kR_t (im_kR_u (Or.inl rfl)) (im_kR_u (Or.inr (Or.inr rfl)))
  have t : im_tx len q 0 σ1 μ1 := by
    refine ⟨Nat.zero_le _, ⟨hX.1, by rw [q1, im_upn (by decide), im_upn (by decide), o6]; exact hX.2.1, fun k hk => by rw [q1, iw_up_ne (by decide), iw_up_ne (by decide), o7]; exact hX.2.2 k hk⟩, by rw [r1]; exact im_tM_up (im_tM_up hM (by decide)) (by decide), ?_, ?_, ?_, ?_⟩
    · rw [q1, im_upn (by decide), im_ups]; rfl
    · rw [r1, im_upn (by decide), im_ups]; rfl
    · rw [q1, r1, iw_up_ne (by decide), iw_up_ne (by decide)]
      exact im_NR_congr h36 (fun j j1 j2 => by rw [iw_up_ne (by omega), iw_up_ne (by omega)])
    · rw [r1, iw_up_ne (by decide), iw_up_ne (by decide)]; exact hw
  have L := im_jread_L (len := len) (q := q) hn 120 0 n n σ1 μ1 0 0 (by omega) (by omega) (by omega) (by omega) t (by rw [q1, im_ups]; rfl) (by rw [r1, im_ups]; rfl)
  refine im_end_t kx kr ?_
  have eX : f_X4_read n 20 σx = f_X4_read_L20 n f_X4_read_X72_20 n (nI 0) σ1 := by
    unfold f_X4_read
    rw [im_let, im_let, im_let, ← q0, ← q1]
    rfl
  have eM : f_X6_readsText n σm = (iw_b2 (f_X6_readsItem n μ1) fun v m => iw_b2 (f_X6_here n m) fun c m' => f_X6_readsText_L20 n f_X6_readsText_X59_20 n v c m') := by
    unfold f_X6_readsText
    rw [im_let, im_let, ← r1]
  rw [eX, eM]
  exact L
end
