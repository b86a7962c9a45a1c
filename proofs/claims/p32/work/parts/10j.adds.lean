/-! what adds a node, a link, a sensor, an interest: on the class's net c, and on the reference's row -/
section
variable {σ : iw_M} {c : Nat} {ρ : Nat → Int32}
theorem im_appendNode (hc : iw_net c) {N : Nat} (h : N < 10) (hN : σ (c + 1) 0 = nI N) (v : Int32) : f_X1_appendNode c v σ = (nI N, iw_up (iw_up σ (c + 2) N v) (c + 1) 0 (nI (N + 1))) := by
  have g := im_al_n c hc
  unfold f_X1_appendNode
  simp only [im_let]
  rw [show (0 : Int32) = nI 0 from rfl, im_at (by omega), hN, im_put (by omega), nI_1, im_put (by omega)]
theorem im_laysNode {N : Nat} (h : N < 10) (hN : σ 85 0 = nI N) (v : Int32) : f_X6_laysNode v σ = some (iw_up (iw_up σ 85 (12 + N) v) 85 0 (nI (N + 1))) := by
  have e0 : iw_rd σ 85 (0 : Int32) = some (nI N) := by
    rw [show (0 : Int32) = nI 0 from rfl, im_m_rd (by decide), hN]
  unfold f_X6_laysNode
  rw [e0, im_bind, im_lit 12, nI_add, im_wr (by rw [im_al85]; omega), im_bind, show (0 : Int32) = nI 0 from rfl, im_m_rd (by decide), im_bind, im_upn (by omega), hN, nI_1, im_wr (by rw [im_al85]; omega), im_bind]
theorem im_appendLink (hc : iw_net c) {L : Nat} (h : L < 20) (hL : σ (c + 1) 1 = nI L) (a b d : Int32) : f_X1_appendLink c a b d σ = (nI L, iw_up (iw_up (iw_up (iw_up σ (c + 3) (3 * L) a) (c + 3) (3 * L + 1) b) (c + 3) (3 * L + 2) d) (c + 1) 1 (nI (L + 1))) := by
  have g := im_al_n c hc
  have e1 : f_X5_at (c + 1) (1 : Int32) σ = nI L := by rw [show (1 : Int32) = nI 1 from rfl, im_at (by omega), hL]
  unfold f_X1_appendLink
  simp only [im_let]
  rw [e1, im_lit 3, pk_mul, show (0 : Int32) = nI 0 from rfl, show (1 : Int32) = nI 1 from rfl, show (2 : Int32) = nI 2 from rfl, nI_add, nI_add, nI_add, nI_add, Nat.mul_comm L 3, im_put (by omega), im_put (by omega), im_put (by omega), im_put (by omega)]
  rfl
theorem im_laysLink {L : Nat} (h : L < 20) (hL : σ 85 1 = nI L) (a b d : Int32) : f_X6_laysLink a b d σ = some (iw_up (iw_up (iw_up (iw_up σ 85 (22 + 3 * L) a) 85 (22 + 3 * L + 1) b) 85 (22 + 3 * L + 2) d) 85 1 (nI (L + 1))) := by
  have e1 : iw_rd σ 85 (1 : Int32) = some (nI L) := by
    rw [show (1 : Int32) = nI 1 from rfl, im_m_rd (by decide), hL]
  unfold f_X6_laysLink
  rw [e1, im_bind]
  simp only [im_let]
  rw [im_lit 22, im_lit 3, pk_mul, nI_add, show (1 : Int32) = nI 1 from rfl, show (2 : Int32) = nI 2 from rfl, nI_add, nI_add, im_wr (by rw [im_al85]; omega), im_bind, im_wr (by rw [im_al85]; omega), im_bind, im_wr (by rw [im_al85]; omega), im_bind, im_m_rd (by decide), im_bind, im_upn (by omega), im_upn (by omega), im_upn (by omega), hL, nI_add, im_wr (by rw [im_al85]; omega), im_bind]
theorem im_appendSensor (hc : iw_net c) {S : Nat} (h : S < 6) (hS : σ (c + 1) 2 = nI S) (a b d : Int32) : f_X1_appendSensor c a b d σ = (nI S, iw_up (iw_up (iw_up (iw_up σ (c + 4) (3 * S) a) (c + 4) (3 * S + 1) b) (c + 4) (3 * S + 2) d) (c + 1) 2 (nI (S + 1))) := by
  have g := im_al_n c hc
  have e1 : f_X5_at (c + 1) (2 : Int32) σ = nI S := by rw [show (2 : Int32) = nI 2 from rfl, im_at (by omega), hS]
  unfold f_X1_appendSensor
  simp only [im_let]
  rw [e1, im_lit 3, pk_mul, show (0 : Int32) = nI 0 from rfl, show (1 : Int32) = nI 1 from rfl, show (2 : Int32) = nI 2 from rfl, nI_add, nI_add, nI_add, nI_add, Nat.mul_comm S 3, im_put (by omega), im_put (by omega), im_put (by omega), im_put (by omega)]
  rfl
/-- the reference clears the new sensor's ways -/
def im_z5 (σ : iw_M) (S i : Nat) : iw_M := fun r => if r = 85 then (fun k => if 135 + 11 * S ≤ k ∧ (k - (135 + 11 * S)) % 66 = 0 ∧ i ≤ (k - (135 + 11 * S)) / 66 ∧ (k - (135 + 11 * S)) / 66 < 5 then 0 else σ 85 k) else σ r
theorem im_z5_c {S i k : Nat} : (135 + 11 * S ≤ k ∧ (k - (135 + 11 * S)) % 66 = 0 ∧ i ≤ (k - (135 + 11 * S)) / 66 ∧ (k - (135 + 11 * S)) / 66 < 5) ↔ ∃ i', i ≤ i' ∧ i' < 5 ∧ k = im_wa i' S := by
  unfold im_wa
  constructor
  · intro h
    exact ⟨(k - (135 + 11 * S)) / 66, by omega, by omega, by omega⟩
  · rintro ⟨i', a, b, rfl⟩
    omega
end
section
variable {σ : iw_M} {c : Nat} {ρ : Nat → Int32}
theorem im_z5_step {σ : iw_M} {S i : Nat} (h : i < 5) : im_z5 (iw_up σ 85 (im_wa i S) 0) S (i + 1) = im_z5 σ S i := by
  funext r
  unfold im_z5
  by_cases hr : r = 85
  · subst hr
    rw [if_pos rfl, if_pos rfl]
    funext k
    by_cases q : ∃ i', i + 1 ≤ i' ∧ i' < 5 ∧ k = im_wa i' S
    · rw [if_pos (im_z5_c.mpr q), if_pos]
      obtain ⟨i', a, b, d⟩ := q
      exact im_z5_c.mpr ⟨i', by omega, b, d⟩
    · rw [if_neg (fun z => q (im_z5_c.mp z))]
      by_cases q2 : k = im_wa i S
      · subst q2; rw [im_ups, if_pos (im_z5_c.mpr ⟨i, Nat.le_refl _, h, rfl⟩)]
      · rw [im_upn q2, if_neg]
        intro z
        obtain ⟨i', a, b, d⟩ := im_z5_c.mp z
        by_cases e : i' = i
        · subst e; exact q2 d
        · exact q ⟨i', by omega, b, d⟩
  · rw [if_neg hr, if_neg hr, iw_up_ne hr]
theorem im_laysSensor_L {S : Nat} (hS6 : S < 6) (k : iw_M → Option iw_M) : ∀ (d i nn : Nat) (σ : iw_M), i + d = 5 → d < nn → σ 85 2 = nI S → f_X6_laysSensor_L44 k nn (nI i) σ = k (im_z5 σ S i) := by
  intro d
  induction d with
  | zero =>
    intro i nn σ h1 h2 hS
    obtain ⟨nn, rfl⟩ : ∃ q, nn = q + 1 := ⟨nn - 1, by omega⟩
    have e : i = 5 := by omega
    subst e
    rw [s_X6_laysSensor_44]
    unfold f_X6_laysSensor_B44
    rw [if_pos (by decide)]
    congr 1
    funext r
    unfold im_z5
    by_cases hr : r = 85
    · subst hr
      rw [if_pos rfl]
      funext k
      rw [if_neg (by omega)]
    · rw [if_neg hr]
  | succ d ih =>
    intro i nn σ h1 h2 hS
    obtain ⟨nn, rfl⟩ : ∃ q, nn = q + 1 := ⟨nn - 1, by omega⟩
    have e2 : iw_rd σ 85 (2 : Int32) = some (nI S) := by
      rw [show (2 : Int32) = nI 2 from rfl, im_m_rd (by decide), hS]
    have hwa : im_wa i S < 3255 := by unfold im_wa; omega
    rw [s_X6_laysSensor_44]
    unfold f_X6_laysSensor_B44
    rw [if_neg (by rw [im_lit 5, im_le (by decide) (by omega)]; omega), e2, im_bind, im_wayAt, im_wr (by rw [im_al85]; exact hwa), im_bind, im_let, nI_1, ih (i + 1) nn _ (by omega) (by omega) (by rw [im_upn (by have := im_wa_ge i S; omega)]; exact hS), im_z5_step (by omega)]
theorem im_laysSensor {n : Nat} (hn : 4096 ≤ n) {S : Nat} (h : S < 6) (hS : σ 85 2 = nI S) (a b d : Int32) : f_X6_laysSensor n a b d σ = some (iw_up (im_z5 (iw_up (iw_up (iw_up σ 85 (82 + 3 * S) a) 85 (82 + 3 * S + 1) b) 85 (82 + 3 * S + 2) d) S 0) 85 2 (nI (S + 1))) := by
  have e1 : iw_rd σ 85 (2 : Int32) = some (nI S) := by
    rw [show (2 : Int32) = nI 2 from rfl, im_m_rd (by decide), hS]
  unfold f_X6_laysSensor
  rw [e1, im_bind]
  simp only [im_let]
  rw [im_lit 82, im_lit 3, pk_mul, nI_add, show (1 : Int32) = nI 1 from rfl, show (2 : Int32) = nI 2 from rfl, nI_add, nI_add, im_wr (by rw [im_al85]; omega), im_bind, im_wr (by rw [im_al85]; omega), im_bind, im_wr (by rw [im_al85]; omega), im_bind]
  have hS' : iw_up (iw_up (iw_up σ 85 (82 + 3 * S) a) 85 (82 + 3 * S + 1) b) 85 (82 + 3 * S + 2) d 85 2 = nI S := by
    rw [im_upn (by omega), im_upn (by omega), im_upn (by omega), hS]
  rw [show (0 : Int32) = nI 0 from rfl, im_laysSensor_L h _ 5 0 n _ (by omega) (by omega) hS']
  generalize iw_up (iw_up (iw_up σ 85 (82 + 3 * S) a) 85 (82 + 3 * S + 1) b) 85 (82 + 3 * S + 2) d = τ at hS' ⊢
  unfold f_X6_laysSensor_X74_44
  have hz : im_z5 τ S 0 85 2 = nI S := by
    unfold im_z5
    rw [if_pos rfl, if_neg (by omega), hS']
  rw [show (2 : Int32) = nI 2 from rfl, im_m_rd (by decide), im_bind, hz, nI_1, im_wr (by decide), im_bind]
end
theorem sim_addNode_ok (n : Nat) (hn : 4096 ≤ n) : sim_addNode n im_RR := by
  intro p1 σx σm h
  obtain ⟨hN, hW⟩ := im_0 h
  obtain ⟨⟨N, N1, N2, N3, N4⟩, -⟩ := im_cnt hN hW
  unfold f_X5_addNode f_X6_addNode
  rw [im_within, im_in, im_b01, im_b01]
  by_cases d : 1 ≤ p1 ∧ p1 ≤ 10000
  · rw [if_pos d, if_pos d, show (0 : Int32) = nI 0 from rfl, im_num n iw_net_20 (by decide) (by decide), im_bind, N4, im_m_rd (by decide), im_bind, N3]
    by_cases e : N = 10
    · rw [if_neg (by rw [im_lit 10, im_lt (by omega) (by decide)]; omega), if_pos (by rw [e]; rfl)]
      exact ⟨_, _, _, rfl, rfl, h⟩
    · rw [if_pos (by rw [im_lit 10, im_lt (by omega) (by decide)]; omega), if_neg (by rw [im_lit 10, im_eq (by omega) (by decide)]; exact e)]
      obtain ⟨σm', s1, h', hr, -⟩ := im_rec hn h
      obtain ⟨hN', hW'⟩ := im_0 h'
      have m0 : σm' 85 0 = nI N := by rw [hr 0 (by omega)]; exact N3
      have x0 : f_X0_record 20 σx (20 + 1) 0 = nI N := by rw [hN'.1 0 (by decide) (by decide)]; exact m0
      generalize f_X0_record 20 σx = σx' at h' hN' x0 ⊢
      have t0 : im_tn (σm' 85 0) = N := by rw [m0, im_tn_nI (by omega)]
      rw [s1, im_bind, im_laysNode (by omega) m0, im_bind, im_m_rd (by decide), im_bind, im_ups, im_let, im_appendNode iw_net_20 (by omega) x0]
      unfold iw_let2
      simp only []
      have e1 : nI (N + 1) - 1 = nI N := by rw [show (1 : Int32) = nI 1 from rfl, pk_sub (by omega)]; rfl
      rw [e1]
      have he : ∀ k, k < 465 → k ≠ 0 → k ≠ 12 + N → iw_up (iw_up σm' 85 (12 + N) p1) 85 0 (nI (N + 1)) 85 k = σm' 85 k := fun k _ a b => by rw [im_upn a, im_upn b]
      refine ⟨_, _, _, rfl, rfl, im_upd h' (fun b hb => by rw [iw_up_ne (by omega), iw_up_ne (by omega)]) (by rw [iw_up_ne (by decide), iw_up_ne (by decide)]) (by rw [iw_up_ne (by decide), iw_up_ne (by decide)]) (by rw [iw_up_ne (by decide), iw_up_ne (by decide)]) (fun k a _ => by rw [im_upn (by omega), im_upn (by omega)]) ?_ ?_⟩
      · rw [im_sl0]
        refine im_NR_node hW' hN' t0 (by omega) (by rw [im_ups]) he (by rw [im_ups]) (fun j hj => by rw [im_upn hj, im_upo (by decide)]) (fun j hj => by rw [im_upo (by decide), im_upn hj]) ?_ (fun j a b => by rw [iw_up_ne (by omega), iw_up_ne (by omega)])
        rw [im_upo (by decide), im_ups, im_upn (by omega), im_ups]
      · rw [im_sl0]
        exact im_WF_node hW' t0 (by omega) (by rw [im_ups]) he
  · rw [if_neg d, if_neg d]
    exact ⟨_, _, _, rfl, rfl, h⟩
