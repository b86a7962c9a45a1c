/-! link and ask -/
theorem sim_link_ok (n : Nat) (hn : 4096 ≤ n) : sim_link n im_RR := by
  intro p1 p2 p3 σx σm h
  obtain ⟨hN, hW⟩ := im_0 h
  obtain ⟨⟨N, N1, N2, N3, N4⟩, ⟨L, L1, L2, L3, L4⟩, -⟩ := im_cnt hN hW
  unfold f_X5_link f_X6_link
  rw [show f_X1_has 20 (0 : Int32) p1 σx = f_X1_has 20 (nI 0) p1 σx from rfl, show f_X1_has 20 (0 : Int32) p2 σx = f_X1_has 20 (nI 0) p2 σx from rfl, im_has iw_net_20 (by decide) (by omega) p1 N4, im_has iw_net_20 (by decide) (by omega) p2 N4, im_isNode p1 (by omega) N3, im_isNode p2 (by omega) N3, im_bind, im_bind, im_b01, im_b01, im_b01, im_b01, im_within, im_in, im_b01, im_b01]
  by_cases c : ∃ k, k < N ∧ p1 = nI k
  · rw [if_pos c, if_pos c]
    by_cases c' : ∃ k, k < N ∧ p2 = nI k
    · rw [if_pos c', if_pos c']
      by_cases d : 1 ≤ p3 ∧ p3 ≤ 20
      · rw [if_pos d, if_pos d]
        obtain ⟨a, ha, rfl⟩ := c
        obtain ⟨b, hb, rfl⟩ := c'
        obtain ⟨w, w1, w2, rfl⟩ := im_rng1 (a := 1) (b := 20) (by decide) (by decide) d
        by_cases e : nI a = nI b
        · rw [if_pos e, if_pos e]
          exact ⟨_, _, _, rfl, rfl, h⟩
        · rw [if_neg e, if_neg e]
          have hab : a ≠ b := fun z => e (by rw [z])
          obtain ⟨A1, A2⟩ := im_areLinked hn iw_net_20 hW hN (a := a) (b := b) (by omega) (by omega)
          obtain ⟨B1, B2⟩ := im_linkOf hn hW (a := a) (b := b) (by omega) (by omega)
          rw [L2] at A1 A2 B1 B2
          by_cases q : ∃ l, l < L ∧ im_lk (σm 85) l a b
          · obtain ⟨l, q1, q2⟩ := q
            rw [A2 ⟨l, q1, q2⟩, B2 l q1 q2, im_bind, im_bind, if_neg (show ¬ (1 : Int32) = 0 by decide), if_neg (show ¬ nI l = (-1000 : Int32) from fun z => by
              have z1 := congrArg Int32.toInt z
              rw [nI_toInt (by omega)] at z1
              rw [show (-1000 : Int32).toInt = -1000 from rfl] at z1
              omega)]
            exact ⟨_, _, _, rfl, rfl, h⟩
          · have q' : ∀ l, l < L → ¬ im_lk (σm 85) l a b := fun l l1 l2 => q ⟨l, l1, l2⟩
            rw [A1 q', B1 q', im_bind, im_bind, if_pos rfl, if_pos rfl, show f_X1_number n 20 (1 : Int32) σx = f_X1_number n 20 (nI 1) σx from rfl, im_num n iw_net_20 (by decide) (by decide), im_bind, L4, show iw_rd σm 85 (1 : Int32) = iw_rd σm 85 (nI 1) from rfl, im_m_rd (by decide), im_bind, L3]
            by_cases f : L = 20
            · rw [if_neg (by rw [im_lit 20, im_lt (by omega) (by decide)]; omega), if_pos (by rw [f]; rfl)]
              exact ⟨_, _, _, rfl, rfl, h⟩
            · rw [if_pos (by rw [im_lit 20, im_lt (by omega) (by decide)]; omega), if_neg (by rw [im_lit 20, im_eq (by omega) (by decide)]; exact f)]
              obtain ⟨σm', s1, h', hr, -⟩ := im_rec hn h
              obtain ⟨hN', hW'⟩ := im_0 h'
              have m0 : σm' 85 1 = nI L := by rw [hr 1 (by omega)]; exact L3
              have x0 : f_X0_record 20 σx (20 + 1) 1 = nI L := by rw [hN'.1 1 (by decide) (by decide)]; exact m0
              have n0 : im_tn (σm' 85 0) = N := by rw [hr 0 (by omega)]; exact N2
              generalize f_X0_record 20 σx = σx' at h' hN' x0 ⊢
              have t0 : im_tn (σm' 85 1) = L := by rw [m0, im_tn_nI (by omega)]
              have r1 : ∀ σ : iw_M, iw_rd σ 85 1 = some (σ 85 1) := fun σ => im_m_rd (k := 1) (by decide)
              rw [s1, im_bind, im_laysLink (by omega) m0, im_bind, r1, im_bind, im_ups, im_let, im_appendLink iw_net_20 (by omega) x0]
              unfold iw_let2
              simp only []
              have e1 : nI (L + 1) - 1 = nI L := by rw [show (1 : Int32) = nI 1 from rfl, pk_sub (by omega)]; rfl
              rw [e1]
              have he : ∀ k, k < 465 → k ≠ 1 → ¬ (22 + 3 * L ≤ k ∧ k < 22 + 3 * L + 3) → iw_up (iw_up (iw_up (iw_up σm' 85 (22 + 3 * L) (nI a)) 85 (22 + 3 * L + 1) (nI b)) 85 (22 + 3 * L + 2) (nI w)) 85 1 (nI (L + 1)) 85 k = σm' 85 k := fun k _ k1 k2 => by
                rw [im_upn k1, im_upn (by omega), im_upn (by omega), im_upn (by omega)]
              refine ⟨_, _, _, rfl, rfl, im_upd h' (fun b hb => by rw [iw_up_ne (by omega), iw_up_ne (by omega), iw_up_ne (by omega), iw_up_ne (by omega)]) (by rw [iw_up_ne (by decide), iw_up_ne (by decide), iw_up_ne (by decide), iw_up_ne (by decide)]) (by rw [iw_up_ne (by decide), iw_up_ne (by decide), iw_up_ne (by decide), iw_up_ne (by decide)]) (by rw [iw_up_ne (by decide), iw_up_ne (by decide), iw_up_ne (by decide), iw_up_ne (by decide)]) (fun k k1 _ => by rw [im_upn (by omega), im_upn (by omega), im_upn (by omega), im_upn (by omega)]) ?_ ?_⟩
              · rw [im_sl0]
                refine im_NR_link hW' hN' t0 (by omega) (by rw [im_ups]) he (by rw [im_ups]) (fun j hj => by rw [im_upn hj, im_upo (by decide), im_upo (by decide), im_upo (by decide)]) (fun j hj => by rw [im_upo (by decide), im_upn (by omega), im_upn (by omega), im_upn (by omega)]) (fun j j1 j2 => ?_) (fun j a b hj => by rw [iw_up_ne (by omega), iw_up_ne (by omega), iw_up_ne (by omega), iw_up_ne (by omega)])
                rw [im_upo (by decide)]
                rcases (show j = 3 * L ∨ j = 3 * L + 1 ∨ j = 3 * L + 2 by omega) with rfl | rfl | rfl
                · rw [im_upn (by omega), im_upn (by omega), im_ups, im_upn (by omega), im_upn (by omega), im_upn (by omega), im_ups]
                · rw [im_upn (by omega), im_ups, im_upn (by omega), ← Nat.add_assoc, im_upn (by omega), im_ups]
                · rw [im_ups, im_upn (by omega), ← Nat.add_assoc, im_ups]
              · rw [im_sl0]
                exact im_WF_link hW' t0 (by omega) (by rw [im_ups]) (by rw [n0]; exact ha) (by rw [n0]; exact hb) hab ⟨w1, w2⟩ (by rw [im_upn (by omega), im_upn (by omega), im_upn (by omega), im_ups]) (by rw [im_upn (by omega), im_upn (by omega), im_ups]) (by rw [im_upn (by omega), im_ups]) (fun l hl z => q' l hl (by unfold im_lk at z ⊢; rw [hr _ (by omega), hr _ (by omega)] at z; exact z)) he
      · rw [if_neg d, if_neg d]
        exact ⟨_, _, _, rfl, rfl, h⟩
    · rw [if_neg c', if_neg c']
      exact ⟨_, _, _, rfl, rfl, h⟩
  · rw [if_neg c, if_neg c]
    exact ⟨_, _, _, rfl, rfl, h⟩
theorem sim_ask_ok (n : Nat) (hn : 4096 ≤ n) : sim_ask n im_RR := by
  intro p1 p2 p3 p4 p5 σx σm h
  obtain ⟨hN, hW⟩ := im_0 h
  obtain ⟨⟨N, N1, N2, N3, N4⟩, -, -, ⟨I, I1, I2, I3, I4⟩⟩ := im_cnt hN hW
  unfold f_X5_ask f_X6_ask
  rw [show f_X1_has 20 (0 : Int32) p1 σx = f_X1_has 20 (nI 0) p1 σx from rfl, im_has iw_net_20 (by decide) (by omega) p1 N4, im_isNode p1 (by omega) N3, im_bind, im_b01, im_b01, im_within, im_isKind, im_b01, im_b01, im_within, im_isMeasure, im_b01, im_b01, im_within, im_in, im_b01, im_b01]
  by_cases c : ∃ k, k < N ∧ p1 = nI k
  · rw [if_pos c, if_pos c]
    by_cases d : 0 ≤ p2 ∧ p2 ≤ 7
    · rw [if_pos d, if_pos d]
      by_cases e : -100 ≤ p3 ∧ p3 ≤ 100
      · rw [if_pos e, if_pos e]
        by_cases f : p3 ≤ p4 ∧ p4 ≤ 100
        · rw [if_pos f, if_pos f, show f_X1_number n 20 (5 : Int32) σx = f_X1_number n 20 (nI 5) σx from rfl, im_num n iw_net_20 (by decide) (by decide), im_bind, show iw_rd σm 85 (5 : Int32) = iw_rd σm 85 (nI 5) from rfl, im_m_rd (by decide), im_bind, hN.1 5 (by decide) (by decide), im_within, im_in, im_b01, im_b01]
          by_cases g : σm 85 5 ≤ p5 ∧ p5 ≤ 100000
          · rw [if_pos g, if_pos g, show f_X1_number n 20 (3 : Int32) σx = f_X1_number n 20 (nI 3) σx from rfl, im_num n iw_net_20 (by decide) (by decide), im_bind, I4, show iw_rd σm 85 (3 : Int32) = iw_rd σm 85 (nI 3) from rfl, im_m_rd (by decide), im_bind, I3]
            by_cases i : I = 5
            · rw [if_neg (by rw [im_lit 5, im_lt (by omega) (by decide)]; omega), if_pos (by rw [i]; rfl)]
              exact ⟨_, _, _, rfl, rfl, h⟩
            · rw [if_pos (by rw [im_lit 5, im_lt (by omega) (by decide)]; omega), if_neg (by rw [im_lit 5, im_eq (by omega) (by decide)]; exact i)]
              obtain ⟨k, hk, rfl⟩ := c
              obtain ⟨σm', s1, h', hr, -⟩ := im_rec hn h
              obtain ⟨hN', hW'⟩ := im_0 h'
              have m0 : σm' 85 3 = nI I := by rw [hr 3 (by omega)]; exact I3
              have x0 : f_X0_record 20 σx (20 + 1) 3 = nI I := by rw [hN'.1 3 (by decide) (by decide)]; exact m0
              have n0 : im_tn (σm' 85 0) = N := by rw [hr 0 (by omega)]; exact N2
              generalize f_X0_record 20 σx = σx' at h' hN' x0 ⊢
              have t0 : im_tn (σm' 85 3) = I := by rw [m0, im_tn_nI (by omega)]
              have r1 : ∀ σ : iw_M, iw_rd σ 85 3 = some (σ 85 3) := fun σ => im_m_rd (k := 3) (by decide)
              obtain ⟨τx, y1, y2, y3, y4, ⟨y50, y51, y52, y53, y54, y55, y56⟩, y6, y7, y8⟩ := im_appendInterest hn iw_net_20 (show I < 5 by omega) x0 (nI k) p2 p3 p4 p5
              rw [s1, im_bind, r1, im_bind, m0, im_let, y1, im_b2]
              simp only [im_let]
              rw [im_lit 100, im_lit 7, pk_mul, nI_add, show (1 : Int32) = nI 1 from rfl, show (2 : Int32) = nI 2 from rfl, show (3 : Int32) = nI 3 from rfl, show (4 : Int32) = nI 4 from rfl, show (5 : Int32) = nI 5 from rfl, show (6 : Int32) = nI 6 from rfl, nI_add, nI_add, nI_add, nI_add, nI_add, nI_add, im_wr (by rw [im_al85]; omega), im_bind, im_wr (by rw [im_al85]; omega), im_bind, im_wr (by rw [im_al85]; omega), im_bind, im_wr (by rw [im_al85]; omega), im_bind, im_wr (by rw [im_al85]; omega), im_bind, im_wr (by rw [im_al85]; omega), im_bind, im_wr (by rw [im_al85]; omega), im_bind, show f_X6_ask_L167 (nI I) (f_X6_ask_X194_167 (nI I)) n (0 : Int32) = f_X6_ask_L167 (nI I) (f_X6_ask_X194_167 (nI I)) n (nI 0) from rfl, im_ask_L (show I < 5 by omega) _ 6 0 n _ (by omega) (by omega)]
              generalize hθ : iw_up (iw_up (iw_up (iw_up (iw_up (iw_up (iw_up σm' 85 (100 + 7 * I) (nI k)) 85 (100 + 7 * I + 1) p2) 85 (100 + 7 * I + 2) p3) 85 (100 + 7 * I + 3) p4) 85 (100 + 7 * I + 4) p5) 85 (100 + 7 * I + 5) 0) 85 (100 + 7 * I + 6) 0 = θ
              have t85 : ∀ j, ¬ (100 + 7 * I ≤ j ∧ j < 100 + 7 * I + 7) → θ 85 j = σm' 85 j := fun j hj => by
                rw [← hθ, im_upn (by omega), im_upn (by omega), im_upn (by omega), im_upn (by omega), im_upn (by omega), im_upn (by omega), im_upn (by omega)]
              have to : ∀ r, r ≠ 85 → θ r = σm' r := fun r hr => by
                rw [← hθ, iw_up_ne hr, iw_up_ne hr, iw_up_ne hr, iw_up_ne hr, iw_up_ne hr, iw_up_ne hr, iw_up_ne hr]
              have v0 : θ 85 (100 + 7 * I) = nI k := by rw [← hθ, im_upn (by omega), im_upn (by omega), im_upn (by omega), im_upn (by omega), im_upn (by omega), im_upn (by omega), im_ups]
              have v1 : θ 85 (100 + 7 * I + 1) = p2 := by rw [← hθ, im_upn (by omega), im_upn (by omega), im_upn (by omega), im_upn (by omega), im_upn (by omega), im_ups]
              have v2 : θ 85 (100 + 7 * I + 2) = p3 := by rw [← hθ, im_upn (by omega), im_upn (by omega), im_upn (by omega), im_upn (by omega), im_ups]
              have v3 : θ 85 (100 + 7 * I + 3) = p4 := by rw [← hθ, im_upn (by omega), im_upn (by omega), im_upn (by omega), im_ups]
              have v4 : θ 85 (100 + 7 * I + 4) = p5 := by rw [← hθ, im_upn (by omega), im_upn (by omega), im_ups]
              have v5 : θ 85 (100 + 7 * I + 5) = 0 := by rw [← hθ, im_upn (by omega), im_ups]
              have v6 : θ 85 (100 + 7 * I + 6) = 0 := by rw [← hθ, im_ups]
              have zz : ∀ j, im_z6 θ I 0 85 j = if 135 + 66 * I ≤ j ∧ (j - (135 + 66 * I)) % 11 = 0 ∧ 0 ≤ (j - (135 + 66 * I)) / 11 ∧ (j - (135 + 66 * I)) / 11 < 6 then 0 else θ 85 j := fun j => by
                unfold im_z6
                rw [if_pos rfl]
              have z3 : im_z6 θ I 0 85 3 = nI I := by rw [zz, if_neg (by omega), t85 3 (by omega), m0]
              unfold f_X6_ask_X194_167
              rw [r1, im_bind, z3, nI_1, show iw_wr (im_z6 θ I 0) 85 3 (nI (I + 1)) = iw_wr (im_z6 θ I 0) 85 (nI 3) (nI (I + 1)) from rfl, im_wr (by rw [im_al85]; omega), im_bind]
              generalize hτ : iw_up (im_z6 θ I 0) 85 3 (nI (I + 1)) = τ
              have he : ∀ j, j < 465 → j ≠ 3 → ¬ (100 + 7 * I ≤ j ∧ j < 100 + 7 * I + 7) → (∀ s, s < 6 → j ≠ im_wa I s) → τ 85 j = σm' 85 j := fun j _ j1 j2 j3 => by
                rw [← hτ, im_upn j1, zz, if_neg (fun z => by
                  obtain ⟨i', -, b, d⟩ := im_z6_c.mp z
                  exact j3 i' b d), t85 j j2]
              have h2 : τ 85 3 = nI (I + 1) := by rw [← hτ, im_ups]
              have hz : ∀ s, s < 6 → τ 85 (im_wa I s) = 0 := fun s hs => by
                rw [← hτ, im_upn (by have := im_wa_ge I s; omega), zz, if_pos (im_z6_c.mpr ⟨s, Nat.zero_le _, hs, rfl⟩)]
              have hv : ∀ j, j < 7 → τ 85 (100 + 7 * I + j) = θ 85 (100 + 7 * I + j) := fun j hj => by
                rw [← hτ, im_upn (by omega), zz, if_neg (by omega)]
              have ho : ∀ r, r ≠ 85 → τ r = σm' r := fun r hr => by
                rw [← hτ, iw_up_ne hr]
                unfold im_z6
                rw [if_neg hr, to r hr]
              refine ⟨_, _, _, rfl, rfl, im_upd h' (fun b hb => y8 b (by omega) (by omega) (by omega)) (by rw [ho 84 (by decide)]) (by rw [ho 84 (by decide)]) (ho 92 (by decide)) (fun j j1 j2 => ?_) ?_ ?_⟩
              · rw [← hτ, im_upn (by omega), zz, if_neg (by omega), t85 j (by omega)]
              · rw [im_sl0]
                refine im_NR_int hW' hN' t0 (by omega) h2 hz he y2 y3 y4 (fun j a b => ?_) y6 y7 (fun j a b c d => y8 _ (by omega) (by omega) (by omega))
                rcases (show j = 7 * I ∨ j = 7 * I + 1 ∨ j = 7 * I + 2 ∨ j = 7 * I + 3 ∨ j = 7 * I + 4 ∨ j = 7 * I + 5 ∨ j = 7 * I + 6 by omega) with rfl | rfl | rfl | rfl | rfl | rfl | rfl
                · rw [y50]; exact ((hv 0 (by omega)).trans v0).symm
                · rw [y51, ← Nat.add_assoc]; exact ((hv 1 (by omega)).trans v1).symm
                · rw [y52, ← Nat.add_assoc]; exact ((hv 2 (by omega)).trans v2).symm
                · rw [y53, ← Nat.add_assoc]; exact ((hv 3 (by omega)).trans v3).symm
                · rw [y54, ← Nat.add_assoc]; exact ((hv 4 (by omega)).trans v4).symm
                · rw [y55, ← Nat.add_assoc]; exact ((hv 5 (by omega)).trans v5).symm
                · rw [y56, ← Nat.add_assoc]; exact ((hv 6 (by omega)).trans v6).symm
              · rw [im_sl0]
                exact im_WF_int hW' t0 (by omega) h2 (by rw [n0]; exact hk) ((hv 0 (by omega)).trans v0) hz he
          · rw [if_neg g, if_neg g]
            exact ⟨_, _, _, rfl, rfl, h⟩
        · rw [if_neg f, if_neg f]
          exact ⟨_, _, _, rfl, rfl, h⟩
      · rw [if_neg e, if_neg e]
        exact ⟨_, _, _, rfl, rfl, h⟩
    · rw [if_neg d, if_neg d]
      exact ⟨_, _, _, rfl, rfl, h⟩
  · rw [if_neg c, if_neg c]
    exact ⟨_, _, _, rfl, rfl, h⟩
