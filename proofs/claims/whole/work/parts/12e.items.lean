/-! items of a text, on both sides -/
/-- both read it, or both refuse at the same place -/
def im_res (len : Nat) (q : Nat → Nat) (p : Nat) (σx σm : iw_M) (X M : Option (Int32 × iw_M)) : Prop := (∃ τx τm p', X = some (1, τx) ∧ M = some (1, τm) ∧ p < p' ∧ im_tx len q p' τx τm ∧ im_kx σx τx ∧ im_kM σm τm) ∨ ∃ τx τm, X = some (0, τx) ∧ M = some (0, τm) ∧ im_bad len q τx τm ∧ im_kx σx τx ∧ im_kM σm τm
section
variable {len : Nat} {q : Nat → Nat} {p : Nat} {σx σm : iw_M}
theorem im_tx_net {τx τm : iw_M} (h : im_tx len q p σx σm) (h6 : τx 6 = σx 6) (h7 : τx 7 = σx 7) (h84 : τm 84 = σm 84) (h92 : τm 92 = σm 92) (hN : im_NR τx 36 (τm 85)) (hw : im_WF (τm 85)) : im_tx len q p τx τm := by
  obtain ⟨a1, a2, a3, a4, a5, -, -⟩ := h
  refine ⟨a1, ?_, ?_, by rw [h6]; exact a4, by rw [h84]; exact a5, hN, hw⟩
  · unfold im_tX
    rw [h6, h7]
    exact a2
  · unfold im_tM
    rw [h84, h92]
    exact a3
/-- the net has one more; the text stays -/
theorem im_suc {τx τm : iw_M} {p0 p' : Nat} {ρx ρm : iw_M} (kx : im_kx σx ρx) (km : im_kM σm ρm) (hp : p0 < p') (h : im_tx len q p' ρx ρm) (fx : ∀ r, (r < 36 ∨ 36 + 7 < r) → τx r = ρx r) (fm : ∀ r, r ≠ 85 → τm r = ρm r) (fr : ∀ k, 465 ≤ k → τm 85 k = ρm 85 k) (hN : im_NR τx 36 (τm 85)) (hw : im_WF (τm 85)) : p0 < p' ∧ im_tx len q p' τx τm ∧ im_kx σx τx ∧ im_kM σm τm :=
  ⟨hp, im_tx_net h (fx 6 (by omega)) (fx 7 (by omega)) (fm 84 (by decide)) (fm 92 (by decide)) hN hw, im_kx_t kx ⟨fun r r1 r2 => fx r (by omega), by rw [fx 6 (by omega)], by rw [fx 6 (by omega)]⟩, im_kM_t km ⟨fun r r1 r2 => fm r r2, fun j j1 j2 => by rw [fm 84 (by decide)], fr⟩⟩
/-- the class refuses at its place -/
theorem im_ref {v : Int32} (h : im_tx len q p σx σm) (hq : p < len → q p ≠ 32) (hv : v = nI p) : im_bad len q (iw_up σx 6 4 v) σm ∧ im_kx σx (iw_up σx 6 4 v) :=
  ⟨⟨p, h.1, hq, by rw [im_ups, hv], h.2.2.2.2.1, h.2.2.1⟩, im_kx_u (by decide)⟩
theorem im_nums (n : Nat) (h : im_tx len q p σx σm) {j : Nat} (hj : j < 4) : im_tn (σm 85 j) < 2 ^ 20 ∧ f_X1_number n 36 (nI j) σx = some (nI (im_tn (σm 85 j))) ∧ iw_rd σm 85 (nI j) = some (nI (im_tn (σm 85 j))) := by
  obtain ⟨-, -, -, -, -, a6, a7⟩ := h
  have v : im_tn (σm 85 j) < 2 ^ 20 ∧ σm 85 j = nI (im_tn (σm 85 j)) := by
    rcases (show j = 0 ∨ j = 1 ∨ j = 2 ∨ j = 3 by omega) with rfl | rfl | rfl | rfl
    · have := a7.1.1; exact ⟨by have := this.1; omega, this.2⟩
    · have := a7.1.2.1; exact ⟨by have := this.1; omega, this.2⟩
    · have := a7.1.2.2.1; exact ⟨by have := this.1; omega, this.2⟩
    · have := a7.1.2.2.2.1; exact ⟨by have := this.1; omega, this.2⟩
  refine ⟨v.1, ?_, ?_⟩
  · rw [im_num n iw_net_36 (by omega) (by omega), a6.1 j (by omega) (by omega)]
    exact congrArg some v.2
  · rw [im_m_rd (by omega)]
    exact congrArg some v.2
theorem im_jnode {n : Nat} (hn : 4096 ≤ n) (h : im_tx len q p σx σm) (hp : p < len) (hq : q p = 110) : im_res len q p σx σm (f_X4_readNode n σx) (f_X6_readsNode n σm) := by
  obtain ⟨a1, a2, a3, a4, a5, a6, a7⟩ := id h
  have b0 := a7.1.1.1
  obtain ⟨-, X0, Y0⟩ := im_nums n h (j := 0) (by decide)
  have nb : p < len → q p ≠ 32 := fun _ => by omega
  unfold f_X4_readNode f_X6_readsNode
  rw [show f_X1_number n 36 (0 : Int32) σx = f_X1_number n 36 (nI 0) σx from rfl, X0, im_bind, show iw_rd σm 85 (0 : Int32) = iw_rd σm 85 (nI 0) from rfl, Y0, im_bind]
  by_cases e : im_tn (σm 85 0) = 10
  · rw [if_neg (by rw [im_lit 10, im_lt (by omega) (by decide)]; omega), if_pos (by rw [e]; rfl), im_refuse, im_let2]
    obtain ⟨r1, r2⟩ := im_ref h nb a4
    exact Or.inr ⟨_, _, rfl, rfl, r1, r2, im_kM_0 _⟩
  · rw [if_pos (by rw [im_lit 10, im_lt (by omega) (by decide)]; omega), if_neg (by rw [im_lit 10, im_eq (by omega) (by decide)]; exact e)]
    have sx := (im_signX hn (k := 110) (by decide) a1 a2 a4).1 (by rw [im_S_id a1 nb]; exact ⟨hp, hq⟩)
    rw [im_S_id a1 nb] at sx
    have h1 : im_tx len q (p + 1) (iw_up σx 6 5 (nI (p + 1))) (iw_up σm 84 12 (nI (p + 1))) := im_tx_up h (by omega) im_ups im_ups (im_upn (by decide)) (fun r hr => iw_up_ne hr) (im_upn (by decide)) (fun r hr => iw_up_ne hr)
    rw [show f_X4_readSign n (110 : Int32) σx = f_X4_readSign n (nI 110) σx from rfl, sx, im_b2, if_neg (show ¬ (1 : Int32) = 0 by decide), im_let, a5, nI_1]
    unfold f_X4_readNode_J43
    rcases im_jnum hn h1 1 10000 with ⟨V, τx, τm, p', v1, v2, v3, e1, e2, e3, e4, e5, e6, e7⟩ | ⟨τx, τm, e1, e2, e3, e4, e5⟩
    · obtain ⟨-, -, -, -, -, t6, t7⟩ := id e5
      have e0 : τm 85 0 = σm 85 0 := by rw [e7.1 85 (by decide), iw_up_ne (by decide)]
      obtain ⟨ωx, ωm, w1, w2, w3, w4, w5, w6, w7⟩ := im_addN iw_net_36 t7 t6 (N := im_tn (σm 85 0)) (by rw [e0]) (by omega) (nI V)
      rw [e1, im_b2, if_neg (im_m1 (by omega)), w1, im_let2, e2, im_b2, if_neg (show ¬ (1 : Int32) = 0 by decide), e3, w2, im_bind]
      obtain ⟨g1, g2, g3, g4⟩ := im_suc (σx := σx) (σm := σm) (p0 := p) (im_kx_t (im_kx_u (by decide)) e6) (im_kM_t (im_kM_u (Or.inl rfl)) (im_kN_M e7)) (by omega) e5 w5 w6 w7 w3 w4
      exact Or.inl ⟨ωx, ωm, p', rfl, rfl, g1, g2, g3, g4⟩
    · rw [e1, im_b2, if_pos rfl, e2, im_b2, if_pos rfl]
      exact Or.inr ⟨τx, τm, rfl, rfl, e3, im_kx_t (im_kx_u (by decide)) e4, im_kM_t (im_kM_u (Or.inl rfl)) (im_kN_M e5)⟩
/-- no item begins here: the reference refuses as at a link -/
theorem im_nolink {n : Nat} (hn : 4096 ≤ n) (h : im_tx len q p σx σm) (nb : p < len → q p ≠ 32) (nd : ¬ (p < len ∧ 48 ≤ q p ∧ q p ≤ 57)) : ∃ τm, f_X6_readsLink n σm = some (0, τm) ∧ τm 84 12 = nI p ∧ im_tM len q τm ∧ im_kM σm τm := by
  obtain ⟨a1, a2, a3, a4, a5, a6, a7⟩ := id h
  obtain ⟨-, X1, Y1⟩ := im_nums n h (j := 1) (by decide)
  obtain ⟨-, X0, Y0⟩ := im_nums n h (j := 0) (by decide)
  unfold f_X6_readsLink
  rw [show iw_rd σm 85 (1 : Int32) = iw_rd σm 85 (nI 1) from rfl, Y1, im_bind]
  by_cases e : nI (im_tn (σm 85 1)) = (20 : Int32)
  · rw [if_pos e]
    exact ⟨σm, rfl, a5, a3, im_kM_0 _⟩
  · have eE : im_E len q p = p := by
      unfold im_E
      by_cases z : p < len
      · rw [show len - p = (len - p - 1) + 1 by omega, im_de_s, if_neg (fun y => nd ⟨z, y⟩)]
      · rw [show len - p = 0 by omega]
        rfl
    obtain ⟨u, m0, m1, m2⟩ := im_finds hn a1 a3 a5 (0 : Int32) (nI (im_tn (σm 85 0)) - 1) 0
    rw [im_S_id a1 nb] at m1 m2
    have f := m2 (fun z => by have := z.1.1; rw [eE] at this; omega)
    rw [if_neg e, show iw_rd σm 85 (0 : Int32) = iw_rd σm 85 (nI 0) from rfl, Y0, im_bind]
    unfold f_X6_reads f_X6_reads_J24
    rw [f, im_b2, if_pos rfl, im_up_self, im_let, if_pos rfl, im_b2, if_pos rfl]
    exact ⟨_, rfl, by rw [im_upn (by decide), im_ups], im_tM_up (im_tM_up a3 (by decide)) (by decide), im_kM_t (im_kM_u (Or.inl rfl)) (im_kM_u (Or.inr rfl))⟩
theorem im_jlink {n : Nat} (hn : 4096 ≤ n) (h : im_tx len q p σx σm) (nb : p < len → q p ≠ 32) : im_res len q p σx σm (f_X4_readLink n σx) (f_X6_readsLink n σm) := by
  obtain ⟨a1, a2, a3, a4, a5, a6, a7⟩ := id h
  have b0 := a7.1.1.1
  have b1 := a7.1.2.1.1
  obtain ⟨-, X1, Y1⟩ := im_nums n h (j := 1) (by decide)
  obtain ⟨-, X0, Y0⟩ := im_nums n h (j := 0) (by decide)
  unfold f_X4_readLink f_X6_readsLink f_X4_readLink_J87 f_X4_readLink_J116
  rw [show f_X1_number n 36 (1 : Int32) σx = f_X1_number n 36 (nI 1) σx from rfl, X1, im_bind, show iw_rd σm 85 (1 : Int32) = iw_rd σm 85 (nI 1) from rfl, Y1, im_bind]
  by_cases e : im_tn (σm 85 1) = 20
  · rw [if_neg (by rw [im_lit 20, im_lt (by omega) (by decide)]; omega), if_pos (by rw [e]; rfl), im_refuse, im_let2]
    obtain ⟨r1, r2⟩ := im_ref h nb a4
    exact Or.inr ⟨_, _, rfl, rfl, r1, r2, im_kM_0 _⟩
  · rw [if_pos (by rw [im_lit 20, im_lt (by omega) (by decide)]; omega), if_neg (by rw [im_lit 20, im_eq (by omega) (by decide)]; exact e), show f_X1_number n 36 (0 : Int32) σx = f_X1_number n 36 (nI 0) σx from rfl, X0, im_bind, im_let, show iw_rd σm 85 (0 : Int32) = iw_rd σm 85 (nI 0) from rfl, Y0, im_bind]
    rcases im_jnum hn h (0 : Int32) (nI (im_tn (σm 85 0)) - 1) with ⟨A, τ1, μ1, p1, A1, A2, A3, c1, c2, c3, c4, c5, c6, c7⟩ | ⟨τx, τm, e1, e2, e3, e4, e5⟩
    · obtain ⟨A', hA', eA⟩ := (im_idx (nI A) (n := im_tn (σm 85 0)) (by omega)).mp ⟨A2, A3⟩
      rw [im_eq (by omega) (by omega)] at eA
      rw [c1, im_b2, if_neg (im_m1 (by omega)), c2, im_b2, if_neg (show ¬ (1 : Int32) = 0 by decide), c3, im_let]
      rcases im_jsign hn (k := 45) (by decide) c5 with ⟨τ2, μ2, p2, d1, d2, d3, d4, d5, d6⟩ | ⟨τx, τm, e1, e2, e3, e4, e5⟩
      · have r2 : μ2 85 = σm 85 := by rw [d6.1 85 (by decide), c7.1 85 (by decide)]
        have Y2 : iw_rd μ2 85 (0 : Int32) = some (nI (im_tn (σm 85 0))) := by
          rw [show iw_rd μ2 85 (0 : Int32) = iw_rd μ2 85 (nI 0) from rfl, im_m_rd (by decide), r2]
          exact congrArg some a7.1.1.2
        rw [show f_X4_readSign n (45 : Int32) τ1 = f_X4_readSign n (nI 45) τ1 from rfl, d1, im_b2, if_neg (show ¬ (1 : Int32) = 0 by decide), show f_X6_sign n (45 : Int32) μ1 = f_X6_sign n (nI 45) μ1 from rfl, d2, im_b2, if_neg (show ¬ (1 : Int32) = 0 by decide), Y2, im_bind]
        rcases im_jfind hn d4 (a := 0) (b := nI (im_tn (σm 85 0)) - 1) (a' := 0) (b' := nI (im_tn (σm 85 0)) - 1) (g := 0) (fun V _ => by rw [if_pos rfl]) with ⟨B, τ3, μ3, S, p3, B1, B2, B3, f1, f2, f3, f4, f5, f6, f7, f8, f9, f10, f11, f12, f13⟩ | ⟨τx, τm, e1, e2, e3, e4, e5⟩
        · rw [if_pos rfl] at f3
          obtain ⟨B', hB', eB⟩ := (im_idx (nI B) (n := im_tn (σm 85 0)) (by omega)).mp ⟨B2, B3⟩
          rw [im_eq (by omega) (by omega)] at eB
          have l1 := a2.1
          have r3 : μ3 85 = σm 85 := by rw [f13.1 85 (by decide), r2]
          have kx3 : im_kx σx τ3 := im_kx_t (im_kx_t c6 d5) f12
          have kn3 : im_kN σm μ3 := im_kN_t (im_kN_t c7 d6) f13
          obtain ⟨t1, t2, t3, t4, t5, t6, t7⟩ := id f10
          rw [f1, im_b2, if_neg (im_m1 (by omega)), f2, im_b2, if_neg (im_neN (by omega)), f3, f4]
          have refuse : im_res len q p σx σm (some (0, iw_up τ3 6 4 (nI S))) (some (0, μ3)) := Or.inr ⟨_, _, rfl, rfl, ⟨S, f6, f7, im_ups, f5, f11⟩, im_kx_t kx3 (im_kx_u (by decide)), im_kN_M kn3⟩
          by_cases z : A = B
          · rw [if_pos (show nI A = nI B by rw [z]), if_pos (show nI B = nI A by rw [z]), im_refuse, im_let2]
            exact refuse
          · rw [if_neg (show ¬ nI A = nI B by rw [im_eq (by omega) (by omega)]; exact z), if_neg (show ¬ nI B = nI A by rw [im_eq (by omega) (by omega)]; exact fun y => z y.symm)]
            rw [iw_up_ne (show (85 : Nat) ≠ 84 by decide)] at t6 t7
            obtain ⟨P1, P2⟩ := im_areLinked hn iw_net_36 t7 t6 (a := A) (b := B) (by omega) (by omega)
            obtain ⟨Q1, Q2⟩ := im_linkOf hn t7 (a := A) (b := B) (by omega) (by omega)
            by_cases y : ∃ l, l < im_tn (μ3 85 1) ∧ im_lkb (μ3 85) l A B = true
            · obtain ⟨l, y1, y2⟩ := y
              have y3 := im_lkb_iff.mp y2
              have b1' := t7.1.2.1.1
              rw [P2 ⟨l, y1, y3⟩, im_bind, if_neg (show ¬ (1 : Int32) = 0 by decide), Q2 l y1 y3, im_bind, if_neg (im_neN (by omega)), im_refuse, im_let2]
              exact refuse
            · have y' : ∀ l, l < im_tn (μ3 85 1) → ¬ im_lk (μ3 85) l A B := fun l l1 l2 => y ⟨l, l1, im_lkb_iff.mpr l2⟩
              rw [P1 y', im_bind, if_pos rfl, Q1 y', im_bind, if_pos rfl, im_let, im_let]
              rcases im_jsign hn (k := 58) (by decide) f10 with ⟨τ4, μ4, p4, g1, g2, g3, g4, g5, g6⟩ | ⟨τx, τm, e1, e2, e3, e4, e5⟩
              · rw [show f_X4_readSign n (58 : Int32) τ3 = f_X4_readSign n (nI 58) τ3 from rfl, g1, im_b2, if_neg (show ¬ (1 : Int32) = 0 by decide), show f_X6_sign n (58 : Int32) (iw_up μ3 84 12 (nI p3)) = f_X6_sign n (nI 58) (iw_up μ3 84 12 (nI p3)) from rfl, g2, im_b2, if_neg (show ¬ (1 : Int32) = 0 by decide)]
                rcases im_jnum hn g4 (1 : Int32) (20 : Int32) with ⟨W, τ5, μ5, p5, W1, W2, W3, h1, h2, h3, h4, h5, h6, h7⟩ | ⟨τx, τm, e1, e2, e3, e4, e5⟩
                · have r5 : μ5 85 = σm 85 := by rw [h7.1 85 (by decide), g6.1 85 (by decide), iw_up_ne (by decide), r3]
                  obtain ⟨-, -, -, -, -, u6, u7⟩ := id h5
                  have w1 : 1 ≤ W := by
                    rw [show (1 : Int32) = nI 1 from rfl, im_le (by omega) (by omega)] at W2
                    exact W2
                  have w2 : W ≤ 20 := by
                    rw [show (20 : Int32) = nI 20 from rfl, im_le (by omega) (by omega)] at W3
                    exact W3
                  obtain ⟨ωx, ωm, o1, o2, o3, o4, o5, o6, o7⟩ := im_addL iw_net_36 u7 u6 (L := im_tn (σm 85 1)) (a := A) (b := B) (w := W) (by rw [r5]) (by omega) (by rw [r5]; omega) (by rw [r5]; omega) z ⟨w1, w2⟩ (by rw [r5, ← r3]; exact y')
                  rw [h1, im_b2, if_neg (im_m1 (by omega)), o1, im_let2, h2, im_b2, if_neg (show ¬ (1 : Int32) = 0 by decide), h3, o2, im_bind]
                  obtain ⟨k1, k2, k3, k4⟩ := im_suc (σx := σx) (σm := σm) (p0 := p) (im_kx_t (im_kx_t kx3 g5) h6) (im_kN_M (im_kN_t (im_kN_t (im_kN_t kn3 (im_kN_u (Or.inl rfl))) g6) h7)) (by omega) h5 o5 o6 o7 o3 o4
                  exact Or.inl ⟨ωx, ωm, p5, rfl, rfl, k1, k2, k3, k4⟩
                · rw [e1, im_b2, if_pos rfl, e2, im_b2, if_pos rfl]
                  exact Or.inr ⟨τx, τm, rfl, rfl, e3, im_kx_t (im_kx_t kx3 g5) e4, im_kN_M (im_kN_t (im_kN_t (im_kN_t kn3 (im_kN_u (Or.inl rfl))) g6) e5)⟩
              · rw [show f_X4_readSign n (58 : Int32) τ3 = f_X4_readSign n (nI 58) τ3 from rfl, e1, im_b2, if_pos rfl, if_pos rfl, show f_X6_sign n (58 : Int32) (iw_up μ3 84 12 (nI p3)) = f_X6_sign n (nI 58) (iw_up μ3 84 12 (nI p3)) from rfl, e2, im_b2, if_pos rfl]
                exact Or.inr ⟨τx, τm, rfl, rfl, e3, im_kx_t kx3 e4, im_kN_M (im_kN_t (im_kN_t kn3 (im_kN_u (Or.inl rfl))) e5)⟩
        · rw [e1, im_b2, if_pos rfl, e2, im_b2, if_pos rfl]
          exact Or.inr ⟨τx, τm, rfl, rfl, e3, im_kx_t (im_kx_t c6 d5) e4, im_kN_M (im_kN_t (im_kN_t c7 d6) e5)⟩
      · rw [show f_X4_readSign n (45 : Int32) τ1 = f_X4_readSign n (nI 45) τ1 from rfl, e1, im_b2, if_pos rfl, show f_X6_sign n (45 : Int32) μ1 = f_X6_sign n (nI 45) μ1 from rfl, e2, im_b2, if_pos rfl]
        exact Or.inr ⟨τx, τm, rfl, rfl, e3, im_kx_t c6 e4, im_kN_M (im_kN_t c7 e5)⟩
    · rw [e1, im_b2, if_pos rfl, e2, im_b2, if_pos rfl]
      exact Or.inr ⟨τx, τm, rfl, rfl, e3, e4, im_kN_M e5⟩
end
