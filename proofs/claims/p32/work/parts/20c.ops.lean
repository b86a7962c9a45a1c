/-! link, cut, addSensor, one-sided -/
def ip_lk (ρ : Nat → Int32) (L a b w : Nat) : Nat → Int32 := im_ru (im_ru (im_ru (im_ru ρ (22 + 3 * L) (nI a)) (22 + 3 * L + 1) (nI b)) (22 + 3 * L + 2) (nI w)) 1 (nI (L + 1))
theorem ip_lk_o {ρ : Nat → Int32} {L a b w k : Nat} (h1 : k ≠ 1) (h2 : ¬ (22 + 3 * L ≤ k ∧ k < 22 + 3 * L + 3)) : ip_lk ρ L a b w k = ρ k := by
  unfold ip_lk
  rw [im_ru_ne h1, im_ru_ne (by omega), im_ru_ne (by omega), im_ru_ne (by omega)]
theorem ip_lk_v {ρ : Nat → Int32} {L a b w : Nat} : ip_lk ρ L a b w 1 = nI (L + 1) ∧ ip_lk ρ L a b w (22 + 3 * L) = nI a ∧ ip_lk ρ L a b w (22 + 3 * L + 1) = nI b ∧ ip_lk ρ L a b w (22 + 3 * L + 2) = nI w := by
  unfold ip_lk
  refine ⟨im_ru_eq, ?_, ?_, ?_⟩
  · rw [im_ru_ne (by omega), im_ru_ne (by omega), im_ru_ne (by omega), im_ru_eq]
  · rw [im_ru_ne (by omega), im_ru_ne (by omega), im_ru_eq]
  · rw [im_ru_ne (by omega), im_ru_eq]
theorem op_link {n : Nat} (hn : 4096 ≤ n) {σ : iw_M} {ρ : Nat → Int32} (h : ip_G σ ρ) (p1 p2 p3 : Int32) : ∃ r σ', f_X5_link n p1 p2 p3 σ = some (r, σ') ∧ σ' 84 = σ 84 ∧
    ((r < -1000 ∧ ip_G σ' ρ ∧ ((∃ a, a < im_tn (ρ 0) ∧ p1 = nI a) → (∃ b, b < im_tn (ρ 0) ∧ p2 = nI b) → (¬ (1 ≤ p3 ∧ p3 ≤ 20) → r = -1002) ∧ (1 ≤ p3 ∧ p3 ≤ 20 → p1 = p2 → r = -1003) ∧ (1 ≤ p3 ∧ p3 ≤ 20 → p1 ≠ p2 → (∀ l, l < im_tn (ρ 1) → ¬ im_lk ρ l (im_tn p1) (im_tn p2)) → im_tn (ρ 1) = 20))) ∨
    (∃ a b w, a < im_tn (ρ 0) ∧ b < im_tn (ρ 0) ∧ 1 ≤ w ∧ w ≤ 20 ∧ a ≠ b ∧ p1 = nI a ∧ p2 = nI b ∧ p3 = nI w ∧ im_tn (ρ 1) < 20 ∧ (∀ l, l < im_tn (ρ 1) → ¬ im_lk ρ l a b) ∧ r = nI (im_tn (ρ 1)) ∧ ip_G σ' (ip_lk ρ (im_tn (ρ 1)) a b w) ∧ ip_T σ' ρ)) := by
  have hN := h.1
  have hW := h.2.1
  obtain ⟨⟨N, N1, N2, N3, N4⟩, ⟨L, L1, L2, L3, L4⟩, -⟩ := ip_cnt hN hW
  unfold f_X5_link
  rw [show f_X1_has 20 (0 : Int32) p1 σ = f_X1_has 20 (nI 0) p1 σ from rfl, show f_X1_has 20 (0 : Int32) p2 σ = f_X1_has 20 (nI 0) p2 σ from rfl, im_has iw_net_20 (by decide) (by omega) p1 N4, im_has iw_net_20 (by decide) (by omega) p2 N4, im_b01, im_b01, im_within, im_b01, N2, L2]
  by_cases c : ∃ k, k < N ∧ p1 = nI k
  · rw [if_pos c]
    by_cases c' : ∃ k, k < N ∧ p2 = nI k
    · rw [if_pos c']
      by_cases d : 1 ≤ p3 ∧ p3 ≤ 20
      · rw [if_pos d]
        obtain ⟨a, ha, rfl⟩ := c
        obtain ⟨b, hb, rfl⟩ := c'
        obtain ⟨w, w1, w2, rfl⟩ := im_rng1 (a := 1) (b := 20) (by decide) (by decide) d
        by_cases e : nI a = nI b
        · rw [if_pos e]
          exact ⟨_, _, rfl, rfl, Or.inl ⟨by decide, h, fun _ _ => ⟨fun q => absurd d q, fun _ _ => rfl, fun _ q => absurd e q⟩⟩⟩
        · rw [if_neg e]
          have hab : a ≠ b := fun z => e (by rw [z])
          obtain ⟨A1, A2⟩ := im_areLinked hn iw_net_20 hW hN (a := a) (b := b) (by omega) (by omega)
          rw [L2] at A1 A2
          by_cases q : ∃ l, l < L ∧ im_lk ρ l a b
          · obtain ⟨l, q1, q2⟩ := q
            rw [A2 ⟨l, q1, q2⟩, im_bind, if_neg (show ¬ (1 : Int32) = 0 by decide)]
            refine ⟨_, _, rfl, rfl, Or.inl ⟨by decide, h, fun _ _ => ⟨fun q => absurd d q, fun _ q => absurd q e, fun _ _ z => ?_⟩⟩⟩
            rw [im_tn_nI (by omega), im_tn_nI (by omega)] at z
            exact absurd q2 (z l q1)
          · have q' : ∀ l, l < L → ¬ im_lk ρ l a b := fun l l1 l2 => q ⟨l, l1, l2⟩
            rw [A1 q', im_bind, if_pos rfl, show f_X1_number n 20 (1 : Int32) σ = f_X1_number n 20 (nI 1) σ from rfl, im_num n iw_net_20 (by decide) (by decide), im_bind, L4]
            by_cases f : L = 20
            · rw [if_neg (by rw [im_lit 20, im_lt (by omega) (by decide)]; omega)]
              exact ⟨_, _, rfl, rfl, Or.inl ⟨by decide, h, fun _ _ => ⟨fun q => absurd d q, fun _ q => absurd q e, fun _ _ _ => f⟩⟩⟩
            · rw [if_pos (by rw [im_lit 20, im_lt (by omega) (by decide)]; omega)]
              obtain ⟨h', t', e84⟩ := ip_rec h
              have hN' := h'.1
              have x0 : f_X0_record 20 σ (20 + 1) 1 = nI L := by rw [hN'.1 1 (by decide) (by decide)]; exact L3
              generalize f_X0_record 20 σ = σ1 at h' hN' t' e84 x0 ⊢
              rw [im_let, im_appendLink iw_net_20 (by omega) x0]
              have he : ∀ k, k < 465 → k ≠ 1 → ¬ (22 + 3 * L ≤ k ∧ k < 22 + 3 * L + 3) → ip_lk ρ L a b w k = ρ k := fun k _ k1 k2 => ip_lk_o k1 k2
              obtain ⟨v1, v2, v3, v4⟩ := ip_lk_v (ρ := ρ) (L := L) (a := a) (b := b) (w := w)
              obtain ⟨g1, g2, g3⟩ := ip_upd h' t' (σ' := iw_up (iw_up (iw_up (iw_up σ1 (20 + 3) (3 * L) (nI a)) (20 + 3) (3 * L + 1) (nI b)) (20 + 3) (3 * L + 2) (nI w)) (20 + 1) 1 (nI (L + 1))) (ρ' := ip_lk ρ L a b w) (fun b hb => by rw [iw_up_ne (by omega), iw_up_ne (by omega), iw_up_ne (by omega), iw_up_ne (by omega)]) (by
                refine im_NR_link hW hN' L2 (by omega) v1 he (by rw [im_ups]) (fun j hj => by rw [im_upn hj, im_upo (by decide), im_upo (by decide), im_upo (by decide)]) (fun j hj => by rw [im_upo (by decide), im_upn (by omega), im_upn (by omega), im_upn (by omega)]) (fun j j1 j2 => ?_) (fun j a b hj => by rw [iw_up_ne (by omega), iw_up_ne (by omega), iw_up_ne (by omega), iw_up_ne (by omega)])
                rw [im_upo (by decide)]
                rcases (show j = 3 * L ∨ j = 3 * L + 1 ∨ j = 3 * L + 2 by omega) with rfl | rfl | rfl
                · rw [im_upn (by omega), im_upn (by omega), im_ups, v2]
                · rw [im_upn (by omega), im_ups, ← Nat.add_assoc, v3]
                · rw [im_ups, ← Nat.add_assoc, v4]) (im_WF_link hW L2 (by omega) v1 (by omega) (by omega) hab ⟨w1, w2⟩ v2 v3 v4 q' he)
              exact ⟨_, _, rfl, g3.trans e84, Or.inr ⟨a, b, w, ha, hb, w1, w2, hab, rfl, rfl, rfl, by omega, q', rfl, g1, g2⟩⟩
      · rw [if_neg d]
        exact ⟨_, _, rfl, rfl, Or.inl ⟨by decide, h, fun _ _ => ⟨fun _ => rfl, fun q => absurd q d, fun q => absurd q d⟩⟩⟩
    · rw [if_neg c']
      exact ⟨_, _, rfl, rfl, Or.inl ⟨by decide, h, fun _ q => absurd q c'⟩⟩
  · rw [if_neg c]
    exact ⟨_, _, rfl, rfl, Or.inl ⟨by decide, h, fun q => absurd q c⟩⟩
def ip_cu (ρ : Nat → Int32) (l L : Nat) : Nat → Int32 := fun k => if k = 1 then nI (L - 1) else if 22 + 3 * l ≤ k ∧ k < 22 + 3 * (L - 1) then ρ (k + 3) else ρ k
theorem op_cut {n : Nat} (hn : 4096 ≤ n) {σ : iw_M} {ρ : Nat → Int32} (h : ip_G σ ρ) (p1 : Int32) : ∃ r σ', f_X5_cut n p1 σ = some (r, σ') ∧ σ' 84 = σ 84 ∧ ((¬ ∃ k, k < im_tn (ρ 1) ∧ p1 = nI k) → r = -1001) ∧ ((r < -1000 ∧ ip_G σ' ρ) ∨ ∃ l, l < im_tn (ρ 1) ∧ p1 = nI l ∧ r = nI (im_tn (ρ 1) - 1) ∧ ip_G σ' (ip_cu ρ l (im_tn (ρ 1))) ∧ ip_T σ' ρ) := by
  have hN := h.1
  have hW := h.2.1
  obtain ⟨-, ⟨L, L1, L2, L3, L4⟩, -⟩ := ip_cnt hN hW
  unfold f_X5_cut
  rw [show f_X1_has 20 (1 : Int32) p1 σ = f_X1_has 20 (nI 1) p1 σ from rfl, im_has iw_net_20 (by decide) (by omega) p1 L4, im_b01, L2]
  by_cases c : ∃ k, k < L ∧ p1 = nI k
  · rw [if_pos c]
    obtain ⟨l, hl, rfl⟩ := c
    obtain ⟨h', t', e84⟩ := ip_rec h
    have hN' := h'.1
    have x0 : f_X0_record 20 σ (20 + 1) 1 = nI L := by rw [hN'.1 1 (by decide) (by decide)]; exact L3
    generalize f_X0_record 20 σ = σ1 at h' hN' t' e84 x0 ⊢
    rw [im_let, im_removeLink hn iw_net_20 hl L1 x0, im_b2]
    have ha : ∀ k, 22 + 3 * l ≤ k → k < 22 + 3 * (L - 1) → ip_cu ρ l L k = ρ (k + 3) := fun k k1 k2 => by
      unfold ip_cu
      rw [if_neg (by omega), if_pos ⟨k1, k2⟩]
    have he : ∀ k, k ≠ 1 → ¬ (22 + 3 * l ≤ k ∧ k < 22 + 3 * (L - 1)) → ip_cu ρ l L k = ρ k := fun k k1 k2 => by
      unfold ip_cu
      rw [if_neg k1, if_neg k2]
    have h1 : ip_cu ρ l L 1 = nI (L - 1) := if_pos rfl
    obtain ⟨g1, g2, g3⟩ := ip_upd h' t' (σ' := iw_up (im_sh σ1 (20 + 3) (l * 3) 57 3) (20 + 1) 1 (nI (L - 1))) (ρ' := ip_cu ρ l L) (fun b hb => by rw [iw_up_ne (by omega), im_sh_o (by omega)]) (by
      refine im_NR_cut hW hN' L2 hl h1 ha he (by rw [im_ups]) (fun j hj => by rw [im_upn hj, im_sh_o (by decide)]) (fun j hj => ?_) (fun j j1 j2 => ?_) (fun j j1 j2 j3 => by rw [iw_up_ne (by omega), im_sh_o (by omega)])
      · rw [im_upo (by decide), im_sh_e, if_neg (by omega)]
      · rw [im_upo (by decide), im_sh_e, if_pos (by omega)]) (im_WF_cut hW L2 hl h1 ha he)
    exact ⟨_, _, rfl, g3.trans e84, fun q => absurd ⟨l, hl, rfl⟩ q, Or.inr ⟨l, hl, rfl, rfl, g1, g2⟩⟩
  · rw [if_neg c]
    exact ⟨_, _, rfl, rfl, fun _ => rfl, Or.inl ⟨by decide, h⟩⟩
def ip_se (ρ : Nat → Int32) (S a : Nat) (p2 p3 : Int32) : Nat → Int32 := fun k => if k = 2 then nI (S + 1) else if k = 82 + 3 * S then nI a else if k = 82 + 3 * S + 1 then p2 else if k = 82 + 3 * S + 2 then p3 else if 135 + 11 * S ≤ k ∧ (k - (135 + 11 * S)) % 66 = 0 ∧ 0 ≤ (k - (135 + 11 * S)) / 66 ∧ (k - (135 + 11 * S)) / 66 < 5 then 0 else ρ k
theorem ip_se_v {ρ : Nat → Int32} {S a : Nat} {p2 p3 : Int32} (hS : S < 6) : ip_se ρ S a p2 p3 2 = nI (S + 1) ∧ ip_se ρ S a p2 p3 (82 + 3 * S) = nI a ∧ ip_se ρ S a p2 p3 (82 + 3 * S + 1) = p2 ∧ ip_se ρ S a p2 p3 (82 + 3 * S + 2) = p3 ∧ (∀ i, i < 5 → ip_se ρ S a p2 p3 (im_wa i S) = 0) ∧ ∀ j, j ≠ 2 → ¬ (82 + 3 * S ≤ j ∧ j < 82 + 3 * S + 3) → (∀ i, i < 5 → j ≠ im_wa i S) → ip_se ρ S a p2 p3 j = ρ j := by
  refine ⟨if_pos rfl, ?_, ?_, ?_, fun i hi => ?_, fun j j1 j2 j3 => ?_⟩
  · unfold ip_se
    rw [if_neg (by omega), if_pos rfl]
  · unfold ip_se
    rw [if_neg (by omega), if_neg (by omega), if_pos rfl]
  · unfold ip_se
    rw [if_neg (by omega), if_neg (by omega), if_neg (by omega), if_pos rfl]
  · have := im_wa_ge i S
    unfold ip_se
    rw [if_neg (by omega), if_neg (by omega), if_neg (by omega), if_neg (by omega), if_pos (im_z5_c.mpr ⟨i, Nat.zero_le _, hi, rfl⟩)]
  · unfold ip_se
    rw [if_neg j1, if_neg (by omega), if_neg (by omega), if_neg (by omega), if_neg (fun z => by
      obtain ⟨i', -, b, d⟩ := im_z5_c.mp z
      exact j3 i' b d)]
theorem op_addSensor {n : Nat} {σ : iw_M} {ρ : Nat → Int32} (h : ip_G σ ρ) (p1 p2 p3 : Int32) : ∃ r σ', f_X5_addSensor n p1 p2 p3 σ = some (r, σ') ∧ σ' 84 = σ 84 ∧ ((r < -1000 ∧ ip_G σ' ρ ∧ ((∃ k, k < im_tn (ρ 0) ∧ p1 = nI k) → (¬ (0 ≤ p2 ∧ p2 ≤ 7) → r = -1002) ∧ (0 ≤ p2 ∧ p2 ≤ 7 → -100 ≤ p3 ∧ p3 ≤ 100 → im_tn (ρ 2) = 6))) ∨ ∃ a, a < im_tn (ρ 0) ∧ p1 = nI a ∧ im_tn (ρ 2) < 6 ∧ -100 ≤ p3 ∧ p3 ≤ 100 ∧ r = nI (im_tn (ρ 2)) ∧ ip_G σ' (ip_se ρ (im_tn (ρ 2)) a p2 p3) ∧ ip_T σ' ρ) := by
  have hN := h.1
  have hW := h.2.1
  obtain ⟨⟨N, N1, N2, N3, N4⟩, -, ⟨S, S1, S2, S3, S4⟩, -⟩ := ip_cnt hN hW
  unfold f_X5_addSensor
  rw [show f_X1_has 20 (0 : Int32) p1 σ = f_X1_has 20 (nI 0) p1 σ from rfl, im_has iw_net_20 (by decide) (by omega) p1 N4, im_b01, im_within, im_b01, im_within, im_b01, N2, S2]
  by_cases c : ∃ k, k < N ∧ p1 = nI k
  · rw [if_pos c]
    by_cases d : 0 ≤ p2 ∧ p2 ≤ 7
    · rw [if_pos d]
      by_cases e : -100 ≤ p3 ∧ p3 ≤ 100
      · rw [if_pos e, show f_X1_number n 20 (2 : Int32) σ = f_X1_number n 20 (nI 2) σ from rfl, im_num n iw_net_20 (by decide) (by decide), im_bind, S4]
        by_cases f : S = 6
        · rw [if_neg (by rw [im_lit 6, im_lt (by omega) (by decide)]; omega)]
          exact ⟨_, _, rfl, rfl, Or.inl ⟨by decide, h, fun _ => ⟨fun q => absurd d q, fun _ _ => f⟩⟩⟩
        · rw [if_pos (by rw [im_lit 6, im_lt (by omega) (by decide)]; omega)]
          obtain ⟨k, hk, rfl⟩ := c
          obtain ⟨h', t', e84⟩ := ip_rec h
          have hN' := h'.1
          have x0 : f_X0_record 20 σ (20 + 1) 2 = nI S := by rw [hN'.1 2 (by decide) (by decide)]; exact S3
          generalize f_X0_record 20 σ = σ1 at h' hN' t' e84 x0 ⊢
          rw [im_let, im_appendSensor iw_net_20 (by omega) x0]
          obtain ⟨v1, v2, v3, v4, v5, v6⟩ := ip_se_v (ρ := ρ) (S := S) (a := k) (p2 := p2) (p3 := p3) (by omega)
          obtain ⟨g1, g2, g3⟩ := ip_upd h' t' (σ' := iw_up (iw_up (iw_up (iw_up σ1 (20 + 4) (3 * S) (nI k)) (20 + 4) (3 * S + 1) p2) (20 + 4) (3 * S + 2) p3) (20 + 1) 2 (nI (S + 1))) (ρ' := ip_se ρ S k p2 p3) (fun b hb => by rw [iw_up_ne (by omega), iw_up_ne (by omega), iw_up_ne (by omega), iw_up_ne (by omega)]) (by
            refine im_NR_sens hW hN' S2 (by omega) v1 v5 (fun j _ => v6 j) (by rw [im_ups]) (fun j hj => by rw [im_upn hj, im_upo (by decide), im_upo (by decide), im_upo (by decide)]) (fun j hj => by rw [im_upo (by decide), im_upn (by omega), im_upn (by omega), im_upn (by omega)]) (fun j a b => ?_) (fun j a b hj => by rw [iw_up_ne (by omega), iw_up_ne (by omega), iw_up_ne (by omega), iw_up_ne (by omega)])
            rw [im_upo (by decide)]
            rcases (show j = 3 * S ∨ j = 3 * S + 1 ∨ j = 3 * S + 2 by omega) with rfl | rfl | rfl
            · rw [im_upn (by omega), im_upn (by omega), im_ups, v2]
            · rw [im_upn (by omega), im_ups, ← Nat.add_assoc, v3]
            · rw [im_ups, ← Nat.add_assoc, v4]) (im_WF_sens hW S2 (by omega) v1 (by omega) v2 v5 (fun j _ => v6 j))
          exact ⟨_, _, rfl, g3.trans e84, Or.inr ⟨k, hk, rfl, by omega, e.1, e.2, rfl, g1, g2⟩⟩
      · rw [if_neg e]
        exact ⟨_, _, rfl, rfl, Or.inl ⟨by decide, h, fun _ => ⟨fun q => absurd d q, fun _ q => absurd q e⟩⟩⟩
    · rw [if_neg d]
      exact ⟨_, _, rfl, rfl, Or.inl ⟨by decide, h, fun _ => ⟨fun _ => rfl, fun q => absurd q d⟩⟩⟩
  · rw [if_neg c]
    exact ⟨_, _, rfl, rfl, Or.inl ⟨by decide, h, fun q => absurd q c⟩⟩
