/-! ask and withdraw, one-sided -/
def ip_z6 (ρ : Nat → Int32) (I : Nat) : Nat → Int32 := fun k => if 135 + 66 * I ≤ k ∧ (k - (135 + 66 * I)) % 11 = 0 ∧ 0 ≤ (k - (135 + 66 * I)) / 11 ∧ (k - (135 + 66 * I)) / 11 < 6 then 0 else ρ k
def ip_in (ρ : Nat → Int32) (I a : Nat) (p2 p3 p4 p5 : Int32) : Nat → Int32 := im_ru (im_ru (im_ru (im_ru (im_ru (im_ru (im_ru (im_ru (ip_z6 ρ I) (100 + 7 * I) (nI a)) (100 + 7 * I + 1) p2) (100 + 7 * I + 2) p3) (100 + 7 * I + 3) p4) (100 + 7 * I + 4) p5) (100 + 7 * I + 5) 0) (100 + 7 * I + 6) 0) 3 (nI (I + 1))
theorem ip_in_v {ρ : Nat → Int32} {I a : Nat} {p2 p3 p4 p5 : Int32} (hI : I < 5) : (ip_in ρ I a p2 p3 p4 p5 3 = nI (I + 1) ∧ ip_in ρ I a p2 p3 p4 p5 (100 + 7 * I) = nI a ∧ ip_in ρ I a p2 p3 p4 p5 (100 + 7 * I + 1) = p2 ∧ ip_in ρ I a p2 p3 p4 p5 (100 + 7 * I + 2) = p3 ∧ ip_in ρ I a p2 p3 p4 p5 (100 + 7 * I + 3) = p4 ∧ ip_in ρ I a p2 p3 p4 p5 (100 + 7 * I + 4) = p5 ∧ ip_in ρ I a p2 p3 p4 p5 (100 + 7 * I + 5) = 0 ∧ ip_in ρ I a p2 p3 p4 p5 (100 + 7 * I + 6) = 0) ∧ (∀ s, s < 6 → ip_in ρ I a p2 p3 p4 p5 (im_wa I s) = 0) ∧ ∀ j, j ≠ 3 → ¬ (100 + 7 * I ≤ j ∧ j < 100 + 7 * I + 7) → (∀ s, s < 6 → j ≠ im_wa I s) → ip_in ρ I a p2 p3 p4 p5 j = ρ j := by
  have hz : ∀ j, j ≠ 3 → ¬ (100 + 7 * I ≤ j ∧ j < 100 + 7 * I + 7) → ip_in ρ I a p2 p3 p4 p5 j = ip_z6 ρ I j := fun j j1 j2 => by
    unfold ip_in
    rw [im_ru_ne j1, im_ru_ne (by omega), im_ru_ne (by omega), im_ru_ne (by omega), im_ru_ne (by omega), im_ru_ne (by omega), im_ru_ne (by omega), im_ru_ne (by omega)]
  refine ⟨⟨im_ru_eq, ?_, ?_, ?_, ?_, ?_, ?_, ?_⟩, fun s hs => ?_, fun j j1 j2 j3 => ?_⟩
  · unfold ip_in
    rw [im_ru_ne (by omega), im_ru_ne (by omega), im_ru_ne (by omega), im_ru_ne (by omega), im_ru_ne (by omega), im_ru_ne (by omega), im_ru_ne (by omega), im_ru_eq]
  · unfold ip_in
    rw [im_ru_ne (by omega), im_ru_ne (by omega), im_ru_ne (by omega), im_ru_ne (by omega), im_ru_ne (by omega), im_ru_ne (by omega), im_ru_eq]
  · unfold ip_in
    rw [im_ru_ne (by omega), im_ru_ne (by omega), im_ru_ne (by omega), im_ru_ne (by omega), im_ru_ne (by omega), im_ru_eq]
  · unfold ip_in
    rw [im_ru_ne (by omega), im_ru_ne (by omega), im_ru_ne (by omega), im_ru_ne (by omega), im_ru_eq]
  · unfold ip_in
    rw [im_ru_ne (by omega), im_ru_ne (by omega), im_ru_ne (by omega), im_ru_eq]
  · unfold ip_in
    rw [im_ru_ne (by omega), im_ru_ne (by omega), im_ru_eq]
  · unfold ip_in
    rw [im_ru_ne (by omega), im_ru_eq]
  · have := im_wa_ge I s
    rw [hz _ (by omega) (by omega)]
    exact if_pos (im_z6_c.mpr ⟨s, Nat.zero_le _, hs, rfl⟩)
  · rw [hz j j1 j2]
    exact if_neg (fun z => by
      obtain ⟨i', -, b, d⟩ := im_z6_c.mp z
      exact j3 i' b d)
theorem op_ask {n : Nat} (hn : 4096 ≤ n) {σ : iw_M} {ρ : Nat → Int32} (h : ip_G σ ρ) (p1 p2 p3 p4 p5 : Int32) : ∃ r σ', f_X5_ask n p1 p2 p3 p4 p5 σ = some (r, σ') ∧ σ' 84 = σ 84 ∧ ((r < -1000 ∧ ip_G σ' ρ ∧ ((∃ k, k < im_tn (ρ 0) ∧ p1 = nI k) → 0 ≤ p2 ∧ p2 ≤ 7 → -100 ≤ p3 ∧ p3 ≤ 100 → (¬ (p3 ≤ p4 ∧ p4 ≤ 100) → r = -1002) ∧ (p3 ≤ p4 ∧ p4 ≤ 100 → ρ 5 ≤ p5 ∧ p5 ≤ 100000 → im_tn (ρ 3) = 5))) ∨ ∃ a, a < im_tn (ρ 0) ∧ p1 = nI a ∧ im_tn (ρ 3) < 5 ∧ r = nI (im_tn (ρ 3)) ∧ ip_G σ' (ip_in ρ (im_tn (ρ 3)) a p2 p3 p4 p5) ∧ ip_T σ' ρ) := by
  have hN := h.1
  have hW := h.2.1
  obtain ⟨⟨N, N1, N2, N3, N4⟩, -, -, ⟨I, I1, I2, I3, I4⟩⟩ := ip_cnt hN hW
  unfold f_X5_ask
  rw [show f_X1_has 20 (0 : Int32) p1 σ = f_X1_has 20 (nI 0) p1 σ from rfl, im_has iw_net_20 (by decide) (by omega) p1 N4, im_b01, im_within, im_b01, im_within, im_b01, im_within, im_b01, N2, I2]
  by_cases c : ∃ k, k < N ∧ p1 = nI k
  · rw [if_pos c]
    by_cases d : 0 ≤ p2 ∧ p2 ≤ 7
    · rw [if_pos d]
      by_cases e : -100 ≤ p3 ∧ p3 ≤ 100
      · rw [if_pos e]
        by_cases f : p3 ≤ p4 ∧ p4 ≤ 100
        · rw [if_pos f, show f_X1_number n 20 (5 : Int32) σ = f_X1_number n 20 (nI 5) σ from rfl, im_num n iw_net_20 (by decide) (by decide), im_bind, hN.1 5 (by decide) (by decide), im_within, im_b01]
          by_cases g : ρ 5 ≤ p5 ∧ p5 ≤ 100000
          · rw [if_pos g, show f_X1_number n 20 (3 : Int32) σ = f_X1_number n 20 (nI 3) σ from rfl, im_num n iw_net_20 (by decide) (by decide), im_bind, I4]
            by_cases i : I = 5
            · rw [if_neg (by rw [im_lit 5, im_lt (by omega) (by decide)]; omega)]
              exact ⟨_, _, rfl, rfl, Or.inl ⟨by decide, h, fun _ _ _ => ⟨fun q => absurd f q, fun _ _ => i⟩⟩⟩
            · rw [if_pos (by rw [im_lit 5, im_lt (by omega) (by decide)]; omega)]
              obtain ⟨k, hk, rfl⟩ := c
              obtain ⟨h', t', e84⟩ := ip_rec h
              have hN' := h'.1
              have x0 : f_X0_record 20 σ (20 + 1) 3 = nI I := by rw [hN'.1 3 (by decide) (by decide)]; exact I3
              generalize f_X0_record 20 σ = σ1 at h' hN' t' e84 x0 ⊢
              obtain ⟨τx, y1, y2, y3, y4, ⟨y50, y51, y52, y53, y54, y55, y56⟩, y6, y7, y8⟩ := im_appendInterest hn iw_net_20 (show I < 5 by omega) x0 (nI k) p2 p3 p4 p5
              rw [im_let, y1, im_b2]
              obtain ⟨⟨v3, v0, v1, v2, v33, v4, v5, v6⟩, hz, he⟩ := ip_in_v (ρ := ρ) (I := I) (a := k) (p2 := p2) (p3 := p3) (p4 := p4) (p5 := p5) (by omega)
              obtain ⟨g1, g2, g3⟩ := ip_upd h' t' (σ' := τx) (ρ' := ip_in ρ I k p2 p3 p4 p5) (fun b hb => y8 b (by omega) (by omega) (by omega)) (by
                refine im_NR_int hW hN' I2 (by omega) v3 hz (fun j _ => he j) y2 y3 y4 (fun j a b => ?_) y6 y7 (fun j a b c d => y8 _ (by omega) (by omega) (by omega))
                rcases (show j = 7 * I ∨ j = 7 * I + 1 ∨ j = 7 * I + 2 ∨ j = 7 * I + 3 ∨ j = 7 * I + 4 ∨ j = 7 * I + 5 ∨ j = 7 * I + 6 by omega) with rfl | rfl | rfl | rfl | rfl | rfl | rfl
                · rw [y50, v0]
                · rw [y51, ← Nat.add_assoc, v1]
                · rw [y52, ← Nat.add_assoc, v2]
                · rw [y53, ← Nat.add_assoc, v33]
                · rw [y54, ← Nat.add_assoc, v4]
                · rw [y55, ← Nat.add_assoc, v5]
                · rw [y56, ← Nat.add_assoc, v6]) (im_WF_int hW I2 (by omega) v3 (by omega) v0 hz (fun j _ => he j))
              exact ⟨_, _, rfl, g3.trans e84, Or.inr ⟨k, hk, rfl, by omega, rfl, g1, g2⟩⟩
          · rw [if_neg g]
            exact ⟨_, _, rfl, rfl, Or.inl ⟨by decide, h, fun _ _ _ => ⟨fun q => absurd f q, fun _ q => absurd q g⟩⟩⟩
        · rw [if_neg f]
          exact ⟨_, _, rfl, rfl, Or.inl ⟨by decide, h, fun _ _ _ => ⟨fun _ => rfl, fun q => absurd q f⟩⟩⟩
      · rw [if_neg e]
        exact ⟨_, _, rfl, rfl, Or.inl ⟨by decide, h, fun _ _ q => absurd q e⟩⟩
    · rw [if_neg d]
      exact ⟨_, _, rfl, rfl, Or.inl ⟨by decide, h, fun _ q => absurd q d⟩⟩
  · rw [if_neg c]
    exact ⟨_, _, rfl, rfl, Or.inl ⟨by decide, h, fun q => absurd q c⟩⟩
/-- a row without its interest i -/
def ip_dr (ρ : Nat → Int32) (i I : Nat) : Nat → Int32 := fun k => if k = 3 then nI (I - 1) else if 100 + 7 * i ≤ k ∧ k < 100 + 7 * (I - 1) then ρ (k + 7) else if 135 + 66 * i ≤ k ∧ k < 135 + 66 * (I - 1) then ρ (k + 66) else ρ k
theorem ip_dr_d {ρ : Nat → Int32} {i I : Nat} (hi : i < I) (hI : I ≤ 5) : im_dropped ρ (ip_dr ρ i I) I i := by
  refine ⟨if_pos rfl, fun k k1 k2 => ?_, fun k k1 k2 => ?_, fun k k1 k2 k3 => ?_⟩
  · unfold ip_dr
    rw [if_neg (by omega), if_pos ⟨k1, k2⟩]
  · unfold ip_dr
    rw [if_neg (by omega), if_neg (by omega), if_pos ⟨k1, k2⟩]
  · unfold ip_dr
    rw [if_neg k1, if_neg k2, if_neg k3]
theorem ip_drops {n : Nat} (hn : 4096 ≤ n) {σ : iw_M} {ρ : Nat → Int32} {c : Nat} (hc : iw_net c) (hw : im_WF ρ) (h : im_NR σ c ρ) {i I : Nat} (hI : im_tn (ρ 3) = I) (hi : i < I) : ∃ σ', f_X1_removeInterest n c (nI i) σ = some σ' ∧ im_NR σ' c (ip_dr ρ i I) ∧ ∀ r, r ≠ c + 1 → r ≠ c + 5 → r ≠ c + 6 → r ≠ c + 7 → σ' r = σ r := by
  have b3 := hw.1.2.2.2.1.1
  have m3 : ρ 3 = nI I := by rw [← hI]; exact hw.1.2.2.2.1.2
  have x3 : σ (c + 1) 3 = nI I := (h.1 3 (by decide) (by decide)).trans m3
  have hd := ip_dr_d (ρ := ρ) hi (show I ≤ 5 by omega)
  refine ⟨_, im_removeInterest hn hc hi (by omega) x3, im_NR_drop hw h hI hi hd (by rw [im_ups]) (fun j hj => ?_) (fun j hj => ?_) (fun j hj => ?_) (fun j hj => ?_) (fun j j1 j2 => ?_), fun r r1 r2 r3 r4 => ?_⟩
  · rw [im_upn hj, im_sh_o (by omega), im_sh_o (by omega), im_sh_o (by omega)]
  · rw [im_upo (by omega), im_sh_o (by omega), im_sh_o (by omega), im_sh_e]
    by_cases q : j < 7 * i
    · rw [if_neg (by omega), if_pos q]
    · rw [if_pos (by omega), if_neg q]
  · rw [im_upo (by omega), im_sh_o (by omega), im_sh_e, im_sh_o (by omega)]
    by_cases q : j < 6 * i
    · rw [if_neg (by omega), if_pos q]
    · rw [if_pos (by omega), if_neg q]
  · rw [im_upo (by omega), im_sh_e, im_sh_o (by omega), im_sh_o (by omega)]
    by_cases q : j < 60 * i
    · rw [if_neg (by omega), if_pos q]
    · rw [if_pos (by omega), if_neg q]
  · rw [iw_up_ne (by omega), im_sh_o (by omega), im_sh_o (by omega), im_sh_o (by omega)]
  · rw [iw_up_ne r1, im_sh_o r4, im_sh_o r3, im_sh_o r2]
theorem op_withdraw {n : Nat} (hn : 4096 ≤ n) {σ : iw_M} {ρ : Nat → Int32} (h : ip_G σ ρ) (p1 : Int32) : ∃ r σ', f_X5_withdraw n p1 σ = some (r, σ') ∧ σ' 84 = σ 84 ∧ ((¬ ∃ k, k < im_tn (ρ 3) ∧ p1 = nI k) → r = -1001) ∧ ((r < -1000 ∧ ip_G σ' ρ) ∨ ∃ i, i < im_tn (ρ 3) ∧ p1 = nI i ∧ r = nI (im_tn (ρ 3) - 1) ∧ ip_G σ' (ip_dr ρ i (im_tn (ρ 3))) ∧ ip_T σ' ρ) := by
  have hN := h.1
  have hW := h.2.1
  obtain ⟨-, -, -, ⟨I, I1, I2, I3, I4⟩⟩ := ip_cnt hN hW
  unfold f_X5_withdraw
  rw [show f_X1_has 20 (3 : Int32) p1 σ = f_X1_has 20 (nI 3) p1 σ from rfl, im_has iw_net_20 (by decide) (by omega) p1 I4, im_b01, I2]
  by_cases c : ∃ k, k < I ∧ p1 = nI k
  · rw [if_pos c]
    obtain ⟨i, hi, rfl⟩ := c
    obtain ⟨h', t', e84⟩ := ip_rec h
    have hN' := h'.1
    generalize f_X0_record 20 σ = σ1 at h' hN' t' e84 ⊢
    obtain ⟨σ2, q1, q2, q3⟩ := ip_drops hn iw_net_20 hW hN' I2 hi
    have hd := ip_dr_d (ρ := ρ) hi I1
    obtain ⟨g1, g2, g3⟩ := ip_upd h' t' (σ' := σ2) (ρ' := ip_dr ρ i I) (fun b hb => q3 b (by omega) (by omega) (by omega) (by omega)) q2 (im_WF_drop hW I2 hi hd)
    rw [im_let, q1, im_bind, show f_X1_number n 20 (3 : Int32) σ2 = f_X1_number n 20 (nI 3) σ2 from rfl, im_num n iw_net_20 (by decide) (by decide), im_bind, q2.1 3 (by decide) (by decide)]
    exact ⟨_, _, rfl, g3.trans e84, fun q => absurd ⟨i, hi, rfl⟩ q, Or.inr ⟨i, hi, rfl, hd.1, g1, g2⟩⟩
  · rw [if_neg c]
    exact ⟨_, _, rfl, rfl, fun _ => rfl, Or.inl ⟨by decide, h⟩⟩
