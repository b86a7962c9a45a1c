/-! what the class holds, without a reference: a row of numbers; the state that undo brings back -/
def ip_G (σ : iw_M) (ρ : Nat → Int32) : Prop := im_NR σ 20 ρ ∧ im_WF ρ ∧ ∃ sz od, sz ≤ 5 ∧ od < 5 ∧ σ 4 2 = nI sz ∧ σ 4 1 = nI od
def ip_T (σ : iw_M) (ρ : Nat → Int32) : Prop := im_WF ρ ∧ ∃ sz od, 0 < sz ∧ sz ≤ 5 ∧ od < 5 ∧ σ 4 2 = nI sz ∧ σ 4 1 = nI od ∧ im_NR σ (44 + 8 * ((od + (sz - 1)) % 5)) ρ
theorem ip_rec {σ : iw_M} {ρ : Nat → Int32} (h : ip_G σ ρ) : ip_G (f_X0_record 20 σ) ρ ∧ ip_T (f_X0_record 20 σ) ρ ∧ f_X0_record 20 σ 84 = σ 84 := by
  obtain ⟨hn0, hw, sz, od, g1, g2, g3, g4⟩ := h
  obtain ⟨od', c2, r1, r2, r3, r4, r5, r6, r7⟩ := im_record g1 g2 g3 g4
  have hc2 : c2 = 44 ∨ c2 = 52 ∨ c2 = 60 ∨ c2 = 68 ∨ c2 = 76 := by
    by_cases q : sz = 5
    · have := (r5 q).2
      omega
    · have := (r4 (by omega)).2
      have := Nat.mod_lt (od + sz) (show 0 < 5 by decide)
      omega
  have hnet2 : iw_net c2 := by unfold iw_net; omega
  have hrow : ∀ b, 20 ≤ b → b ≤ 27 → f_X0_record 20 σ b = σ b := fun b h1 h2 => r6 b (by omega) (fun j _ _ => by omega)
  have hcopy : im_NR (f_X0_record 20 σ) c2 ρ := im_NR_cp hnet2 hw hn0 r7
  refine ⟨⟨im_NR_congr hn0 (fun j a b => hrow _ (by omega) (by omega)), hw, min (sz + 1) 5, od', by omega, r2, r3, r1⟩, ⟨hw, min (sz + 1) 5, od', by omega, by omega, r2, r3, r1, ?_⟩, r6 84 (by omega) (fun j _ _ => by omega)⟩
  have e : 44 + 8 * ((od' + (min (sz + 1) 5 - 1)) % 5) = c2 := by
    by_cases q : sz = 5
    · obtain ⟨e1, e2⟩ := r5 q
      omega
    · obtain ⟨e1, e2⟩ := r4 (by omega)
      rw [e2, e1, show min (sz + 1) 5 - 1 = sz by omega]
  rw [e]
  exact hcopy
theorem ip_upd {σ σ' : iw_M} {ρ ρ' ρ0 : Nat → Int32} (h : ip_G σ ρ) (t : ip_T σ ρ0) (hx : ∀ b, b = 4 ∨ 44 ≤ b → σ' b = σ b) (hn : im_NR σ' 20 ρ') (hw : im_WF ρ') : ip_G σ' ρ' ∧ ip_T σ' ρ0 ∧ σ' 84 = σ 84 := by
  obtain ⟨-, -, sz, od, g1, g2, g3, g4⟩ := h
  obtain ⟨tw, sz', od', t0, t1, t2, t3, t4, t5⟩ := t
  refine ⟨⟨hn, hw, sz, od, g1, g2, by rw [hx 4 (Or.inl rfl)]; exact g3, by rw [hx 4 (Or.inl rfl)]; exact g4⟩, ⟨tw, sz', od', t0, t1, t2, by rw [hx 4 (Or.inl rfl)]; exact t3, by rw [hx 4 (Or.inl rfl)]; exact t4, im_NR_congr t5 (fun j _ _ => hx _ (by omega))⟩, hx 84 (by omega)⟩
theorem ip_keep {σ σ' : iw_M} {ρ : Nat → Int32} (h : ip_G σ ρ) (hx : ∀ b, b = 4 ∨ (21 ≤ b ∧ b ≤ 27) → σ' b = σ b) : ip_G σ' ρ := by
  obtain ⟨hn, hw, sz, od, g1, g2, g3, g4⟩ := h
  exact ⟨im_NR_congr hn (fun j _ _ => hx _ (by omega)), hw, sz, od, g1, g2, by rw [hx 4 (Or.inl rfl)]; exact g3, by rw [hx 4 (Or.inl rfl)]; exact g4⟩
theorem ip_keepT {σ σ' : iw_M} {ρ : Nat → Int32} (h : ip_T σ ρ) (hx : ∀ b, b = 4 ∨ 44 ≤ b → σ' b = σ b) : ip_T σ' ρ := by
  obtain ⟨tw, sz', od', t0, t1, t2, t3, t4, t5⟩ := h
  exact ⟨tw, sz', od', t0, t1, t2, by rw [hx 4 (Or.inl rfl)]; exact t3, by rw [hx 4 (Or.inl rfl)]; exact t4, im_NR_congr t5 (fun j _ _ => hx _ (by omega))⟩
/-- the counts of the row -/
theorem ip_cnt {σ : iw_M} {ρ : Nat → Int32} (h : im_NR σ 20 ρ) (hw : im_WF ρ) : (∃ N, N ≤ 10 ∧ im_tn (ρ 0) = N ∧ ρ 0 = nI N ∧ σ (20 + 1) 0 = nI N) ∧ (∃ L, L ≤ 20 ∧ im_tn (ρ 1) = L ∧ ρ 1 = nI L ∧ σ (20 + 1) 1 = nI L) ∧ (∃ S, S ≤ 6 ∧ im_tn (ρ 2) = S ∧ ρ 2 = nI S ∧ σ (20 + 1) 2 = nI S) ∧ (∃ I, I ≤ 5 ∧ im_tn (ρ 3) = I ∧ ρ 3 = nI I ∧ σ (20 + 1) 3 = nI I) := by
  have h0 := hw.1.1
  have h1 := hw.1.2.1
  have h2 := hw.1.2.2.1
  have h3 := hw.1.2.2.2.1
  exact ⟨⟨_, Nat.le_of_lt_succ h0.1, rfl, h0.2, (h.1 0 (by omega) (by omega)).trans h0.2⟩, ⟨_, Nat.le_of_lt_succ h1.1, rfl, h1.2, (h.1 1 (by omega) (by omega)).trans h1.2⟩, ⟨_, Nat.le_of_lt_succ h2.1, rfl, h2.2, (h.1 2 (by omega) (by omega)).trans h2.2⟩, ⟨_, Nat.le_of_lt_succ h3.1, rfl, h3.2, (h.1 3 (by omega) (by omega)).trans h3.2⟩⟩
/-! undo behind a call that was recorded -/
theorem op_undo {σ : iw_M} {ρ ρ0 : Nat → Int32} (h : ip_G σ ρ) (t : ip_T σ ρ0) : ∃ r σ', f_X5_undo σ = (r, σ') ∧ 0 ≤ r ∧ ip_G σ' ρ0 ∧ σ' 84 = σ 84 := by
  obtain ⟨tw, sz, od, t0, t1, t2, g3, g4, a⟩ := t
  unfold f_X5_undo f_X0_restore
  have m1 : nI sz - 1 = nI (sz - 1) := by rw [show (1 : Int32) = nI 1 from rfl, pk_sub (by omega)]
  rw [if_neg (by rw [g3]; exact nI_nle (by omega) (by omega)), g3, m1, im_stateAt g4 (by omega)]
  have hmod := Nat.mod_lt (od + (sz - 1)) (show 0 < 5 by decide)
  obtain ⟨k1, k2⟩ := im_copyFrom iw_net_20 (im_net44 hmod) (by omega) σ
  have c4 : f_X1_copyFrom 20 (44 + 8 * ((od + (sz - 1)) % 5)) σ 4 2 = nI sz := by rw [k1 4 (fun j _ _ => by omega)]; exact g3
  unfold iw_on
  simp only [im_let]
  unfold iw_let2
  simp only []
  rw [c4, m1, im_ups, if_neg (by decide)]
  refine ⟨_, _, rfl, nI_pos' (by omega), ⟨?_, tw, sz - 1, od, by omega, t2, im_ups, ?_⟩, ?_⟩
  · refine im_NR_congr (σ := f_X1_copyFrom 20 (44 + 8 * ((od + (sz - 1)) % 5)) σ) ?_ (fun j _ _ => iw_up_ne (by omega))
    exact im_NR_cp iw_net_20 tw a (fun j h1 h2 k hk => k2 j h1 h2 k hk)
  · rw [im_upn (by decide), k1 4 (fun j _ _ => by omega)]; exact g4
  · rw [iw_up_ne (by decide), k1 84 (fun j _ _ => by omega)]
