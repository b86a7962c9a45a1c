/-! a call is recorded on both sides -/
theorem im_stateAt {σ : iw_M} {od a : Nat} (ho : σ 4 1 = nI od) (h : od + a < 1000) : f_X0_stateAt (nI a) σ = some (44 + 8 * ((od + a) % 5)) := by
  unfold f_X0_stateAt
  rw [ho, nI_add, show (5 : Int32) = nI 5 from rfl, pk_rem (by omega) (by decide) (by decide), im_let]
  have hm : (od + a) % 5 < 5 := Nat.mod_lt _ (by decide)
  rw [if_neg (nI_pos (by omega)), if_neg (by rw [im_le (by decide) (by omega)]; omega), nI_clamp (by omega)]
theorem im_net44 {j : Nat} (h : j < 5) : iw_net (44 + 8 * j) := by
  unfold iw_net
  omega
/-- what is changed by a call that speaks of the net alone -/
theorem im_upd {σx σx' σm σm' : iw_M} (h : im_RR σx σm) (hx : ∀ b, b = 4 ∨ b = 6 ∨ b = 7 ∨ 44 ≤ b → σx' b = σx b) (hm1 : σm' 84 1 = σm 84 1) (hm2 : σm' 84 11 = σm 84 11) (hm3 : σm' 92 = σm 92) (hm4 : ∀ k, 465 ≤ k → k < 2790 → σm' 85 k = σm 85 k) (hn : im_NR σx' 20 (im_sl σm' 0)) (hw : im_WF (im_sl σm' 0)) : im_RR σx' σm' := by
  obtain ⟨-, -, ⟨sz, od, g1, g2, g3, g4, g5, g6⟩, len, t1, t2, t3, t4⟩ := h
  refine ⟨hn, hw, ⟨sz, od, g1, g2, by rw [hx 4 (by omega)]; exact g3, by rw [hx 4 (by omega)]; exact g4, by rw [hm1]; exact g5, fun j hj => ?_⟩, len, t1, by rw [hx 6 (by omega)]; exact t2, by rw [hm2]; exact t3, fun k hk => ?_⟩
  · obtain ⟨a, b⟩ := g6 j hj
    have e : ∀ k, k < 465 → im_sl σm' (j + 1) k = im_sl σm (j + 1) k := fun k hk => by
      unfold im_sl
      exact hm4 _ (by omega) (by omega)
    exact ⟨im_NR_row (im_NR_congr a (fun i _ _ => hx _ (by omega))) b e, im_WF_row b e⟩
  · rw [hx 7 (by omega), hm3]
    exact t4 k hk
theorem im_saves {n : Nat} (hn : 4096 ≤ n) {σ : iw_M} {sz : Nat} (hs : sz ≤ 5) (h : σ 84 1 = nI sz) : ∃ σ', f_X6_saves n σ = some σ' ∧ (∀ r, r ≠ 84 → r ≠ 85 → σ' r = σ r) ∧ (∀ j, j ≠ 1 → σ' 84 j = σ 84 j) ∧ (∀ k, k < 465 → im_sl σ' 0 k = im_sl σ 0 k) ∧
    (sz < 5 → σ' 84 1 = nI (sz + 1) ∧ ∀ t k, t ≤ 5 → k < 465 → im_sl σ' t k = if t = sz + 1 then im_sl σ 0 k else im_sl σ t k) ∧
    (sz = 5 → σ' 84 1 = nI 5 ∧ ∀ t k, 1 ≤ t → t ≤ 5 → k < 465 → im_sl σ' t k = if t = 5 then im_sl σ 0 k else im_sl σ (t + 1) k) := by
  obtain ⟨nn, rfl⟩ : ∃ q, n = q + 5 := ⟨n - 5, by omega⟩
  have hsl : ∀ (τ : iw_M) (j : Nat) (v : Int32), im_sl (iw_up τ 84 j v) = im_sl τ := fun τ j v => by
    funext t k
    unfold im_sl
    rw [iw_up_ne (by decide)]
  by_cases h5 : sz = 5
  · subst h5
    have hb : ∀ (q : Nat) (k2 : iw_M → Option iw_M) (r2 : Int32 → iw_M → Option iw_M) (v : Nat) (τ : iw_M), τ 84 1 = nI 5 → 1 ≤ v → v < 5 → f_X6_saves_B2 (nn + 5) k2 r2 (nI v) τ = r2 (nI (v + 1)) (im_cp τ (v + 1) v 0) := by
      intro q k2 r2 v τ hτ h1 h2
      unfold f_X6_saves_B2
      rw [if_neg (by rw [im_lit 5, im_le (by decide) (by omega)]; omega), if_pos (by rw [hτ]; rfl), nI_1, im_copies hn (by omega) (by omega) (by omega), im_bind, im_let]
    have e1 : ∀ (τ : iw_M) (a b : Nat), im_cp τ a b 0 84 1 = τ 84 1 := fun τ a b => by rw [im_cp_o (by decide)]
    have hrun : f_X6_saves (nn + 5) σ = f_X6_saves_X29_2 (nn + 5) (im_cp (im_cp (im_cp (im_cp σ 2 1 0) 3 2 0) 4 3 0) 5 4 0) := by
      unfold f_X6_saves
      show f_X6_saves_B2 (nn + 5) _ (f_X6_saves_L2 (nn + 5) _ (nn + 4)) (nI 1) σ = _
      rw [hb nn _ _ 1 σ h (by omega) (by omega)]
      show f_X6_saves_B2 (nn + 5) _ (f_X6_saves_L2 (nn + 5) _ (nn + 3)) (nI 2) _ = _
      rw [hb nn _ _ 2 _ (by rw [e1]; exact h) (by omega) (by omega)]
      show f_X6_saves_B2 (nn + 5) _ (f_X6_saves_L2 (nn + 5) _ (nn + 2)) (nI 3) _ = _
      rw [hb nn _ _ 3 _ (by rw [e1, e1]; exact h) (by omega) (by omega)]
      show f_X6_saves_B2 (nn + 5) _ (f_X6_saves_L2 (nn + 5) _ (nn + 1)) (nI 4) _ = _
      rw [hb nn _ _ 4 _ (by rw [e1, e1, e1]; exact h) (by omega) (by omega)]
      show f_X6_saves_B2 (nn + 5) (f_X6_saves_X29_2 (nn + 5)) (f_X6_saves_L2 (nn + 5) (f_X6_saves_X29_2 (nn + 5)) nn) (nI 5) _ = _
      unfold f_X6_saves_B2
      rw [if_pos (by decide)]
    have h4 : (im_cp (im_cp (im_cp (im_cp σ 2 1 0) 3 2 0) 4 3 0) 5 4 0) 84 1 = nI 5 := by rw [e1, e1, e1, e1]; exact h
    generalize hτ : im_cp (im_cp (im_cp (im_cp σ 2 1 0) 3 2 0) 4 3 0) 5 4 0 = τ at hrun h4
    have hfin : f_X6_saves_X29_2 (nn + 5) τ = some (im_cp (iw_up (iw_up τ 84 1 (nI 4)) 84 1 (nI 5)) 0 5 0) := by
      unfold f_X6_saves_X29_2 f_X6_saves_J47
      rw [if_pos (by rw [h4]; rfl), im_let, im_let, h4, show nI 5 - 1 = nI 4 from rfl, im_ups, im_ups, show nI 4 + 1 = nI 5 from rfl, show (0 : Int32) = nI 0 from rfl, im_copies hn (by omega) (by omega) (by omega), im_bind]
    refine ⟨_, hrun.trans hfin, fun r h1 h2 => ?_, fun j hj => ?_, fun k hk => ?_, fun h1 => by omega, fun _ => ⟨?_, fun t k h1 h2 hk => ?_⟩⟩
    · rw [im_cp_o h2, iw_up_ne h1, iw_up_ne h1, ← hτ, im_cp_o h2, im_cp_o h2, im_cp_o h2, im_cp_o h2]
    · rw [im_cp_o (by decide), im_upn hj, im_upn hj, ← hτ, im_cp_o (by decide), im_cp_o (by decide), im_cp_o (by decide), im_cp_o (by decide)]
    · rw [im_cp_sl hk, if_neg (by decide), hsl, hsl, ← hτ, im_cp_sl hk, if_neg (by decide), im_cp_sl hk, if_neg (by decide), im_cp_sl hk, if_neg (by decide), im_cp_sl hk, if_neg (by decide)]
    · rw [im_cp_o (by decide), im_ups]
    · rw [im_cp_sl hk, hsl, hsl, ← hτ]
      rcases (show t = 1 ∨ t = 2 ∨ t = 3 ∨ t = 4 ∨ t = 5 by omega) with rfl | rfl | rfl | rfl | rfl <;> simp [im_cp_sl hk]
  · have hrun : f_X6_saves (nn + 5) σ = f_X6_saves_X29_2 (nn + 5) σ := by
      unfold f_X6_saves
      show f_X6_saves_B2 (nn + 5) _ (f_X6_saves_L2 (nn + 5) _ (nn + 4)) (nI 1) σ = _
      unfold f_X6_saves_B2
      rw [if_neg (by decide), if_neg (by rw [h, im_lit 5, im_eq (by omega) (by decide)]; exact h5)]
    have hfin : f_X6_saves_X29_2 (nn + 5) σ = some (im_cp (iw_up (iw_up σ 84 1 (nI sz)) 84 1 (nI (sz + 1))) 0 (sz + 1) 0) := by
      unfold f_X6_saves_X29_2 f_X6_saves_J47
      rw [if_neg (by rw [h, im_lit 5, im_eq (by omega) (by decide)]; exact h5), im_let, im_let, h, show (0 : Int32) = nI 0 from rfl, pk_sub (by omega), Nat.sub_zero, im_ups, im_ups, nI_1, im_copies hn (by omega) (by omega) (by omega), im_bind]
    refine ⟨_, hrun.trans hfin, fun r h1 h2 => ?_, fun j hj => ?_, fun k hk => ?_, fun _ => ⟨?_, fun t k _ hk => ?_⟩, fun h1 => by omega⟩
    · rw [im_cp_o h2, iw_up_ne h1, iw_up_ne h1]
    · rw [im_cp_o (by decide), im_upn hj, im_upn hj]
    · rw [im_cp_sl hk, if_neg (by omega), hsl, hsl]
    · rw [im_cp_o (by decide), im_ups]
    · rw [im_cp_sl hk, hsl, hsl]
theorem im_record {σ : iw_M} {sz od : Nat} (hs : sz ≤ 5) (ho : od < 5) (h2 : σ 4 2 = nI sz) (h1 : σ 4 1 = nI od) : ∃ od' c2, f_X0_record 20 σ 4 1 = nI od' ∧ od' < 5 ∧ f_X0_record 20 σ 4 2 = nI (min (sz + 1) 5) ∧ (sz < 5 → od' = od ∧ c2 = 44 + 8 * ((od + sz) % 5)) ∧ (sz = 5 → od' = (od + 1) % 5 ∧ c2 = 44 + 8 * od) ∧ (∀ b, b ≠ 4 → (∀ j, 1 ≤ j → j ≤ 7 → b ≠ c2 + j) → f_X0_record 20 σ b = σ b) ∧ ∀ j, 1 ≤ j → j ≤ 7 → ∀ k, k < iw_al (c2 + j) → f_X0_record 20 σ (c2 + j) k = σ (20 + j) k := by
  by_cases h5 : sz = 5
  · subst h5
    have e1 : f_X0_record 20 σ = f_X0_record_J30 20 (iw_up (iw_up σ 4 1 (nI ((od + 1) % 5))) 4 2 (nI 4)) := by
      unfold f_X0_record
      rw [if_pos (by rw [h2]; rfl), h1, nI_1, show (5 : Int32) = nI 5 from rfl, pk_rem (by omega) (by decide) (by decide), im_let, im_let, im_upn (by decide), h2]
      rfl
    generalize hτ : iw_up (iw_up σ 4 1 (nI ((od + 1) % 5))) 4 2 (nI 4) = τ at e1
    have t1 : τ 4 1 = nI ((od + 1) % 5) := by rw [← hτ, im_upn (by decide), im_ups]
    have t2 : τ 4 2 = nI 4 := by rw [← hτ, im_ups]
    have t3 : ∀ b, b ≠ 4 → τ b = σ b := fun b hb => by rw [← hτ, iw_up_ne hb, iw_up_ne hb]
    have hst := im_stateAt (a := 4) t1 (by omega)
    have hc : ((od + 1) % 5 + 4) % 5 = od := by omega
    rw [hc] at hst
    have hnet := im_net44 ho
    obtain ⟨c1, c2⟩ := im_copyFrom hnet iw_net_20 (by omega) τ
    have c4 : f_X1_copyFrom (44 + 8 * od) 20 τ 4 = τ 4 := c1 4 (fun j _ _ => by omega)
    have e2 : f_X0_record 20 σ = iw_up (f_X1_copyFrom (44 + 8 * od) 20 τ) 4 2 (nI 5) := by
      rw [e1]
      unfold f_X0_record_J30 iw_on
      rw [t2, hst]
      simp only [im_let]
      rw [c4, t2]
      rfl
    refine ⟨(od + 1) % 5, 44 + 8 * od, ?_, by omega, ?_, fun h => by omega, fun _ => ⟨rfl, rfl⟩, fun b hb hj => ?_, fun j a b k hk => ?_⟩
    · rw [e2, im_upn (by decide), c4, t1]
    · rw [e2, im_ups]
      rfl
    · rw [e2, iw_up_ne hb, c1 b hj, t3 b hb]
    · rw [e2, iw_up_ne (by omega), c2 j a b k hk, t3 _ (by omega)]
  · have hst := im_stateAt (a := sz) h1 (by omega)
    have hnet := im_net44 (Nat.mod_lt (od + sz) (show 0 < 5 by decide))
    obtain ⟨c1, c2⟩ := im_copyFrom hnet iw_net_20 (by omega) σ
    have c4 : f_X1_copyFrom (44 + 8 * ((od + sz) % 5)) 20 σ 4 = σ 4 := c1 4 (fun j _ _ => by omega)
    have e2 : f_X0_record 20 σ = iw_up (f_X1_copyFrom (44 + 8 * ((od + sz) % 5)) 20 σ) 4 2 (nI (sz + 1)) := by
      unfold f_X0_record
      rw [if_neg (by rw [h2, im_lit 5, im_eq (by omega) (by decide)]; exact h5)]
      unfold f_X0_record_J30 iw_on
      rw [h2, hst]
      simp only [im_let]
      rw [c4, h2, nI_1]
    refine ⟨od, 44 + 8 * ((od + sz) % 5), ?_, ho, ?_, fun _ => ⟨rfl, rfl⟩, fun h => absurd h h5, fun b hb hj => ?_, fun j a b k hk => ?_⟩
    · rw [e2, im_upn (by decide), c4, h1]
    · rw [e2, im_ups]
      congr 1
      omega
    · rw [e2, iw_up_ne hb, c1 b hj]
    · rw [e2, iw_up_ne (by omega), c2 j a b k hk]
theorem im_rec {n : Nat} (hn : 4096 ≤ n) {σx σm : iw_M} (h : im_RR σx σm) : ∃ σm', f_X6_saves n σm = some σm' ∧ im_RR (f_X0_record 20 σx) σm' ∧ (∀ k, k < 465 → σm' 85 k = σm 85 k) ∧ ∀ b, 20 ≤ b → b ≤ 27 → f_X0_record 20 σx b = σx b := by
  obtain ⟨hn0, hw, ⟨sz, od, g1, g2, g3, g4, g5, g6⟩, len, t1, t2, t3, t4⟩ := h
  obtain ⟨σm', s1, s2, s3, s4, s5, s6⟩ := im_saves hn g1 g5
  obtain ⟨od', c2, r1, r2, r3, r4, r5, r6, r7⟩ := im_record g1 g2 g3 g4
  have hc2 : c2 = 44 ∨ c2 = 52 ∨ c2 = 60 ∨ c2 = 68 ∨ c2 = 76 := by
    by_cases q : sz = 5
    · have := (r5 q).2
      omega
    · have := (r4 (by omega)).2
      have := Nat.mod_lt (od + sz) (show 0 < 5 by decide)
      omega
  have hnet2 : iw_net c2 := by unfold iw_net; omega
  have hrow : ∀ b, 20 ≤ b → b ≤ 27 → f_X0_record 20 σx b = σx b := fun b h1 h2 => r6 b (by omega) (fun j _ _ => by omega)
  have hsl0 : ∀ k, k < 465 → im_sl σm' 0 k = im_sl σm 0 k := s4
  refine ⟨σm', s1, ⟨im_NR_row (im_NR_congr hn0 (fun j a b => hrow _ (by omega) (by omega))) hw hsl0, im_WF_row hw hsl0, ⟨min (sz + 1) 5, od', by omega, r2, r3, r1, ?_, fun j hj => ?_⟩, len, t1, ?_, ?_, fun k hk => ?_⟩, fun k hk => ?_, hrow⟩
  · by_cases q : sz = 5
    · rw [(s6 q).1, q]; rfl
    · rw [(s5 (by omega)).1]
      congr 1
      omega
  · have key : ∀ t, t ≤ 5 → (∀ k, k < 465 → im_sl σm' (j + 1) k = im_sl σm t k) → im_WF (im_sl σm t) → (im_NR (f_X0_record 20 σx) (44 + 8 * ((od' + j) % 5)) (im_sl σm t)) → im_NR (f_X0_record 20 σx) (44 + 8 * ((od' + j) % 5)) (im_sl σm' (j + 1)) ∧ im_WF (im_sl σm' (j + 1)) := fun t _ e w nr => ⟨im_NR_row nr w e, im_WF_row w e⟩
    have hcopy : im_NR (f_X0_record 20 σx) c2 (im_sl σm 0) := im_NR_cp hnet2 hw hn0 r7
    have hkeep : ∀ c, c ≠ c2 → (c = 44 ∨ c = 52 ∨ c = 60 ∨ c = 68 ∨ c = 76) → ∀ ρ, im_NR σx c ρ → im_NR (f_X0_record 20 σx) c ρ := fun c hc hcc ρ hr => im_NR_congr hr (fun i a b => r6 _ (by omega) (fun i' _ _ => by omega))
    by_cases q : sz = 5
    · obtain ⟨e1, e2⟩ := r5 q
      have e3 := (s6 q).2
      by_cases q4 : j = 4
      · subst q4
        refine key 0 (by omega) (fun k hk => by rw [e3 5 k (by omega) (by omega) hk, if_pos rfl]) hw ?_
        rw [show (od' + 4) % 5 = od by omega, ← e2]
        exact hcopy
      · have hj4 : j < 4 := by omega
        obtain ⟨a, b⟩ := g6 (j + 1) (by omega)
        refine key (j + 2) (by omega) (fun k hk => by rw [e3 (j + 1) k (by omega) (by omega) hk, if_neg (by omega)]) b ?_
        rw [show (od' + j) % 5 = (od + (j + 1)) % 5 by omega]
        have := Nat.mod_lt (od + (j + 1)) (show 0 < 5 by decide)
        exact hkeep _ (by omega) (by omega) _ a
    · obtain ⟨e1, e2⟩ := r4 (by omega)
      have e3 := (s5 (by omega)).2
      by_cases q4 : j = sz
      · subst q4
        refine key 0 (by omega) (fun k hk => by rw [e3 (j + 1) k (by omega) hk, if_pos rfl]) hw ?_
        rw [e1, ← e2]
        exact hcopy
      · obtain ⟨a, b⟩ := g6 j (by omega)
        refine key (j + 1) (by omega) (fun k hk => by rw [e3 (j + 1) k (by omega) hk, if_neg (by omega)]) b ?_
        rw [e1]
        have := Nat.mod_lt (od + j) (show 0 < 5 by decide)
        have := Nat.mod_lt (od + sz) (show 0 < 5 by decide)
        exact hkeep _ (by omega) (by omega) _ a
  · rw [r6 6 (by omega) (fun j _ _ => by omega)]; exact t2
  · rw [s3 11 (by decide)]; exact t3
  · rw [r6 7 (by omega) (fun j _ _ => by omega), s2 92 (by decide) (by decide)]; exact t4 k hk
  · have := hsl0 k hk
    unfold im_sl at this
    rw [Nat.mul_zero, Nat.zero_add] at this
    exact this
