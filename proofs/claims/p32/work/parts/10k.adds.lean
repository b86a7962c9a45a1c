/-- a row is set to one value between two places -/
def im_fl (σ : iw_M) (a lo hi : Nat) (v : Int32) : iw_M := fun r => if r = a then (fun k => if lo ≤ k ∧ k < hi then v else σ a k) else σ r
theorem im_fl_step {σ : iw_M} {a lo hi : Nat} {v : Int32} (h : lo < hi) : im_fl (iw_up σ a lo v) a (lo + 1) hi v = im_fl σ a lo hi v := by
  funext r
  unfold im_fl
  by_cases hr : r = a
  · subst hr
    rw [if_pos rfl, if_pos rfl]
    funext k
    by_cases q : lo + 1 ≤ k ∧ k < hi
    · rw [if_pos q, if_pos (by omega)]
    · rw [if_neg q]
      by_cases q2 : k = lo
      · subst q2; rw [im_ups, if_pos (by omega)]
      · rw [im_upn q2, if_neg (by omega)]
  · rw [if_neg hr, if_neg hr, iw_up_ne hr]
theorem im_fl_end {σ : iw_M} {a hi : Nat} {v : Int32} : im_fl σ a hi hi v = σ := by
  funext r
  unfold im_fl
  by_cases hr : r = a
  · subst hr
    rw [if_pos rfl]
    funext k
    rw [if_neg (by omega)]
  · rw [if_neg hr]
theorem im_fl_o {σ : iw_M} {a lo hi r : Nat} {v : Int32} (h : r ≠ a) : im_fl σ a lo hi v r = σ r := if_neg h
theorem im_fl_e {σ : iw_M} {a lo hi k : Nat} {v : Int32} : im_fl σ a lo hi v a k = if lo ≤ k ∧ k < hi then v else σ a k := by
  unfold im_fl
  rw [if_pos rfl]
theorem im_appInt_L {c I : Nat} (hc : iw_net c) (hI : I < 5) (k : iw_M → Option (Int32 × iw_M)) : ∀ (d i nn : Nat) (σ : iw_M), i + d = 6 → d < nn → f_X1_appendInterest_L121 c (nI I) k nn (nI i) σ = k (im_fl σ (c + 6) (6 * I + i) (6 * I + 6) 0) := by
  have g := im_al_n c hc
  intro d
  induction d with
  | zero =>
    intro i nn σ h1 h2
    obtain ⟨nn, rfl⟩ : ∃ q, nn = q + 1 := ⟨nn - 1, by omega⟩
    have e : i = 6 := by omega
    subst e
    rw [s_X1_appendInterest_121]
    unfold f_X1_appendInterest_B121
    rw [if_pos (by decide), im_fl_end]
  | succ d ih =>
    intro i nn σ h1 h2
    obtain ⟨nn, rfl⟩ : ∃ q, nn = q + 1 := ⟨nn - 1, by omega⟩
    rw [s_X1_appendInterest_121]
    unfold f_X1_appendInterest_B121
    rw [if_neg (by rw [im_lit 6, im_le (by decide) (by omega)]; omega), im_wayOf, im_put (by omega), im_let, im_let, nI_1, ih (i + 1) nn _ (by omega) (by omega), ← Nat.add_assoc, im_fl_step (by omega)]
theorem im_appendInterest {n : Nat} (hn : 4096 ≤ n) {c I : Nat} (hc : iw_net c) (hI : I < 5) {σ : iw_M} (h3 : σ (c + 1) 3 = nI I) (a b d e f : Int32) : ∃ σ', f_X1_appendInterest n c a b d e f σ = some (nI I, σ') ∧ σ' (c + 1) 3 = nI (I + 1) ∧ (∀ j, j ≠ 3 → σ' (c + 1) j = σ (c + 1) j) ∧ (∀ j, ¬ (7 * I ≤ j ∧ j < 7 * I + 7) → σ' (c + 5) j = σ (c + 5) j) ∧ (σ' (c + 5) (7 * I) = a ∧ σ' (c + 5) (7 * I + 1) = b ∧ σ' (c + 5) (7 * I + 2) = d ∧ σ' (c + 5) (7 * I + 3) = e ∧ σ' (c + 5) (7 * I + 4) = f ∧ σ' (c + 5) (7 * I + 5) = 0 ∧ σ' (c + 5) (7 * I + 6) = 0) ∧ (∀ j, ¬ (6 * I ≤ j ∧ j < 6 * I + 6) → σ' (c + 6) j = σ (c + 6) j) ∧ (∀ s, s < 6 → σ' (c + 6) (6 * I + s) = 0) ∧ ∀ r, r ≠ c + 1 → r ≠ c + 5 → r ≠ c + 6 → σ' r = σ r := by
  have g := im_al_n c hc
  have e1 : f_X5_at (c + 1) (3 : Int32) σ = nI I := by rw [show (3 : Int32) = nI 3 from rfl, im_at (by omega), h3]
  have e2 : f_X1_appendInterest n c a b d e f σ = some (nI I, iw_up (im_fl (iw_up (iw_up (iw_up (iw_up (iw_up (iw_up (iw_up σ (c + 5) (7 * I) a) (c + 5) (7 * I + 1) b) (c + 5) (7 * I + 2) d) (c + 5) (7 * I + 3) e) (c + 5) (7 * I + 4) f) (c + 5) (7 * I + 5) 0) (c + 5) (7 * I + 6) 0) (c + 6) (6 * I) (6 * I + 6) 0) (c + 1) 3 (nI (I + 1))) := by
    unfold f_X1_appendInterest
    simp only [im_let]
    rw [e1]
    have m : ∀ w : Nat, (nI I * (7 : Int32)) + nI w = nI (7 * I + w) := fun w => by rw [im_lit 7, pk_mul, nI_add, Nat.mul_comm]
    rw [show (nI I * (7 : Int32)) + (0 : Int32) = nI (7 * I) from m 0, show (nI I * (7 : Int32)) + (1 : Int32) = nI (7 * I + 1) from m 1, show (nI I * (7 : Int32)) + (2 : Int32) = nI (7 * I + 2) from m 2, show (nI I * (7 : Int32)) + (3 : Int32) = nI (7 * I + 3) from m 3, show (nI I * (7 : Int32)) + (4 : Int32) = nI (7 * I + 4) from m 4, show (nI I * (7 : Int32)) + (5 : Int32) = nI (7 * I + 5) from m 5, show (nI I * (7 : Int32)) + (6 : Int32) = nI (7 * I + 6) from m 6]
    rw [im_put (k := 7 * I) (by omega), im_put (k := 7 * I + 1) (by omega), im_put (k := 7 * I + 2) (by omega), im_put (k := 7 * I + 3) (by omega), im_put (k := 7 * I + 4) (by omega), im_put (k := 7 * I + 5) (by omega), im_put (k := 7 * I + 6) (by omega)]
    rw [show f_X1_appendInterest_L121 c (nI I) (f_X1_appendInterest_X149_121 c (nI I)) n (0 : Int32) = f_X1_appendInterest_L121 c (nI I) (f_X1_appendInterest_X149_121 c (nI I)) n (nI 0) from rfl, im_appInt_L hc hI _ 6 0 n _ (by omega) (by omega)]
    unfold f_X1_appendInterest_X149_121
    rw [im_let, show (3 : Int32) = nI 3 from rfl, im_put (by omega), nI_1]
    rfl
  refine ⟨_, e2, im_ups, fun j hj => ?_, fun j hj => ?_, ⟨?_, ?_, ?_, ?_, ?_, ?_, ?_⟩, fun j hj => ?_, fun s hs => ?_, fun r r1 r5 r6 => ?_⟩
  · rw [im_upn hj, im_fl_o (by omega), im_upo (by omega), im_upo (by omega), im_upo (by omega), im_upo (by omega), im_upo (by omega), im_upo (by omega), im_upo (by omega)]
  · rw [im_upo (by omega), im_fl_o (by omega), im_upn (by omega), im_upn (by omega), im_upn (by omega), im_upn (by omega), im_upn (by omega), im_upn (by omega), im_upn (by omega)]
  · rw [im_upo (by omega), im_fl_o (by omega), im_upn (by omega), im_upn (by omega), im_upn (by omega), im_upn (by omega), im_upn (by omega), im_upn (by omega), im_ups]
  · rw [im_upo (by omega), im_fl_o (by omega), im_upn (by omega), im_upn (by omega), im_upn (by omega), im_upn (by omega), im_upn (by omega), im_ups]
  · rw [im_upo (by omega), im_fl_o (by omega), im_upn (by omega), im_upn (by omega), im_upn (by omega), im_upn (by omega), im_ups]
  · rw [im_upo (by omega), im_fl_o (by omega), im_upn (by omega), im_upn (by omega), im_upn (by omega), im_ups]
  · rw [im_upo (by omega), im_fl_o (by omega), im_upn (by omega), im_upn (by omega), im_ups]
  · rw [im_upo (by omega), im_fl_o (by omega), im_upn (by omega), im_ups]
  · rw [im_upo (by omega), im_fl_o (by omega), im_ups]
  · rw [im_upo (by omega), im_fl_e, if_neg hj, im_upo (by omega), im_upo (by omega), im_upo (by omega), im_upo (by omega), im_upo (by omega), im_upo (by omega), im_upo (by omega)]
  · rw [im_upo (by omega), im_fl_e, if_pos (by omega)]
  · rw [iw_up_ne r1, im_fl_o r6, iw_up_ne r5, iw_up_ne r5, iw_up_ne r5, iw_up_ne r5, iw_up_ne r5, iw_up_ne r5, iw_up_ne r5]
/-- the reference clears the new interest's ways -/
def im_z6 (σ : iw_M) (I s : Nat) : iw_M := fun r => if r = 85 then (fun k => if 135 + 66 * I ≤ k ∧ (k - (135 + 66 * I)) % 11 = 0 ∧ s ≤ (k - (135 + 66 * I)) / 11 ∧ (k - (135 + 66 * I)) / 11 < 6 then 0 else σ 85 k) else σ r
theorem im_z6_c {I s k : Nat} : (135 + 66 * I ≤ k ∧ (k - (135 + 66 * I)) % 11 = 0 ∧ s ≤ (k - (135 + 66 * I)) / 11 ∧ (k - (135 + 66 * I)) / 11 < 6) ↔ ∃ s', s ≤ s' ∧ s' < 6 ∧ k = im_wa I s' := by
  unfold im_wa
  constructor
  · intro h
    exact ⟨(k - (135 + 66 * I)) / 11, by omega, by omega, by omega⟩
  · rintro ⟨i', a, b, rfl⟩
    omega
theorem im_z6_step {σ : iw_M} {I s : Nat} (h : s < 6) : im_z6 (iw_up σ 85 (im_wa I s) 0) I (s + 1) = im_z6 σ I s := by
  funext r
  unfold im_z6
  by_cases hr : r = 85
  · subst hr
    rw [if_pos rfl, if_pos rfl]
    funext k
    by_cases q : ∃ i', s + 1 ≤ i' ∧ i' < 6 ∧ k = im_wa I i'
    · rw [if_pos (im_z6_c.mpr q), if_pos]
      obtain ⟨i', a, b, d⟩ := q
      exact im_z6_c.mpr ⟨i', by omega, b, d⟩
    · rw [if_neg (fun z => q (im_z6_c.mp z))]
      by_cases q2 : k = im_wa I s
      · subst q2; rw [im_ups, if_pos (im_z6_c.mpr ⟨s, Nat.le_refl _, h, rfl⟩)]
      · rw [im_upn q2, if_neg]
        intro z
        obtain ⟨i', a, b, d⟩ := im_z6_c.mp z
        by_cases e : i' = s
        · subst e; exact q2 d
        · exact q ⟨i', by omega, b, d⟩
  · rw [if_neg hr, if_neg hr, iw_up_ne hr]
theorem im_ask_L {I : Nat} (hI : I < 5) (k : iw_M → Option (Int32 × iw_M)) : ∀ (d i nn : Nat) (σ : iw_M), i + d = 6 → d < nn → f_X6_ask_L167 (nI I) k nn (nI i) σ = k (im_z6 σ I i) := by
  intro d
  induction d with
  | zero =>
    intro i nn σ h1 h2
    obtain ⟨nn, rfl⟩ : ∃ q, nn = q + 1 := ⟨nn - 1, by omega⟩
    have e : i = 6 := by omega
    subst e
    rw [s_X6_ask_167]
    unfold f_X6_ask_B167
    rw [if_pos (by decide)]
    congr 1
    funext r
    unfold im_z6
    by_cases hr : r = 85
    · subst hr
      rw [if_pos rfl]
      funext k
      rw [if_neg (by omega)]
    · rw [if_neg hr]
  | succ d ih =>
    intro i nn σ h1 h2
    obtain ⟨nn, rfl⟩ : ∃ q, nn = q + 1 := ⟨nn - 1, by omega⟩
    have hwa : im_wa I i < 3255 := by unfold im_wa; omega
    rw [s_X6_ask_167]
    unfold f_X6_ask_B167
    rw [if_neg (by rw [im_lit 6, im_le (by decide) (by omega)]; omega), im_wayAt, im_wr (by rw [im_al85]; exact hwa), im_bind, im_let, nI_1, ih (i + 1) nn _ (by omega) (by omega), im_z6_step (by omega)]
theorem im_ask2 {σ : iw_M} : iw_rd σ 85 2 = some (σ 85 2) := im_m_rd (k := 2) (by decide)
theorem sim_addSensor_ok (n : Nat) (hn : 4096 ≤ n) : sim_addSensor n im_RR := by
  intro p1 p2 p3 σx σm h
  obtain ⟨hN, hW⟩ := im_0 h
  obtain ⟨⟨N, N1, N2, N3, N4⟩, -, ⟨S, S1, S2, S3, S4⟩, -⟩ := im_cnt hN hW
  unfold f_X5_addSensor f_X6_addSensor
  rw [show f_X1_has 20 (0 : Int32) p1 σx = f_X1_has 20 (nI 0) p1 σx from rfl, im_has iw_net_20 (by decide) (by omega) p1 N4, im_isNode p1 (by omega) N3, im_bind, im_b01, im_b01, im_within, im_isKind, im_b01, im_b01, im_within, im_isMeasure, im_b01, im_b01]
  by_cases c : ∃ k, k < N ∧ p1 = nI k
  · rw [if_pos c, if_pos c]
    by_cases d : 0 ≤ p2 ∧ p2 ≤ 7
    · rw [if_pos d, if_pos d]
      by_cases e : -100 ≤ p3 ∧ p3 ≤ 100
      · rw [if_pos e, if_pos e]
        rw [show f_X1_number n 20 (2 : Int32) σx = f_X1_number n 20 (nI 2) σx from rfl, im_num n iw_net_20 (by decide) (by decide), im_bind, S4, show iw_rd σm 85 (2 : Int32) = iw_rd σm 85 (nI 2) from rfl, im_m_rd (by decide), im_bind, S3]
        by_cases f : S = 6
        · rw [if_neg (by rw [im_lit 6, im_lt (by omega) (by decide)]; omega), if_pos (by rw [f]; rfl)]
          exact ⟨_, _, _, rfl, rfl, h⟩
        · rw [if_pos (by rw [im_lit 6, im_lt (by omega) (by decide)]; omega), if_neg (by rw [im_lit 6, im_eq (by omega) (by decide)]; exact f)]
          obtain ⟨k, hk, rfl⟩ := c
          obtain ⟨σm', s1, h', hr, -⟩ := im_rec hn h
          obtain ⟨hN', hW'⟩ := im_0 h'
          have m0 : σm' 85 2 = nI S := by rw [hr 2 (by omega)]; exact S3
          have x0 : f_X0_record 20 σx (20 + 1) 2 = nI S := by rw [hN'.1 2 (by decide) (by decide)]; exact m0
          have n0 : im_tn (σm' 85 0) = N := by rw [hr 0 (by omega)]; exact N2
          generalize f_X0_record 20 σx = σx' at h' hN' x0 ⊢
          have t0 : im_tn (σm' 85 2) = S := by rw [m0, im_tn_nI (by omega)]
          rw [s1, im_bind, im_laysSensor hn (by omega) m0, im_bind, im_ask2, im_bind, im_ups, im_let, im_appendSensor iw_net_20 (by omega) x0]
          unfold iw_let2
          simp only []
          have e1 : nI (S + 1) - 1 = nI S := by rw [show (1 : Int32) = nI 1 from rfl, pk_sub (by omega)]; rfl
          rw [e1]
          generalize hρ : iw_up (im_z5 (iw_up (iw_up (iw_up σm' 85 (82 + 3 * S) (nI k)) 85 (82 + 3 * S + 1) p2) 85 (82 + 3 * S + 2) p3) S 0) 85 2 (nI (S + 1)) = τ
          have zz : ∀ j, im_z5 (iw_up (iw_up (iw_up σm' 85 (82 + 3 * S) (nI k)) 85 (82 + 3 * S + 1) p2) 85 (82 + 3 * S + 2) p3) S 0 85 j = if 135 + 11 * S ≤ j ∧ (j - (135 + 11 * S)) % 66 = 0 ∧ 0 ≤ (j - (135 + 11 * S)) / 66 ∧ (j - (135 + 11 * S)) / 66 < 5 then 0 else (iw_up (iw_up (iw_up σm' 85 (82 + 3 * S) (nI k)) 85 (82 + 3 * S + 1) p2) 85 (82 + 3 * S + 2) p3) 85 j := fun j => by
            unfold im_z5
            rw [if_pos rfl]
          have he : ∀ j, j ≠ 2 → ¬ (82 + 3 * S ≤ j ∧ j < 82 + 3 * S + 3) → (∀ i, i < 5 → j ≠ im_wa i S) → τ 85 j = σm' 85 j := fun j j1 j2 j3 => by
            rw [← hρ, im_upn j1, zz, if_neg (fun z => by
              obtain ⟨i', -, b, d⟩ := im_z5_c.mp z
              exact j3 i' b d), im_upn (by omega), im_upn (by omega), im_upn (by omega)]
          have h2 : τ 85 2 = nI (S + 1) := by rw [← hρ, im_ups]
          have hz : ∀ i, i < 5 → τ 85 (im_wa i S) = 0 := fun i hi => by
            rw [← hρ, im_upn (by have := im_wa_ge i S; omega), zz, if_pos (im_z5_c.mpr ⟨i, Nat.zero_le _, hi, rfl⟩)]
          have hs0 : τ 85 (82 + 3 * S) = nI k := by rw [← hρ, im_upn (by omega), zz, if_neg (by omega), im_upn (by omega), im_upn (by omega), im_ups]
          have hs1 : τ 85 (82 + (3 * S + 1)) = p2 := by rw [← Nat.add_assoc, ← hρ, im_upn (by omega), zz, if_neg (by omega), im_upn (by omega), im_ups]
          have hs2 : τ 85 (82 + (3 * S + 2)) = p3 := by rw [← Nat.add_assoc, ← hρ, im_upn (by omega), zz, if_neg (by omega), im_ups]
          have ho : ∀ r, r ≠ 85 → τ r = σm' r := fun r hr => by
            rw [← hρ, iw_up_ne hr]
            unfold im_z5
            rw [if_neg hr, iw_up_ne hr, iw_up_ne hr, iw_up_ne hr]
          refine ⟨_, _, _, rfl, rfl, im_upd h' (fun b hb => by rw [iw_up_ne (by omega), iw_up_ne (by omega), iw_up_ne (by omega), iw_up_ne (by omega)]) (by rw [ho 84 (by decide)]) (by rw [ho 84 (by decide)]) (ho 92 (by decide)) (fun j j1 j2 => he j (by omega) (by omega) (fun i hi => by unfold im_wa; omega)) ?_ ?_⟩
          · rw [im_sl0]
            refine im_NR_sens hW' hN' t0 (by omega) h2 hz (fun j _ => he j) (by rw [im_ups]) (fun j hj => by rw [im_upn hj, im_upo (by decide), im_upo (by decide), im_upo (by decide)]) (fun j hj => by rw [im_upo (by decide), im_upn (by omega), im_upn (by omega), im_upn (by omega)]) (fun j a b => ?_) (fun j a b hj => by rw [iw_up_ne (by omega), iw_up_ne (by omega), iw_up_ne (by omega), iw_up_ne (by omega)])
            rw [im_upo (by decide)]
            rcases (show j = 3 * S ∨ j = 3 * S + 1 ∨ j = 3 * S + 2 by omega) with rfl | rfl | rfl
            · rw [im_upn (by omega), im_upn (by omega), im_ups, hs0]
            · rw [im_upn (by omega), im_ups, hs1]
            · rw [im_ups, hs2]
          · rw [im_sl0]
            exact im_WF_sens hW' t0 (by omega) h2 (by omega) hs0 hz (fun j _ => he j)
      · rw [if_neg e, if_neg e]
        exact ⟨_, _, _, rfl, rfl, h⟩
    · rw [if_neg d, if_neg d]
      exact ⟨_, _, _, rfl, rfl, h⟩
  · rw [if_neg c, if_neg c]
    exact ⟨_, _, _, rfl, rfl, h⟩
